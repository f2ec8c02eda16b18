theorem dQ_define_0 : decode prog_10_method_21_code 0 = .ok (.aload_n 0, 1) := by decide +kernel
theorem dQ_define_1 : decode prog_10_method_21_code 1 = .ok (.iconst 0, 1) := by decide +kernel
theorem dQ_define_2 : decode prog_10_method_21_code 2 = .ok (.putfield 135, 3) := by decide +kernel
theorem dQ_define_5 : decode prog_10_method_21_code 5 = .ok (.aload_n 0, 1) := by decide +kernel
theorem dQ_define_6 : decode prog_10_method_21_code 6 = .ok (.invokevirtual 217, 3) := by decide +kernel
theorem dQ_define_9 : decode prog_10_method_21_code 9 = .ok (.aload_n 0, 1) := by decide +kernel
theorem dQ_define_10 : decode prog_10_method_21_code 10 = .ok (.iconst 0, 1) := by decide +kernel
theorem dQ_define_11 : decode prog_10_method_21_code 11 = .ok (.putfield 145, 3) := by decide +kernel
theorem dQ_define_14 : decode prog_10_method_21_code 14 = .ok (.aload_n 0, 1) := by decide +kernel
theorem dQ_define_15 : decode prog_10_method_21_code 15 = .ok (.getfield 155, 3) := by decide +kernel
theorem dQ_define_18 : decode prog_10_method_21_code 18 = .ok (.ifCond .ne 12, 3) := by decide +kernel
theorem dQ_define_21 : decode prog_10_method_21_code 21 = .ok (.iload_n 1, 1) := by decide +kernel
theorem dQ_define_22 : decode prog_10_method_21_code 22 = .ok (.ifCond .lt 8, 3) := by decide +kernel
theorem dQ_define_25 : decode prog_10_method_21_code 25 = .ok (.iload_n 1, 1) := by decide +kernel
theorem dQ_define_26 : decode prog_10_method_21_code 26 = .ok (.iconst 3, 1) := by decide +kernel
theorem dQ_define_27 : decode prog_10_method_21_code 27 = .ok (.if_icmp .le 9, 3) := by decide +kernel
theorem dQ_define_30 : decode prog_10_method_21_code 30 = .ok (.aload_n 0, 1) := by decide +kernel
theorem dQ_define_31 : decode prog_10_method_21_code 31 = .ok (.iconst 1, 1) := by decide +kernel
theorem dQ_define_32 : decode prog_10_method_21_code 32 = .ok (.invokevirtual 220, 3) := by decide +kernel
theorem dQ_define_35 : decode prog_10_method_21_code 35 = .ok (.ireturn, 1) := by decide +kernel
theorem dQ_define_36 : decode prog_10_method_21_code 36 = .ok (.aload_n 0, 1) := by decide +kernel
theorem dQ_define_37 : decode prog_10_method_21_code 37 = .ok (.getfield 182, 3) := by decide +kernel
theorem dQ_define_40 : decode prog_10_method_21_code 40 = .ok (.ifCond .eq 9, 3) := by decide +kernel
theorem dQ_define_43 : decode prog_10_method_21_code 43 = .ok (.aload_n 0, 1) := by decide +kernel
theorem dQ_define_44 : decode prog_10_method_21_code 44 = .ok (.iconst 2, 1) := by decide +kernel
theorem dQ_define_45 : decode prog_10_method_21_code 45 = .ok (.invokevirtual 220, 3) := by decide +kernel
theorem dQ_define_48 : decode prog_10_method_21_code 48 = .ok (.ireturn, 1) := by decide +kernel
theorem dQ_define_49 : decode prog_10_method_21_code 49 = .ok (.bipush 120, 2) := by decide +kernel
theorem dQ_define_51 : decode prog_10_method_21_code 51 = .ok (.iload_n 1, 1) := by decide +kernel
theorem dQ_define_52 : decode prog_10_method_21_code 52 = .ok (.iconst 1, 1) := by decide +kernel
theorem dQ_define_53 : decode prog_10_method_21_code 53 = .ok (.iadd, 1) := by decide +kernel
theorem dQ_define_54 : decode prog_10_method_21_code 54 = .ok (.imul, 1) := by decide +kernel
theorem dQ_define_55 : decode prog_10_method_21_code 55 = .ok (.istore_n 2, 1) := by decide +kernel
theorem dQ_define_56 : decode prog_10_method_21_code 56 = .ok (.iconst 0, 1) := by decide +kernel
theorem dQ_define_57 : decode prog_10_method_21_code 57 = .ok (.istore_n 3, 1) := by decide +kernel
theorem dQ_define_58 : decode prog_10_method_21_code 58 = .ok (.iload_n 3, 1) := by decide +kernel
theorem dQ_define_59 : decode prog_10_method_21_code 59 = .ok (.bipush 120, 2) := by decide +kernel
theorem dQ_define_61 : decode prog_10_method_21_code 61 = .ok (.if_icmp .ge 135, 3) := by decide +kernel
theorem dQ_define_64 : decode prog_10_method_21_code 64 = .ok (.aload_n 0, 1) := by decide +kernel
theorem dQ_define_65 : decode prog_10_method_21_code 65 = .ok (.getfield 13, 3) := by decide +kernel
theorem dQ_define_68 : decode prog_10_method_21_code 68 = .ok (.iload_n 2, 1) := by decide +kernel
theorem dQ_define_69 : decode prog_10_method_21_code 69 = .ok (.iload_n 3, 1) := by decide +kernel
theorem dQ_define_70 : decode prog_10_method_21_code 70 = .ok (.iadd, 1) := by decide +kernel
theorem dQ_define_71 : decode prog_10_method_21_code 71 = .ok (.aload_n 0, 1) := by decide +kernel
theorem dQ_define_72 : decode prog_10_method_21_code 72 = .ok (.getfield 13, 3) := by decide +kernel
theorem dQ_define_75 : decode prog_10_method_21_code 75 = .ok (.iload_n 3, 1) := by decide +kernel
theorem dQ_define_76 : decode prog_10_method_21_code 76 = .ok (.iaload, 1) := by decide +kernel
theorem dQ_define_77 : decode prog_10_method_21_code 77 = .ok (.iastore, 1) := by decide +kernel
theorem dQ_define_78 : decode prog_10_method_21_code 78 = .ok (.aload_n 0, 1) := by decide +kernel
theorem dQ_define_79 : decode prog_10_method_21_code 79 = .ok (.getfield 16, 3) := by decide +kernel
theorem dQ_define_82 : decode prog_10_method_21_code 82 = .ok (.iload_n 2, 1) := by decide +kernel
theorem dQ_define_83 : decode prog_10_method_21_code 83 = .ok (.iload_n 3, 1) := by decide +kernel
theorem dQ_define_84 : decode prog_10_method_21_code 84 = .ok (.iadd, 1) := by decide +kernel
theorem dQ_define_85 : decode prog_10_method_21_code 85 = .ok (.aload_n 0, 1) := by decide +kernel
theorem dQ_define_86 : decode prog_10_method_21_code 86 = .ok (.getfield 16, 3) := by decide +kernel
theorem dQ_define_89 : decode prog_10_method_21_code 89 = .ok (.iload_n 3, 1) := by decide +kernel
theorem dQ_define_90 : decode prog_10_method_21_code 90 = .ok (.iaload, 1) := by decide +kernel
theorem dQ_define_91 : decode prog_10_method_21_code 91 = .ok (.iastore, 1) := by decide +kernel
theorem dQ_define_92 : decode prog_10_method_21_code 92 = .ok (.aload_n 0, 1) := by decide +kernel
theorem dQ_define_93 : decode prog_10_method_21_code 93 = .ok (.getfield 19, 3) := by decide +kernel
theorem dQ_define_96 : decode prog_10_method_21_code 96 = .ok (.iload_n 2, 1) := by decide +kernel
theorem dQ_define_97 : decode prog_10_method_21_code 97 = .ok (.iload_n 3, 1) := by decide +kernel
theorem dQ_define_98 : decode prog_10_method_21_code 98 = .ok (.iadd, 1) := by decide +kernel
theorem dQ_define_99 : decode prog_10_method_21_code 99 = .ok (.aload_n 0, 1) := by decide +kernel
theorem dQ_define_100 : decode prog_10_method_21_code 100 = .ok (.getfield 19, 3) := by decide +kernel
theorem dQ_define_103 : decode prog_10_method_21_code 103 = .ok (.iload_n 3, 1) := by decide +kernel
theorem dQ_define_104 : decode prog_10_method_21_code 104 = .ok (.iaload, 1) := by decide +kernel
theorem dQ_define_105 : decode prog_10_method_21_code 105 = .ok (.iastore, 1) := by decide +kernel
theorem dQ_define_106 : decode prog_10_method_21_code 106 = .ok (.aload_n 0, 1) := by decide +kernel
theorem dQ_define_107 : decode prog_10_method_21_code 107 = .ok (.getfield 22, 3) := by decide +kernel
theorem dQ_define_110 : decode prog_10_method_21_code 110 = .ok (.iload_n 2, 1) := by decide +kernel
theorem dQ_define_111 : decode prog_10_method_21_code 111 = .ok (.iload_n 3, 1) := by decide +kernel
theorem dQ_define_112 : decode prog_10_method_21_code 112 = .ok (.iadd, 1) := by decide +kernel
theorem dQ_define_113 : decode prog_10_method_21_code 113 = .ok (.aload_n 0, 1) := by decide +kernel
theorem dQ_define_114 : decode prog_10_method_21_code 114 = .ok (.getfield 22, 3) := by decide +kernel
theorem dQ_define_117 : decode prog_10_method_21_code 117 = .ok (.iload_n 3, 1) := by decide +kernel
theorem dQ_define_118 : decode prog_10_method_21_code 118 = .ok (.iaload, 1) := by decide +kernel
theorem dQ_define_119 : decode prog_10_method_21_code 119 = .ok (.iastore, 1) := by decide +kernel
theorem dQ_define_120 : decode prog_10_method_21_code 120 = .ok (.aload_n 0, 1) := by decide +kernel
theorem dQ_define_121 : decode prog_10_method_21_code 121 = .ok (.getfield 25, 3) := by decide +kernel
theorem dQ_define_124 : decode prog_10_method_21_code 124 = .ok (.iload_n 2, 1) := by decide +kernel
theorem dQ_define_125 : decode prog_10_method_21_code 125 = .ok (.iload_n 3, 1) := by decide +kernel
theorem dQ_define_126 : decode prog_10_method_21_code 126 = .ok (.iadd, 1) := by decide +kernel
theorem dQ_define_127 : decode prog_10_method_21_code 127 = .ok (.aload_n 0, 1) := by decide +kernel
theorem dQ_define_128 : decode prog_10_method_21_code 128 = .ok (.getfield 25, 3) := by decide +kernel
theorem dQ_define_131 : decode prog_10_method_21_code 131 = .ok (.iload_n 3, 1) := by decide +kernel
theorem dQ_define_132 : decode prog_10_method_21_code 132 = .ok (.iaload, 1) := by decide +kernel
theorem dQ_define_133 : decode prog_10_method_21_code 133 = .ok (.iastore, 1) := by decide +kernel
theorem dQ_define_134 : decode prog_10_method_21_code 134 = .ok (.aload_n 0, 1) := by decide +kernel
theorem dQ_define_135 : decode prog_10_method_21_code 135 = .ok (.getfield 28, 3) := by decide +kernel
theorem dQ_define_138 : decode prog_10_method_21_code 138 = .ok (.iload_n 2, 1) := by decide +kernel
theorem dQ_define_139 : decode prog_10_method_21_code 139 = .ok (.iload_n 3, 1) := by decide +kernel
theorem dQ_define_140 : decode prog_10_method_21_code 140 = .ok (.iadd, 1) := by decide +kernel
theorem dQ_define_141 : decode prog_10_method_21_code 141 = .ok (.aload_n 0, 1) := by decide +kernel
theorem dQ_define_142 : decode prog_10_method_21_code 142 = .ok (.getfield 28, 3) := by decide +kernel
theorem dQ_define_145 : decode prog_10_method_21_code 145 = .ok (.iload_n 3, 1) := by decide +kernel
theorem dQ_define_146 : decode prog_10_method_21_code 146 = .ok (.iaload, 1) := by decide +kernel
theorem dQ_define_147 : decode prog_10_method_21_code 147 = .ok (.iastore, 1) := by decide +kernel
theorem dQ_define_148 : decode prog_10_method_21_code 148 = .ok (.aload_n 0, 1) := by decide +kernel
theorem dQ_define_149 : decode prog_10_method_21_code 149 = .ok (.getfield 31, 3) := by decide +kernel
theorem dQ_define_152 : decode prog_10_method_21_code 152 = .ok (.iload_n 2, 1) := by decide +kernel
theorem dQ_define_153 : decode prog_10_method_21_code 153 = .ok (.iload_n 3, 1) := by decide +kernel
theorem dQ_define_154 : decode prog_10_method_21_code 154 = .ok (.iadd, 1) := by decide +kernel
theorem dQ_define_155 : decode prog_10_method_21_code 155 = .ok (.aload_n 0, 1) := by decide +kernel
theorem dQ_define_156 : decode prog_10_method_21_code 156 = .ok (.getfield 31, 3) := by decide +kernel
theorem dQ_define_159 : decode prog_10_method_21_code 159 = .ok (.iload_n 3, 1) := by decide +kernel
theorem dQ_define_160 : decode prog_10_method_21_code 160 = .ok (.baload, 1) := by decide +kernel
theorem dQ_define_161 : decode prog_10_method_21_code 161 = .ok (.bastore, 1) := by decide +kernel
theorem dQ_define_162 : decode prog_10_method_21_code 162 = .ok (.aload_n 0, 1) := by decide +kernel
theorem dQ_define_163 : decode prog_10_method_21_code 163 = .ok (.getfield 38, 3) := by decide +kernel
theorem dQ_define_166 : decode prog_10_method_21_code 166 = .ok (.iload_n 2, 1) := by decide +kernel
theorem dQ_define_167 : decode prog_10_method_21_code 167 = .ok (.iload_n 3, 1) := by decide +kernel
theorem dQ_define_168 : decode prog_10_method_21_code 168 = .ok (.iadd, 1) := by decide +kernel
theorem dQ_define_169 : decode prog_10_method_21_code 169 = .ok (.aload_n 0, 1) := by decide +kernel
theorem dQ_define_170 : decode prog_10_method_21_code 170 = .ok (.getfield 38, 3) := by decide +kernel
theorem dQ_define_173 : decode prog_10_method_21_code 173 = .ok (.iload_n 3, 1) := by decide +kernel
theorem dQ_define_174 : decode prog_10_method_21_code 174 = .ok (.iaload, 1) := by decide +kernel
theorem dQ_define_175 : decode prog_10_method_21_code 175 = .ok (.iastore, 1) := by decide +kernel
theorem dQ_define_176 : decode prog_10_method_21_code 176 = .ok (.aload_n 0, 1) := by decide +kernel
theorem dQ_define_177 : decode prog_10_method_21_code 177 = .ok (.getfield 41, 3) := by decide +kernel
theorem dQ_define_180 : decode prog_10_method_21_code 180 = .ok (.iload_n 2, 1) := by decide +kernel
theorem dQ_define_181 : decode prog_10_method_21_code 181 = .ok (.iload_n 3, 1) := by decide +kernel
theorem dQ_define_182 : decode prog_10_method_21_code 182 = .ok (.iadd, 1) := by decide +kernel
theorem dQ_define_183 : decode prog_10_method_21_code 183 = .ok (.aload_n 0, 1) := by decide +kernel
theorem dQ_define_184 : decode prog_10_method_21_code 184 = .ok (.getfield 41, 3) := by decide +kernel
theorem dQ_define_187 : decode prog_10_method_21_code 187 = .ok (.iload_n 3, 1) := by decide +kernel
theorem dQ_define_188 : decode prog_10_method_21_code 188 = .ok (.iaload, 1) := by decide +kernel
theorem dQ_define_189 : decode prog_10_method_21_code 189 = .ok (.iastore, 1) := by decide +kernel
theorem dQ_define_190 : decode prog_10_method_21_code 190 = .ok (.iinc 3 1, 3) := by decide +kernel
theorem dQ_define_193 : decode prog_10_method_21_code 193 = .ok (.goto (-135), 3) := by decide +kernel
theorem dQ_define_196 : decode prog_10_method_21_code 196 = .ok (.aload_n 0, 1) := by decide +kernel
theorem dQ_define_197 : decode prog_10_method_21_code 197 = .ok (.getfield 35, 3) := by decide +kernel
theorem dQ_define_200 : decode prog_10_method_21_code 200 = .ok (.iload_n 1, 1) := by decide +kernel
theorem dQ_define_201 : decode prog_10_method_21_code 201 = .ok (.iconst 1, 1) := by decide +kernel
theorem dQ_define_202 : decode prog_10_method_21_code 202 = .ok (.iadd, 1) := by decide +kernel
theorem dQ_define_203 : decode prog_10_method_21_code 203 = .ok (.aload_n 0, 1) := by decide +kernel
theorem dQ_define_204 : decode prog_10_method_21_code 204 = .ok (.getfield 35, 3) := by decide +kernel
theorem dQ_define_207 : decode prog_10_method_21_code 207 = .ok (.iconst 0, 1) := by decide +kernel
theorem dQ_define_208 : decode prog_10_method_21_code 208 = .ok (.iaload, 1) := by decide +kernel
theorem dQ_define_209 : decode prog_10_method_21_code 209 = .ok (.iastore, 1) := by decide +kernel
theorem dQ_define_210 : decode prog_10_method_21_code 210 = .ok (.aload_n 0, 1) := by decide +kernel
theorem dQ_define_211 : decode prog_10_method_21_code 211 = .ok (.getfield 35, 3) := by decide +kernel
theorem dQ_define_214 : decode prog_10_method_21_code 214 = .ok (.iconst 0, 1) := by decide +kernel
theorem dQ_define_215 : decode prog_10_method_21_code 215 = .ok (.iaload, 1) := by decide +kernel
theorem dQ_define_216 : decode prog_10_method_21_code 216 = .ok (.ireturn, 1) := by decide +kernel
def fQ_define_30 (z : lc_S) : Option ((Int32) × lc_S) :=
  lc_bnd (fQ_refuse 1 z) (fun r32 z32 => some (r32, z32))
def fQ_define_58 : Nat → Int32 → Int32 → Int32 → lc_S → Option ((Int32) × lc_S)
  | 0, _, _, _, _ => none
  | n + 1, x1, x2, x3, z => if 120 ≤ x3 then (lc_chk (lc_in (x1 + 1) 5) (some (lcI (lcUI z 89 (x1 + 1).toNatClampNeg (lcI z 89 (0 : Int32).toNatClampNeg)) 89 (0 : Int32).toNatClampNeg, lcUI z 89 (x1 + 1).toNatClampNeg (lcI z 89 (0 : Int32).toNatClampNeg)))) else (lc_chk (lc_in x3 600) (lc_chk (lc_in (x2 + x3) 600) (lc_chk (lc_in x3 600) (lc_chk (lc_in (x2 + x3) 600) (lc_chk (lc_in x3 600) (lc_chk (lc_in (x2 + x3) 600) (lc_chk (lc_in x3 600) (lc_chk (lc_in (x2 + x3) 600) (lc_chk (lc_in x3 600) (lc_chk (lc_in (x2 + x3) 600) (lc_chk (lc_in x3 600) (lc_chk (lc_in (x2 + x3) 600) (lc_chk (lc_in x3 600) (lc_chk (lc_in (x2 + x3) 600) (lc_chk (vp_nar .boolean (lcI (lcUI (lcUI (lcUI (lcUI (lcUI (lcUI z 82 (x2 + x3).toNatClampNeg (lcI z 82 x3.toNatClampNeg)) 83 (x2 + x3).toNatClampNeg (lcI (lcUI z 82 (x2 + x3).toNatClampNeg (lcI z 82 x3.toNatClampNeg)) 83 x3.toNatClampNeg)) 84 (x2 + x3).toNatClampNeg (lcI (lcUI (lcUI z 82 (x2 + x3).toNatClampNeg (lcI z 82 x3.toNatClampNeg)) 83 (x2 + x3).toNatClampNeg (lcI (lcUI z 82 (x2 + x3).toNatClampNeg (lcI z 82 x3.toNatClampNeg)) 83 x3.toNatClampNeg)) 84 x3.toNatClampNeg)) 85 (x2 + x3).toNatClampNeg (lcI (lcUI (lcUI (lcUI z 82 (x2 + x3).toNatClampNeg (lcI z 82 x3.toNatClampNeg)) 83 (x2 + x3).toNatClampNeg (lcI (lcUI z 82 (x2 + x3).toNatClampNeg (lcI z 82 x3.toNatClampNeg)) 83 x3.toNatClampNeg)) 84 (x2 + x3).toNatClampNeg (lcI (lcUI (lcUI z 82 (x2 + x3).toNatClampNeg (lcI z 82 x3.toNatClampNeg)) 83 (x2 + x3).toNatClampNeg (lcI (lcUI z 82 (x2 + x3).toNatClampNeg (lcI z 82 x3.toNatClampNeg)) 83 x3.toNatClampNeg)) 84 x3.toNatClampNeg)) 85 x3.toNatClampNeg)) 86 (x2 + x3).toNatClampNeg (lcI (lcUI (lcUI (lcUI (lcUI z 82 (x2 + x3).toNatClampNeg (lcI z 82 x3.toNatClampNeg)) 83 (x2 + x3).toNatClampNeg (lcI (lcUI z 82 (x2 + x3).toNatClampNeg (lcI z 82 x3.toNatClampNeg)) 83 x3.toNatClampNeg)) 84 (x2 + x3).toNatClampNeg (lcI (lcUI (lcUI z 82 (x2 + x3).toNatClampNeg (lcI z 82 x3.toNatClampNeg)) 83 (x2 + x3).toNatClampNeg (lcI (lcUI z 82 (x2 + x3).toNatClampNeg (lcI z 82 x3.toNatClampNeg)) 83 x3.toNatClampNeg)) 84 x3.toNatClampNeg)) 85 (x2 + x3).toNatClampNeg (lcI (lcUI (lcUI (lcUI z 82 (x2 + x3).toNatClampNeg (lcI z 82 x3.toNatClampNeg)) 83 (x2 + x3).toNatClampNeg (lcI (lcUI z 82 (x2 + x3).toNatClampNeg (lcI z 82 x3.toNatClampNeg)) 83 x3.toNatClampNeg)) 84 (x2 + x3).toNatClampNeg (lcI (lcUI (lcUI z 82 (x2 + x3).toNatClampNeg (lcI z 82 x3.toNatClampNeg)) 83 (x2 + x3).toNatClampNeg (lcI (lcUI z 82 (x2 + x3).toNatClampNeg (lcI z 82 x3.toNatClampNeg)) 83 x3.toNatClampNeg)) 84 x3.toNatClampNeg)) 85 x3.toNatClampNeg)) 86 x3.toNatClampNeg)) 87 (x2 + x3).toNatClampNeg (lcI (lcUI (lcUI (lcUI (lcUI (lcUI z 82 (x2 + x3).toNatClampNeg (lcI z 82 x3.toNatClampNeg)) 83 (x2 + x3).toNatClampNeg (lcI (lcUI z 82 (x2 + x3).toNatClampNeg (lcI z 82 x3.toNatClampNeg)) 83 x3.toNatClampNeg)) 84 (x2 + x3).toNatClampNeg (lcI (lcUI (lcUI z 82 (x2 + x3).toNatClampNeg (lcI z 82 x3.toNatClampNeg)) 83 (x2 + x3).toNatClampNeg (lcI (lcUI z 82 (x2 + x3).toNatClampNeg (lcI z 82 x3.toNatClampNeg)) 83 x3.toNatClampNeg)) 84 x3.toNatClampNeg)) 85 (x2 + x3).toNatClampNeg (lcI (lcUI (lcUI (lcUI z 82 (x2 + x3).toNatClampNeg (lcI z 82 x3.toNatClampNeg)) 83 (x2 + x3).toNatClampNeg (lcI (lcUI z 82 (x2 + x3).toNatClampNeg (lcI z 82 x3.toNatClampNeg)) 83 x3.toNatClampNeg)) 84 (x2 + x3).toNatClampNeg (lcI (lcUI (lcUI z 82 (x2 + x3).toNatClampNeg (lcI z 82 x3.toNatClampNeg)) 83 (x2 + x3).toNatClampNeg (lcI (lcUI z 82 (x2 + x3).toNatClampNeg (lcI z 82 x3.toNatClampNeg)) 83 x3.toNatClampNeg)) 84 x3.toNatClampNeg)) 85 x3.toNatClampNeg)) 86 (x2 + x3).toNatClampNeg (lcI (lcUI (lcUI (lcUI (lcUI z 82 (x2 + x3).toNatClampNeg (lcI z 82 x3.toNatClampNeg)) 83 (x2 + x3).toNatClampNeg (lcI (lcUI z 82 (x2 + x3).toNatClampNeg (lcI z 82 x3.toNatClampNeg)) 83 x3.toNatClampNeg)) 84 (x2 + x3).toNatClampNeg (lcI (lcUI (lcUI z 82 (x2 + x3).toNatClampNeg (lcI z 82 x3.toNatClampNeg)) 83 (x2 + x3).toNatClampNeg (lcI (lcUI z 82 (x2 + x3).toNatClampNeg (lcI z 82 x3.toNatClampNeg)) 83 x3.toNatClampNeg)) 84 x3.toNatClampNeg)) 85 (x2 + x3).toNatClampNeg (lcI (lcUI (lcUI (lcUI z 82 (x2 + x3).toNatClampNeg (lcI z 82 x3.toNatClampNeg)) 83 (x2 + x3).toNatClampNeg (lcI (lcUI z 82 (x2 + x3).toNatClampNeg (lcI z 82 x3.toNatClampNeg)) 83 x3.toNatClampNeg)) 84 (x2 + x3).toNatClampNeg (lcI (lcUI (lcUI z 82 (x2 + x3).toNatClampNeg (lcI z 82 x3.toNatClampNeg)) 83 (x2 + x3).toNatClampNeg (lcI (lcUI z 82 (x2 + x3).toNatClampNeg (lcI z 82 x3.toNatClampNeg)) 83 x3.toNatClampNeg)) 84 x3.toNatClampNeg)) 85 x3.toNatClampNeg)) 86 x3.toNatClampNeg)) 87 x3.toNatClampNeg)) 88 x3.toNatClampNeg) = (lcI (lcUI (lcUI (lcUI (lcUI (lcUI (lcUI z 82 (x2 + x3).toNatClampNeg (lcI z 82 x3.toNatClampNeg)) 83 (x2 + x3).toNatClampNeg (lcI (lcUI z 82 (x2 + x3).toNatClampNeg (lcI z 82 x3.toNatClampNeg)) 83 x3.toNatClampNeg)) 84 (x2 + x3).toNatClampNeg (lcI (lcUI (lcUI z 82 (x2 + x3).toNatClampNeg (lcI z 82 x3.toNatClampNeg)) 83 (x2 + x3).toNatClampNeg (lcI (lcUI z 82 (x2 + x3).toNatClampNeg (lcI z 82 x3.toNatClampNeg)) 83 x3.toNatClampNeg)) 84 x3.toNatClampNeg)) 85 (x2 + x3).toNatClampNeg (lcI (lcUI (lcUI (lcUI z 82 (x2 + x3).toNatClampNeg (lcI z 82 x3.toNatClampNeg)) 83 (x2 + x3).toNatClampNeg (lcI (lcUI z 82 (x2 + x3).toNatClampNeg (lcI z 82 x3.toNatClampNeg)) 83 x3.toNatClampNeg)) 84 (x2 + x3).toNatClampNeg (lcI (lcUI (lcUI z 82 (x2 + x3).toNatClampNeg (lcI z 82 x3.toNatClampNeg)) 83 (x2 + x3).toNatClampNeg (lcI (lcUI z 82 (x2 + x3).toNatClampNeg (lcI z 82 x3.toNatClampNeg)) 83 x3.toNatClampNeg)) 84 x3.toNatClampNeg)) 85 x3.toNatClampNeg)) 86 (x2 + x3).toNatClampNeg (lcI (lcUI (lcUI (lcUI (lcUI z 82 (x2 + x3).toNatClampNeg (lcI z 82 x3.toNatClampNeg)) 83 (x2 + x3).toNatClampNeg (lcI (lcUI z 82 (x2 + x3).toNatClampNeg (lcI z 82 x3.toNatClampNeg)) 83 x3.toNatClampNeg)) 84 (x2 + x3).toNatClampNeg (lcI (lcUI (lcUI z 82 (x2 + x3).toNatClampNeg (lcI z 82 x3.toNatClampNeg)) 83 (x2 + x3).toNatClampNeg (lcI (lcUI z 82 (x2 + x3).toNatClampNeg (lcI z 82 x3.toNatClampNeg)) 83 x3.toNatClampNeg)) 84 x3.toNatClampNeg)) 85 (x2 + x3).toNatClampNeg (lcI (lcUI (lcUI (lcUI z 82 (x2 + x3).toNatClampNeg (lcI z 82 x3.toNatClampNeg)) 83 (x2 + x3).toNatClampNeg (lcI (lcUI z 82 (x2 + x3).toNatClampNeg (lcI z 82 x3.toNatClampNeg)) 83 x3.toNatClampNeg)) 84 (x2 + x3).toNatClampNeg (lcI (lcUI (lcUI z 82 (x2 + x3).toNatClampNeg (lcI z 82 x3.toNatClampNeg)) 83 (x2 + x3).toNatClampNeg (lcI (lcUI z 82 (x2 + x3).toNatClampNeg (lcI z 82 x3.toNatClampNeg)) 83 x3.toNatClampNeg)) 84 x3.toNatClampNeg)) 85 x3.toNatClampNeg)) 86 x3.toNatClampNeg)) 87 (x2 + x3).toNatClampNeg (lcI (lcUI (lcUI (lcUI (lcUI (lcUI z 82 (x2 + x3).toNatClampNeg (lcI z 82 x3.toNatClampNeg)) 83 (x2 + x3).toNatClampNeg (lcI (lcUI z 82 (x2 + x3).toNatClampNeg (lcI z 82 x3.toNatClampNeg)) 83 x3.toNatClampNeg)) 84 (x2 + x3).toNatClampNeg (lcI (lcUI (lcUI z 82 (x2 + x3).toNatClampNeg (lcI z 82 x3.toNatClampNeg)) 83 (x2 + x3).toNatClampNeg (lcI (lcUI z 82 (x2 + x3).toNatClampNeg (lcI z 82 x3.toNatClampNeg)) 83 x3.toNatClampNeg)) 84 x3.toNatClampNeg)) 85 (x2 + x3).toNatClampNeg (lcI (lcUI (lcUI (lcUI z 82 (x2 + x3).toNatClampNeg (lcI z 82 x3.toNatClampNeg)) 83 (x2 + x3).toNatClampNeg (lcI (lcUI z 82 (x2 + x3).toNatClampNeg (lcI z 82 x3.toNatClampNeg)) 83 x3.toNatClampNeg)) 84 (x2 + x3).toNatClampNeg (lcI (lcUI (lcUI z 82 (x2 + x3).toNatClampNeg (lcI z 82 x3.toNatClampNeg)) 83 (x2 + x3).toNatClampNeg (lcI (lcUI z 82 (x2 + x3).toNatClampNeg (lcI z 82 x3.toNatClampNeg)) 83 x3.toNatClampNeg)) 84 x3.toNatClampNeg)) 85 x3.toNatClampNeg)) 86 (x2 + x3).toNatClampNeg (lcI (lcUI (lcUI (lcUI (lcUI z 82 (x2 + x3).toNatClampNeg (lcI z 82 x3.toNatClampNeg)) 83 (x2 + x3).toNatClampNeg (lcI (lcUI z 82 (x2 + x3).toNatClampNeg (lcI z 82 x3.toNatClampNeg)) 83 x3.toNatClampNeg)) 84 (x2 + x3).toNatClampNeg (lcI (lcUI (lcUI z 82 (x2 + x3).toNatClampNeg (lcI z 82 x3.toNatClampNeg)) 83 (x2 + x3).toNatClampNeg (lcI (lcUI z 82 (x2 + x3).toNatClampNeg (lcI z 82 x3.toNatClampNeg)) 83 x3.toNatClampNeg)) 84 x3.toNatClampNeg)) 85 (x2 + x3).toNatClampNeg (lcI (lcUI (lcUI (lcUI z 82 (x2 + x3).toNatClampNeg (lcI z 82 x3.toNatClampNeg)) 83 (x2 + x3).toNatClampNeg (lcI (lcUI z 82 (x2 + x3).toNatClampNeg (lcI z 82 x3.toNatClampNeg)) 83 x3.toNatClampNeg)) 84 (x2 + x3).toNatClampNeg (lcI (lcUI (lcUI z 82 (x2 + x3).toNatClampNeg (lcI z 82 x3.toNatClampNeg)) 83 (x2 + x3).toNatClampNeg (lcI (lcUI z 82 (x2 + x3).toNatClampNeg (lcI z 82 x3.toNatClampNeg)) 83 x3.toNatClampNeg)) 84 x3.toNatClampNeg)) 85 x3.toNatClampNeg)) 86 x3.toNatClampNeg)) 87 x3.toNatClampNeg)) 88 x3.toNatClampNeg)) (lc_chk (lc_in x3 600) (lc_chk (lc_in (x2 + x3) 600) (lc_chk (lc_in x3 600) (lc_chk (lc_in (x2 + x3) 600) (lc_let (x3 + 1) (fun x190 => fQ_define_58 n x1 x2 x190 (lcUI (lcUI (lcUI (lcUI (lcUI (lcUI (lcUI (lcUI (lcUI z 82 (x2 + x3).toNatClampNeg (lcI z 82 x3.toNatClampNeg)) 83 (x2 + x3).toNatClampNeg (lcI (lcUI z 82 (x2 + x3).toNatClampNeg (lcI z 82 x3.toNatClampNeg)) 83 x3.toNatClampNeg)) 84 (x2 + x3).toNatClampNeg (lcI (lcUI (lcUI z 82 (x2 + x3).toNatClampNeg (lcI z 82 x3.toNatClampNeg)) 83 (x2 + x3).toNatClampNeg (lcI (lcUI z 82 (x2 + x3).toNatClampNeg (lcI z 82 x3.toNatClampNeg)) 83 x3.toNatClampNeg)) 84 x3.toNatClampNeg)) 85 (x2 + x3).toNatClampNeg (lcI (lcUI (lcUI (lcUI z 82 (x2 + x3).toNatClampNeg (lcI z 82 x3.toNatClampNeg)) 83 (x2 + x3).toNatClampNeg (lcI (lcUI z 82 (x2 + x3).toNatClampNeg (lcI z 82 x3.toNatClampNeg)) 83 x3.toNatClampNeg)) 84 (x2 + x3).toNatClampNeg (lcI (lcUI (lcUI z 82 (x2 + x3).toNatClampNeg (lcI z 82 x3.toNatClampNeg)) 83 (x2 + x3).toNatClampNeg (lcI (lcUI z 82 (x2 + x3).toNatClampNeg (lcI z 82 x3.toNatClampNeg)) 83 x3.toNatClampNeg)) 84 x3.toNatClampNeg)) 85 x3.toNatClampNeg)) 86 (x2 + x3).toNatClampNeg (lcI (lcUI (lcUI (lcUI (lcUI z 82 (x2 + x3).toNatClampNeg (lcI z 82 x3.toNatClampNeg)) 83 (x2 + x3).toNatClampNeg (lcI (lcUI z 82 (x2 + x3).toNatClampNeg (lcI z 82 x3.toNatClampNeg)) 83 x3.toNatClampNeg)) 84 (x2 + x3).toNatClampNeg (lcI (lcUI (lcUI z 82 (x2 + x3).toNatClampNeg (lcI z 82 x3.toNatClampNeg)) 83 (x2 + x3).toNatClampNeg (lcI (lcUI z 82 (x2 + x3).toNatClampNeg (lcI z 82 x3.toNatClampNeg)) 83 x3.toNatClampNeg)) 84 x3.toNatClampNeg)) 85 (x2 + x3).toNatClampNeg (lcI (lcUI (lcUI (lcUI z 82 (x2 + x3).toNatClampNeg (lcI z 82 x3.toNatClampNeg)) 83 (x2 + x3).toNatClampNeg (lcI (lcUI z 82 (x2 + x3).toNatClampNeg (lcI z 82 x3.toNatClampNeg)) 83 x3.toNatClampNeg)) 84 (x2 + x3).toNatClampNeg (lcI (lcUI (lcUI z 82 (x2 + x3).toNatClampNeg (lcI z 82 x3.toNatClampNeg)) 83 (x2 + x3).toNatClampNeg (lcI (lcUI z 82 (x2 + x3).toNatClampNeg (lcI z 82 x3.toNatClampNeg)) 83 x3.toNatClampNeg)) 84 x3.toNatClampNeg)) 85 x3.toNatClampNeg)) 86 x3.toNatClampNeg)) 87 (x2 + x3).toNatClampNeg (lcI (lcUI (lcUI (lcUI (lcUI (lcUI z 82 (x2 + x3).toNatClampNeg (lcI z 82 x3.toNatClampNeg)) 83 (x2 + x3).toNatClampNeg (lcI (lcUI z 82 (x2 + x3).toNatClampNeg (lcI z 82 x3.toNatClampNeg)) 83 x3.toNatClampNeg)) 84 (x2 + x3).toNatClampNeg (lcI (lcUI (lcUI z 82 (x2 + x3).toNatClampNeg (lcI z 82 x3.toNatClampNeg)) 83 (x2 + x3).toNatClampNeg (lcI (lcUI z 82 (x2 + x3).toNatClampNeg (lcI z 82 x3.toNatClampNeg)) 83 x3.toNatClampNeg)) 84 x3.toNatClampNeg)) 85 (x2 + x3).toNatClampNeg (lcI (lcUI (lcUI (lcUI z 82 (x2 + x3).toNatClampNeg (lcI z 82 x3.toNatClampNeg)) 83 (x2 + x3).toNatClampNeg (lcI (lcUI z 82 (x2 + x3).toNatClampNeg (lcI z 82 x3.toNatClampNeg)) 83 x3.toNatClampNeg)) 84 (x2 + x3).toNatClampNeg (lcI (lcUI (lcUI z 82 (x2 + x3).toNatClampNeg (lcI z 82 x3.toNatClampNeg)) 83 (x2 + x3).toNatClampNeg (lcI (lcUI z 82 (x2 + x3).toNatClampNeg (lcI z 82 x3.toNatClampNeg)) 83 x3.toNatClampNeg)) 84 x3.toNatClampNeg)) 85 x3.toNatClampNeg)) 86 (x2 + x3).toNatClampNeg (lcI (lcUI (lcUI (lcUI (lcUI z 82 (x2 + x3).toNatClampNeg (lcI z 82 x3.toNatClampNeg)) 83 (x2 + x3).toNatClampNeg (lcI (lcUI z 82 (x2 + x3).toNatClampNeg (lcI z 82 x3.toNatClampNeg)) 83 x3.toNatClampNeg)) 84 (x2 + x3).toNatClampNeg (lcI (lcUI (lcUI z 82 (x2 + x3).toNatClampNeg (lcI z 82 x3.toNatClampNeg)) 83 (x2 + x3).toNatClampNeg (lcI (lcUI z 82 (x2 + x3).toNatClampNeg (lcI z 82 x3.toNatClampNeg)) 83 x3.toNatClampNeg)) 84 x3.toNatClampNeg)) 85 (x2 + x3).toNatClampNeg (lcI (lcUI (lcUI (lcUI z 82 (x2 + x3).toNatClampNeg (lcI z 82 x3.toNatClampNeg)) 83 (x2 + x3).toNatClampNeg (lcI (lcUI z 82 (x2 + x3).toNatClampNeg (lcI z 82 x3.toNatClampNeg)) 83 x3.toNatClampNeg)) 84 (x2 + x3).toNatClampNeg (lcI (lcUI (lcUI z 82 (x2 + x3).toNatClampNeg (lcI z 82 x3.toNatClampNeg)) 83 (x2 + x3).toNatClampNeg (lcI (lcUI z 82 (x2 + x3).toNatClampNeg (lcI z 82 x3.toNatClampNeg)) 83 x3.toNatClampNeg)) 84 x3.toNatClampNeg)) 85 x3.toNatClampNeg)) 86 x3.toNatClampNeg)) 87 x3.toNatClampNeg)) 88 (x2 + x3).toNatClampNeg (lcI (lcUI (lcUI (lcUI (lcUI (lcUI (lcUI z 82 (x2 + x3).toNatClampNeg (lcI z 82 x3.toNatClampNeg)) 83 (x2 + x3).toNatClampNeg (lcI (lcUI z 82 (x2 + x3).toNatClampNeg (lcI z 82 x3.toNatClampNeg)) 83 x3.toNatClampNeg)) 84 (x2 + x3).toNatClampNeg (lcI (lcUI (lcUI z 82 (x2 + x3).toNatClampNeg (lcI z 82 x3.toNatClampNeg)) 83 (x2 + x3).toNatClampNeg (lcI (lcUI z 82 (x2 + x3).toNatClampNeg (lcI z 82 x3.toNatClampNeg)) 83 x3.toNatClampNeg)) 84 x3.toNatClampNeg)) 85 (x2 + x3).toNatClampNeg (lcI (lcUI (lcUI (lcUI z 82 (x2 + x3).toNatClampNeg (lcI z 82 x3.toNatClampNeg)) 83 (x2 + x3).toNatClampNeg (lcI (lcUI z 82 (x2 + x3).toNatClampNeg (lcI z 82 x3.toNatClampNeg)) 83 x3.toNatClampNeg)) 84 (x2 + x3).toNatClampNeg (lcI (lcUI (lcUI z 82 (x2 + x3).toNatClampNeg (lcI z 82 x3.toNatClampNeg)) 83 (x2 + x3).toNatClampNeg (lcI (lcUI z 82 (x2 + x3).toNatClampNeg (lcI z 82 x3.toNatClampNeg)) 83 x3.toNatClampNeg)) 84 x3.toNatClampNeg)) 85 x3.toNatClampNeg)) 86 (x2 + x3).toNatClampNeg (lcI (lcUI (lcUI (lcUI (lcUI z 82 (x2 + x3).toNatClampNeg (lcI z 82 x3.toNatClampNeg)) 83 (x2 + x3).toNatClampNeg (lcI (lcUI z 82 (x2 + x3).toNatClampNeg (lcI z 82 x3.toNatClampNeg)) 83 x3.toNatClampNeg)) 84 (x2 + x3).toNatClampNeg (lcI (lcUI (lcUI z 82 (x2 + x3).toNatClampNeg (lcI z 82 x3.toNatClampNeg)) 83 (x2 + x3).toNatClampNeg (lcI (lcUI z 82 (x2 + x3).toNatClampNeg (lcI z 82 x3.toNatClampNeg)) 83 x3.toNatClampNeg)) 84 x3.toNatClampNeg)) 85 (x2 + x3).toNatClampNeg (lcI (lcUI (lcUI (lcUI z 82 (x2 + x3).toNatClampNeg (lcI z 82 x3.toNatClampNeg)) 83 (x2 + x3).toNatClampNeg (lcI (lcUI z 82 (x2 + x3).toNatClampNeg (lcI z 82 x3.toNatClampNeg)) 83 x3.toNatClampNeg)) 84 (x2 + x3).toNatClampNeg (lcI (lcUI (lcUI z 82 (x2 + x3).toNatClampNeg (lcI z 82 x3.toNatClampNeg)) 83 (x2 + x3).toNatClampNeg (lcI (lcUI z 82 (x2 + x3).toNatClampNeg (lcI z 82 x3.toNatClampNeg)) 83 x3.toNatClampNeg)) 84 x3.toNatClampNeg)) 85 x3.toNatClampNeg)) 86 x3.toNatClampNeg)) 87 (x2 + x3).toNatClampNeg (lcI (lcUI (lcUI (lcUI (lcUI (lcUI z 82 (x2 + x3).toNatClampNeg (lcI z 82 x3.toNatClampNeg)) 83 (x2 + x3).toNatClampNeg (lcI (lcUI z 82 (x2 + x3).toNatClampNeg (lcI z 82 x3.toNatClampNeg)) 83 x3.toNatClampNeg)) 84 (x2 + x3).toNatClampNeg (lcI (lcUI (lcUI z 82 (x2 + x3).toNatClampNeg (lcI z 82 x3.toNatClampNeg)) 83 (x2 + x3).toNatClampNeg (lcI (lcUI z 82 (x2 + x3).toNatClampNeg (lcI z 82 x3.toNatClampNeg)) 83 x3.toNatClampNeg)) 84 x3.toNatClampNeg)) 85 (x2 + x3).toNatClampNeg (lcI (lcUI (lcUI (lcUI z 82 (x2 + x3).toNatClampNeg (lcI z 82 x3.toNatClampNeg)) 83 (x2 + x3).toNatClampNeg (lcI (lcUI z 82 (x2 + x3).toNatClampNeg (lcI z 82 x3.toNatClampNeg)) 83 x3.toNatClampNeg)) 84 (x2 + x3).toNatClampNeg (lcI (lcUI (lcUI z 82 (x2 + x3).toNatClampNeg (lcI z 82 x3.toNatClampNeg)) 83 (x2 + x3).toNatClampNeg (lcI (lcUI z 82 (x2 + x3).toNatClampNeg (lcI z 82 x3.toNatClampNeg)) 83 x3.toNatClampNeg)) 84 x3.toNatClampNeg)) 85 x3.toNatClampNeg)) 86 (x2 + x3).toNatClampNeg (lcI (lcUI (lcUI (lcUI (lcUI z 82 (x2 + x3).toNatClampNeg (lcI z 82 x3.toNatClampNeg)) 83 (x2 + x3).toNatClampNeg (lcI (lcUI z 82 (x2 + x3).toNatClampNeg (lcI z 82 x3.toNatClampNeg)) 83 x3.toNatClampNeg)) 84 (x2 + x3).toNatClampNeg (lcI (lcUI (lcUI z 82 (x2 + x3).toNatClampNeg (lcI z 82 x3.toNatClampNeg)) 83 (x2 + x3).toNatClampNeg (lcI (lcUI z 82 (x2 + x3).toNatClampNeg (lcI z 82 x3.toNatClampNeg)) 83 x3.toNatClampNeg)) 84 x3.toNatClampNeg)) 85 (x2 + x3).toNatClampNeg (lcI (lcUI (lcUI (lcUI z 82 (x2 + x3).toNatClampNeg (lcI z 82 x3.toNatClampNeg)) 83 (x2 + x3).toNatClampNeg (lcI (lcUI z 82 (x2 + x3).toNatClampNeg (lcI z 82 x3.toNatClampNeg)) 83 x3.toNatClampNeg)) 84 (x2 + x3).toNatClampNeg (lcI (lcUI (lcUI z 82 (x2 + x3).toNatClampNeg (lcI z 82 x3.toNatClampNeg)) 83 (x2 + x3).toNatClampNeg (lcI (lcUI z 82 (x2 + x3).toNatClampNeg (lcI z 82 x3.toNatClampNeg)) 83 x3.toNatClampNeg)) 84 x3.toNatClampNeg)) 85 x3.toNatClampNeg)) 86 x3.toNatClampNeg)) 87 x3.toNatClampNeg)) 88 x3.toNatClampNeg)) 90 (x2 + x3).toNatClampNeg (lcI (lcUI (lcUI (lcUI (lcUI (lcUI (lcUI (lcUI z 82 (x2 + x3).toNatClampNeg (lcI z 82 x3.toNatClampNeg)) 83 (x2 + x3).toNatClampNeg (lcI (lcUI z 82 (x2 + x3).toNatClampNeg (lcI z 82 x3.toNatClampNeg)) 83 x3.toNatClampNeg)) 84 (x2 + x3).toNatClampNeg (lcI (lcUI (lcUI z 82 (x2 + x3).toNatClampNeg (lcI z 82 x3.toNatClampNeg)) 83 (x2 + x3).toNatClampNeg (lcI (lcUI z 82 (x2 + x3).toNatClampNeg (lcI z 82 x3.toNatClampNeg)) 83 x3.toNatClampNeg)) 84 x3.toNatClampNeg)) 85 (x2 + x3).toNatClampNeg (lcI (lcUI (lcUI (lcUI z 82 (x2 + x3).toNatClampNeg (lcI z 82 x3.toNatClampNeg)) 83 (x2 + x3).toNatClampNeg (lcI (lcUI z 82 (x2 + x3).toNatClampNeg (lcI z 82 x3.toNatClampNeg)) 83 x3.toNatClampNeg)) 84 (x2 + x3).toNatClampNeg (lcI (lcUI (lcUI z 82 (x2 + x3).toNatClampNeg (lcI z 82 x3.toNatClampNeg)) 83 (x2 + x3).toNatClampNeg (lcI (lcUI z 82 (x2 + x3).toNatClampNeg (lcI z 82 x3.toNatClampNeg)) 83 x3.toNatClampNeg)) 84 x3.toNatClampNeg)) 85 x3.toNatClampNeg)) 86 (x2 + x3).toNatClampNeg (lcI (lcUI (lcUI (lcUI (lcUI z 82 (x2 + x3).toNatClampNeg (lcI z 82 x3.toNatClampNeg)) 83 (x2 + x3).toNatClampNeg (lcI (lcUI z 82 (x2 + x3).toNatClampNeg (lcI z 82 x3.toNatClampNeg)) 83 x3.toNatClampNeg)) 84 (x2 + x3).toNatClampNeg (lcI (lcUI (lcUI z 82 (x2 + x3).toNatClampNeg (lcI z 82 x3.toNatClampNeg)) 83 (x2 + x3).toNatClampNeg (lcI (lcUI z 82 (x2 + x3).toNatClampNeg (lcI z 82 x3.toNatClampNeg)) 83 x3.toNatClampNeg)) 84 x3.toNatClampNeg)) 85 (x2 + x3).toNatClampNeg (lcI (lcUI (lcUI (lcUI z 82 (x2 + x3).toNatClampNeg (lcI z 82 x3.toNatClampNeg)) 83 (x2 + x3).toNatClampNeg (lcI (lcUI z 82 (x2 + x3).toNatClampNeg (lcI z 82 x3.toNatClampNeg)) 83 x3.toNatClampNeg)) 84 (x2 + x3).toNatClampNeg (lcI (lcUI (lcUI z 82 (x2 + x3).toNatClampNeg (lcI z 82 x3.toNatClampNeg)) 83 (x2 + x3).toNatClampNeg (lcI (lcUI z 82 (x2 + x3).toNatClampNeg (lcI z 82 x3.toNatClampNeg)) 83 x3.toNatClampNeg)) 84 x3.toNatClampNeg)) 85 x3.toNatClampNeg)) 86 x3.toNatClampNeg)) 87 (x2 + x3).toNatClampNeg (lcI (lcUI (lcUI (lcUI (lcUI (lcUI z 82 (x2 + x3).toNatClampNeg (lcI z 82 x3.toNatClampNeg)) 83 (x2 + x3).toNatClampNeg (lcI (lcUI z 82 (x2 + x3).toNatClampNeg (lcI z 82 x3.toNatClampNeg)) 83 x3.toNatClampNeg)) 84 (x2 + x3).toNatClampNeg (lcI (lcUI (lcUI z 82 (x2 + x3).toNatClampNeg (lcI z 82 x3.toNatClampNeg)) 83 (x2 + x3).toNatClampNeg (lcI (lcUI z 82 (x2 + x3).toNatClampNeg (lcI z 82 x3.toNatClampNeg)) 83 x3.toNatClampNeg)) 84 x3.toNatClampNeg)) 85 (x2 + x3).toNatClampNeg (lcI (lcUI (lcUI (lcUI z 82 (x2 + x3).toNatClampNeg (lcI z 82 x3.toNatClampNeg)) 83 (x2 + x3).toNatClampNeg (lcI (lcUI z 82 (x2 + x3).toNatClampNeg (lcI z 82 x3.toNatClampNeg)) 83 x3.toNatClampNeg)) 84 (x2 + x3).toNatClampNeg (lcI (lcUI (lcUI z 82 (x2 + x3).toNatClampNeg (lcI z 82 x3.toNatClampNeg)) 83 (x2 + x3).toNatClampNeg (lcI (lcUI z 82 (x2 + x3).toNatClampNeg (lcI z 82 x3.toNatClampNeg)) 83 x3.toNatClampNeg)) 84 x3.toNatClampNeg)) 85 x3.toNatClampNeg)) 86 (x2 + x3).toNatClampNeg (lcI (lcUI (lcUI (lcUI (lcUI z 82 (x2 + x3).toNatClampNeg (lcI z 82 x3.toNatClampNeg)) 83 (x2 + x3).toNatClampNeg (lcI (lcUI z 82 (x2 + x3).toNatClampNeg (lcI z 82 x3.toNatClampNeg)) 83 x3.toNatClampNeg)) 84 (x2 + x3).toNatClampNeg (lcI (lcUI (lcUI z 82 (x2 + x3).toNatClampNeg (lcI z 82 x3.toNatClampNeg)) 83 (x2 + x3).toNatClampNeg (lcI (lcUI z 82 (x2 + x3).toNatClampNeg (lcI z 82 x3.toNatClampNeg)) 83 x3.toNatClampNeg)) 84 x3.toNatClampNeg)) 85 (x2 + x3).toNatClampNeg (lcI (lcUI (lcUI (lcUI z 82 (x2 + x3).toNatClampNeg (lcI z 82 x3.toNatClampNeg)) 83 (x2 + x3).toNatClampNeg (lcI (lcUI z 82 (x2 + x3).toNatClampNeg (lcI z 82 x3.toNatClampNeg)) 83 x3.toNatClampNeg)) 84 (x2 + x3).toNatClampNeg (lcI (lcUI (lcUI z 82 (x2 + x3).toNatClampNeg (lcI z 82 x3.toNatClampNeg)) 83 (x2 + x3).toNatClampNeg (lcI (lcUI z 82 (x2 + x3).toNatClampNeg (lcI z 82 x3.toNatClampNeg)) 83 x3.toNatClampNeg)) 84 x3.toNatClampNeg)) 85 x3.toNatClampNeg)) 86 x3.toNatClampNeg)) 87 x3.toNatClampNeg)) 88 (x2 + x3).toNatClampNeg (lcI (lcUI (lcUI (lcUI (lcUI (lcUI (lcUI z 82 (x2 + x3).toNatClampNeg (lcI z 82 x3.toNatClampNeg)) 83 (x2 + x3).toNatClampNeg (lcI (lcUI z 82 (x2 + x3).toNatClampNeg (lcI z 82 x3.toNatClampNeg)) 83 x3.toNatClampNeg)) 84 (x2 + x3).toNatClampNeg (lcI (lcUI (lcUI z 82 (x2 + x3).toNatClampNeg (lcI z 82 x3.toNatClampNeg)) 83 (x2 + x3).toNatClampNeg (lcI (lcUI z 82 (x2 + x3).toNatClampNeg (lcI z 82 x3.toNatClampNeg)) 83 x3.toNatClampNeg)) 84 x3.toNatClampNeg)) 85 (x2 + x3).toNatClampNeg (lcI (lcUI (lcUI (lcUI z 82 (x2 + x3).toNatClampNeg (lcI z 82 x3.toNatClampNeg)) 83 (x2 + x3).toNatClampNeg (lcI (lcUI z 82 (x2 + x3).toNatClampNeg (lcI z 82 x3.toNatClampNeg)) 83 x3.toNatClampNeg)) 84 (x2 + x3).toNatClampNeg (lcI (lcUI (lcUI z 82 (x2 + x3).toNatClampNeg (lcI z 82 x3.toNatClampNeg)) 83 (x2 + x3).toNatClampNeg (lcI (lcUI z 82 (x2 + x3).toNatClampNeg (lcI z 82 x3.toNatClampNeg)) 83 x3.toNatClampNeg)) 84 x3.toNatClampNeg)) 85 x3.toNatClampNeg)) 86 (x2 + x3).toNatClampNeg (lcI (lcUI (lcUI (lcUI (lcUI z 82 (x2 + x3).toNatClampNeg (lcI z 82 x3.toNatClampNeg)) 83 (x2 + x3).toNatClampNeg (lcI (lcUI z 82 (x2 + x3).toNatClampNeg (lcI z 82 x3.toNatClampNeg)) 83 x3.toNatClampNeg)) 84 (x2 + x3).toNatClampNeg (lcI (lcUI (lcUI z 82 (x2 + x3).toNatClampNeg (lcI z 82 x3.toNatClampNeg)) 83 (x2 + x3).toNatClampNeg (lcI (lcUI z 82 (x2 + x3).toNatClampNeg (lcI z 82 x3.toNatClampNeg)) 83 x3.toNatClampNeg)) 84 x3.toNatClampNeg)) 85 (x2 + x3).toNatClampNeg (lcI (lcUI (lcUI (lcUI z 82 (x2 + x3).toNatClampNeg (lcI z 82 x3.toNatClampNeg)) 83 (x2 + x3).toNatClampNeg (lcI (lcUI z 82 (x2 + x3).toNatClampNeg (lcI z 82 x3.toNatClampNeg)) 83 x3.toNatClampNeg)) 84 (x2 + x3).toNatClampNeg (lcI (lcUI (lcUI z 82 (x2 + x3).toNatClampNeg (lcI z 82 x3.toNatClampNeg)) 83 (x2 + x3).toNatClampNeg (lcI (lcUI z 82 (x2 + x3).toNatClampNeg (lcI z 82 x3.toNatClampNeg)) 83 x3.toNatClampNeg)) 84 x3.toNatClampNeg)) 85 x3.toNatClampNeg)) 86 x3.toNatClampNeg)) 87 (x2 + x3).toNatClampNeg (lcI (lcUI (lcUI (lcUI (lcUI (lcUI z 82 (x2 + x3).toNatClampNeg (lcI z 82 x3.toNatClampNeg)) 83 (x2 + x3).toNatClampNeg (lcI (lcUI z 82 (x2 + x3).toNatClampNeg (lcI z 82 x3.toNatClampNeg)) 83 x3.toNatClampNeg)) 84 (x2 + x3).toNatClampNeg (lcI (lcUI (lcUI z 82 (x2 + x3).toNatClampNeg (lcI z 82 x3.toNatClampNeg)) 83 (x2 + x3).toNatClampNeg (lcI (lcUI z 82 (x2 + x3).toNatClampNeg (lcI z 82 x3.toNatClampNeg)) 83 x3.toNatClampNeg)) 84 x3.toNatClampNeg)) 85 (x2 + x3).toNatClampNeg (lcI (lcUI (lcUI (lcUI z 82 (x2 + x3).toNatClampNeg (lcI z 82 x3.toNatClampNeg)) 83 (x2 + x3).toNatClampNeg (lcI (lcUI z 82 (x2 + x3).toNatClampNeg (lcI z 82 x3.toNatClampNeg)) 83 x3.toNatClampNeg)) 84 (x2 + x3).toNatClampNeg (lcI (lcUI (lcUI z 82 (x2 + x3).toNatClampNeg (lcI z 82 x3.toNatClampNeg)) 83 (x2 + x3).toNatClampNeg (lcI (lcUI z 82 (x2 + x3).toNatClampNeg (lcI z 82 x3.toNatClampNeg)) 83 x3.toNatClampNeg)) 84 x3.toNatClampNeg)) 85 x3.toNatClampNeg)) 86 (x2 + x3).toNatClampNeg (lcI (lcUI (lcUI (lcUI (lcUI z 82 (x2 + x3).toNatClampNeg (lcI z 82 x3.toNatClampNeg)) 83 (x2 + x3).toNatClampNeg (lcI (lcUI z 82 (x2 + x3).toNatClampNeg (lcI z 82 x3.toNatClampNeg)) 83 x3.toNatClampNeg)) 84 (x2 + x3).toNatClampNeg (lcI (lcUI (lcUI z 82 (x2 + x3).toNatClampNeg (lcI z 82 x3.toNatClampNeg)) 83 (x2 + x3).toNatClampNeg (lcI (lcUI z 82 (x2 + x3).toNatClampNeg (lcI z 82 x3.toNatClampNeg)) 83 x3.toNatClampNeg)) 84 x3.toNatClampNeg)) 85 (x2 + x3).toNatClampNeg (lcI (lcUI (lcUI (lcUI z 82 (x2 + x3).toNatClampNeg (lcI z 82 x3.toNatClampNeg)) 83 (x2 + x3).toNatClampNeg (lcI (lcUI z 82 (x2 + x3).toNatClampNeg (lcI z 82 x3.toNatClampNeg)) 83 x3.toNatClampNeg)) 84 (x2 + x3).toNatClampNeg (lcI (lcUI (lcUI z 82 (x2 + x3).toNatClampNeg (lcI z 82 x3.toNatClampNeg)) 83 (x2 + x3).toNatClampNeg (lcI (lcUI z 82 (x2 + x3).toNatClampNeg (lcI z 82 x3.toNatClampNeg)) 83 x3.toNatClampNeg)) 84 x3.toNatClampNeg)) 85 x3.toNatClampNeg)) 86 x3.toNatClampNeg)) 87 x3.toNatClampNeg)) 88 x3.toNatClampNeg)) 90 x3.toNatClampNeg)) 91 (x2 + x3).toNatClampNeg (lcI (lcUI (lcUI (lcUI (lcUI (lcUI (lcUI (lcUI (lcUI z 82 (x2 + x3).toNatClampNeg (lcI z 82 x3.toNatClampNeg)) 83 (x2 + x3).toNatClampNeg (lcI (lcUI z 82 (x2 + x3).toNatClampNeg (lcI z 82 x3.toNatClampNeg)) 83 x3.toNatClampNeg)) 84 (x2 + x3).toNatClampNeg (lcI (lcUI (lcUI z 82 (x2 + x3).toNatClampNeg (lcI z 82 x3.toNatClampNeg)) 83 (x2 + x3).toNatClampNeg (lcI (lcUI z 82 (x2 + x3).toNatClampNeg (lcI z 82 x3.toNatClampNeg)) 83 x3.toNatClampNeg)) 84 x3.toNatClampNeg)) 85 (x2 + x3).toNatClampNeg (lcI (lcUI (lcUI (lcUI z 82 (x2 + x3).toNatClampNeg (lcI z 82 x3.toNatClampNeg)) 83 (x2 + x3).toNatClampNeg (lcI (lcUI z 82 (x2 + x3).toNatClampNeg (lcI z 82 x3.toNatClampNeg)) 83 x3.toNatClampNeg)) 84 (x2 + x3).toNatClampNeg (lcI (lcUI (lcUI z 82 (x2 + x3).toNatClampNeg (lcI z 82 x3.toNatClampNeg)) 83 (x2 + x3).toNatClampNeg (lcI (lcUI z 82 (x2 + x3).toNatClampNeg (lcI z 82 x3.toNatClampNeg)) 83 x3.toNatClampNeg)) 84 x3.toNatClampNeg)) 85 x3.toNatClampNeg)) 86 (x2 + x3).toNatClampNeg (lcI (lcUI (lcUI (lcUI (lcUI z 82 (x2 + x3).toNatClampNeg (lcI z 82 x3.toNatClampNeg)) 83 (x2 + x3).toNatClampNeg (lcI (lcUI z 82 (x2 + x3).toNatClampNeg (lcI z 82 x3.toNatClampNeg)) 83 x3.toNatClampNeg)) 84 (x2 + x3).toNatClampNeg (lcI (lcUI (lcUI z 82 (x2 + x3).toNatClampNeg (lcI z 82 x3.toNatClampNeg)) 83 (x2 + x3).toNatClampNeg (lcI (lcUI z 82 (x2 + x3).toNatClampNeg (lcI z 82 x3.toNatClampNeg)) 83 x3.toNatClampNeg)) 84 x3.toNatClampNeg)) 85 (x2 + x3).toNatClampNeg (lcI (lcUI (lcUI (lcUI z 82 (x2 + x3).toNatClampNeg (lcI z 82 x3.toNatClampNeg)) 83 (x2 + x3).toNatClampNeg (lcI (lcUI z 82 (x2 + x3).toNatClampNeg (lcI z 82 x3.toNatClampNeg)) 83 x3.toNatClampNeg)) 84 (x2 + x3).toNatClampNeg (lcI (lcUI (lcUI z 82 (x2 + x3).toNatClampNeg (lcI z 82 x3.toNatClampNeg)) 83 (x2 + x3).toNatClampNeg (lcI (lcUI z 82 (x2 + x3).toNatClampNeg (lcI z 82 x3.toNatClampNeg)) 83 x3.toNatClampNeg)) 84 x3.toNatClampNeg)) 85 x3.toNatClampNeg)) 86 x3.toNatClampNeg)) 87 (x2 + x3).toNatClampNeg (lcI (lcUI (lcUI (lcUI (lcUI (lcUI z 82 (x2 + x3).toNatClampNeg (lcI z 82 x3.toNatClampNeg)) 83 (x2 + x3).toNatClampNeg (lcI (lcUI z 82 (x2 + x3).toNatClampNeg (lcI z 82 x3.toNatClampNeg)) 83 x3.toNatClampNeg)) 84 (x2 + x3).toNatClampNeg (lcI (lcUI (lcUI z 82 (x2 + x3).toNatClampNeg (lcI z 82 x3.toNatClampNeg)) 83 (x2 + x3).toNatClampNeg (lcI (lcUI z 82 (x2 + x3).toNatClampNeg (lcI z 82 x3.toNatClampNeg)) 83 x3.toNatClampNeg)) 84 x3.toNatClampNeg)) 85 (x2 + x3).toNatClampNeg (lcI (lcUI (lcUI (lcUI z 82 (x2 + x3).toNatClampNeg (lcI z 82 x3.toNatClampNeg)) 83 (x2 + x3).toNatClampNeg (lcI (lcUI z 82 (x2 + x3).toNatClampNeg (lcI z 82 x3.toNatClampNeg)) 83 x3.toNatClampNeg)) 84 (x2 + x3).toNatClampNeg (lcI (lcUI (lcUI z 82 (x2 + x3).toNatClampNeg (lcI z 82 x3.toNatClampNeg)) 83 (x2 + x3).toNatClampNeg (lcI (lcUI z 82 (x2 + x3).toNatClampNeg (lcI z 82 x3.toNatClampNeg)) 83 x3.toNatClampNeg)) 84 x3.toNatClampNeg)) 85 x3.toNatClampNeg)) 86 (x2 + x3).toNatClampNeg (lcI (lcUI (lcUI (lcUI (lcUI z 82 (x2 + x3).toNatClampNeg (lcI z 82 x3.toNatClampNeg)) 83 (x2 + x3).toNatClampNeg (lcI (lcUI z 82 (x2 + x3).toNatClampNeg (lcI z 82 x3.toNatClampNeg)) 83 x3.toNatClampNeg)) 84 (x2 + x3).toNatClampNeg (lcI (lcUI (lcUI z 82 (x2 + x3).toNatClampNeg (lcI z 82 x3.toNatClampNeg)) 83 (x2 + x3).toNatClampNeg (lcI (lcUI z 82 (x2 + x3).toNatClampNeg (lcI z 82 x3.toNatClampNeg)) 83 x3.toNatClampNeg)) 84 x3.toNatClampNeg)) 85 (x2 + x3).toNatClampNeg (lcI (lcUI (lcUI (lcUI z 82 (x2 + x3).toNatClampNeg (lcI z 82 x3.toNatClampNeg)) 83 (x2 + x3).toNatClampNeg (lcI (lcUI z 82 (x2 + x3).toNatClampNeg (lcI z 82 x3.toNatClampNeg)) 83 x3.toNatClampNeg)) 84 (x2 + x3).toNatClampNeg (lcI (lcUI (lcUI z 82 (x2 + x3).toNatClampNeg (lcI z 82 x3.toNatClampNeg)) 83 (x2 + x3).toNatClampNeg (lcI (lcUI z 82 (x2 + x3).toNatClampNeg (lcI z 82 x3.toNatClampNeg)) 83 x3.toNatClampNeg)) 84 x3.toNatClampNeg)) 85 x3.toNatClampNeg)) 86 x3.toNatClampNeg)) 87 x3.toNatClampNeg)) 88 (x2 + x3).toNatClampNeg (lcI (lcUI (lcUI (lcUI (lcUI (lcUI (lcUI z 82 (x2 + x3).toNatClampNeg (lcI z 82 x3.toNatClampNeg)) 83 (x2 + x3).toNatClampNeg (lcI (lcUI z 82 (x2 + x3).toNatClampNeg (lcI z 82 x3.toNatClampNeg)) 83 x3.toNatClampNeg)) 84 (x2 + x3).toNatClampNeg (lcI (lcUI (lcUI z 82 (x2 + x3).toNatClampNeg (lcI z 82 x3.toNatClampNeg)) 83 (x2 + x3).toNatClampNeg (lcI (lcUI z 82 (x2 + x3).toNatClampNeg (lcI z 82 x3.toNatClampNeg)) 83 x3.toNatClampNeg)) 84 x3.toNatClampNeg)) 85 (x2 + x3).toNatClampNeg (lcI (lcUI (lcUI (lcUI z 82 (x2 + x3).toNatClampNeg (lcI z 82 x3.toNatClampNeg)) 83 (x2 + x3).toNatClampNeg (lcI (lcUI z 82 (x2 + x3).toNatClampNeg (lcI z 82 x3.toNatClampNeg)) 83 x3.toNatClampNeg)) 84 (x2 + x3).toNatClampNeg (lcI (lcUI (lcUI z 82 (x2 + x3).toNatClampNeg (lcI z 82 x3.toNatClampNeg)) 83 (x2 + x3).toNatClampNeg (lcI (lcUI z 82 (x2 + x3).toNatClampNeg (lcI z 82 x3.toNatClampNeg)) 83 x3.toNatClampNeg)) 84 x3.toNatClampNeg)) 85 x3.toNatClampNeg)) 86 (x2 + x3).toNatClampNeg (lcI (lcUI (lcUI (lcUI (lcUI z 82 (x2 + x3).toNatClampNeg (lcI z 82 x3.toNatClampNeg)) 83 (x2 + x3).toNatClampNeg (lcI (lcUI z 82 (x2 + x3).toNatClampNeg (lcI z 82 x3.toNatClampNeg)) 83 x3.toNatClampNeg)) 84 (x2 + x3).toNatClampNeg (lcI (lcUI (lcUI z 82 (x2 + x3).toNatClampNeg (lcI z 82 x3.toNatClampNeg)) 83 (x2 + x3).toNatClampNeg (lcI (lcUI z 82 (x2 + x3).toNatClampNeg (lcI z 82 x3.toNatClampNeg)) 83 x3.toNatClampNeg)) 84 x3.toNatClampNeg)) 85 (x2 + x3).toNatClampNeg (lcI (lcUI (lcUI (lcUI z 82 (x2 + x3).toNatClampNeg (lcI z 82 x3.toNatClampNeg)) 83 (x2 + x3).toNatClampNeg (lcI (lcUI z 82 (x2 + x3).toNatClampNeg (lcI z 82 x3.toNatClampNeg)) 83 x3.toNatClampNeg)) 84 (x2 + x3).toNatClampNeg (lcI (lcUI (lcUI z 82 (x2 + x3).toNatClampNeg (lcI z 82 x3.toNatClampNeg)) 83 (x2 + x3).toNatClampNeg (lcI (lcUI z 82 (x2 + x3).toNatClampNeg (lcI z 82 x3.toNatClampNeg)) 83 x3.toNatClampNeg)) 84 x3.toNatClampNeg)) 85 x3.toNatClampNeg)) 86 x3.toNatClampNeg)) 87 (x2 + x3).toNatClampNeg (lcI (lcUI (lcUI (lcUI (lcUI (lcUI z 82 (x2 + x3).toNatClampNeg (lcI z 82 x3.toNatClampNeg)) 83 (x2 + x3).toNatClampNeg (lcI (lcUI z 82 (x2 + x3).toNatClampNeg (lcI z 82 x3.toNatClampNeg)) 83 x3.toNatClampNeg)) 84 (x2 + x3).toNatClampNeg (lcI (lcUI (lcUI z 82 (x2 + x3).toNatClampNeg (lcI z 82 x3.toNatClampNeg)) 83 (x2 + x3).toNatClampNeg (lcI (lcUI z 82 (x2 + x3).toNatClampNeg (lcI z 82 x3.toNatClampNeg)) 83 x3.toNatClampNeg)) 84 x3.toNatClampNeg)) 85 (x2 + x3).toNatClampNeg (lcI (lcUI (lcUI (lcUI z 82 (x2 + x3).toNatClampNeg (lcI z 82 x3.toNatClampNeg)) 83 (x2 + x3).toNatClampNeg (lcI (lcUI z 82 (x2 + x3).toNatClampNeg (lcI z 82 x3.toNatClampNeg)) 83 x3.toNatClampNeg)) 84 (x2 + x3).toNatClampNeg (lcI (lcUI (lcUI z 82 (x2 + x3).toNatClampNeg (lcI z 82 x3.toNatClampNeg)) 83 (x2 + x3).toNatClampNeg (lcI (lcUI z 82 (x2 + x3).toNatClampNeg (lcI z 82 x3.toNatClampNeg)) 83 x3.toNatClampNeg)) 84 x3.toNatClampNeg)) 85 x3.toNatClampNeg)) 86 (x2 + x3).toNatClampNeg (lcI (lcUI (lcUI (lcUI (lcUI z 82 (x2 + x3).toNatClampNeg (lcI z 82 x3.toNatClampNeg)) 83 (x2 + x3).toNatClampNeg (lcI (lcUI z 82 (x2 + x3).toNatClampNeg (lcI z 82 x3.toNatClampNeg)) 83 x3.toNatClampNeg)) 84 (x2 + x3).toNatClampNeg (lcI (lcUI (lcUI z 82 (x2 + x3).toNatClampNeg (lcI z 82 x3.toNatClampNeg)) 83 (x2 + x3).toNatClampNeg (lcI (lcUI z 82 (x2 + x3).toNatClampNeg (lcI z 82 x3.toNatClampNeg)) 83 x3.toNatClampNeg)) 84 x3.toNatClampNeg)) 85 (x2 + x3).toNatClampNeg (lcI (lcUI (lcUI (lcUI z 82 (x2 + x3).toNatClampNeg (lcI z 82 x3.toNatClampNeg)) 83 (x2 + x3).toNatClampNeg (lcI (lcUI z 82 (x2 + x3).toNatClampNeg (lcI z 82 x3.toNatClampNeg)) 83 x3.toNatClampNeg)) 84 (x2 + x3).toNatClampNeg (lcI (lcUI (lcUI z 82 (x2 + x3).toNatClampNeg (lcI z 82 x3.toNatClampNeg)) 83 (x2 + x3).toNatClampNeg (lcI (lcUI z 82 (x2 + x3).toNatClampNeg (lcI z 82 x3.toNatClampNeg)) 83 x3.toNatClampNeg)) 84 x3.toNatClampNeg)) 85 x3.toNatClampNeg)) 86 x3.toNatClampNeg)) 87 x3.toNatClampNeg)) 88 x3.toNatClampNeg)) 90 (x2 + x3).toNatClampNeg (lcI (lcUI (lcUI (lcUI (lcUI (lcUI (lcUI (lcUI z 82 (x2 + x3).toNatClampNeg (lcI z 82 x3.toNatClampNeg)) 83 (x2 + x3).toNatClampNeg (lcI (lcUI z 82 (x2 + x3).toNatClampNeg (lcI z 82 x3.toNatClampNeg)) 83 x3.toNatClampNeg)) 84 (x2 + x3).toNatClampNeg (lcI (lcUI (lcUI z 82 (x2 + x3).toNatClampNeg (lcI z 82 x3.toNatClampNeg)) 83 (x2 + x3).toNatClampNeg (lcI (lcUI z 82 (x2 + x3).toNatClampNeg (lcI z 82 x3.toNatClampNeg)) 83 x3.toNatClampNeg)) 84 x3.toNatClampNeg)) 85 (x2 + x3).toNatClampNeg (lcI (lcUI (lcUI (lcUI z 82 (x2 + x3).toNatClampNeg (lcI z 82 x3.toNatClampNeg)) 83 (x2 + x3).toNatClampNeg (lcI (lcUI z 82 (x2 + x3).toNatClampNeg (lcI z 82 x3.toNatClampNeg)) 83 x3.toNatClampNeg)) 84 (x2 + x3).toNatClampNeg (lcI (lcUI (lcUI z 82 (x2 + x3).toNatClampNeg (lcI z 82 x3.toNatClampNeg)) 83 (x2 + x3).toNatClampNeg (lcI (lcUI z 82 (x2 + x3).toNatClampNeg (lcI z 82 x3.toNatClampNeg)) 83 x3.toNatClampNeg)) 84 x3.toNatClampNeg)) 85 x3.toNatClampNeg)) 86 (x2 + x3).toNatClampNeg (lcI (lcUI (lcUI (lcUI (lcUI z 82 (x2 + x3).toNatClampNeg (lcI z 82 x3.toNatClampNeg)) 83 (x2 + x3).toNatClampNeg (lcI (lcUI z 82 (x2 + x3).toNatClampNeg (lcI z 82 x3.toNatClampNeg)) 83 x3.toNatClampNeg)) 84 (x2 + x3).toNatClampNeg (lcI (lcUI (lcUI z 82 (x2 + x3).toNatClampNeg (lcI z 82 x3.toNatClampNeg)) 83 (x2 + x3).toNatClampNeg (lcI (lcUI z 82 (x2 + x3).toNatClampNeg (lcI z 82 x3.toNatClampNeg)) 83 x3.toNatClampNeg)) 84 x3.toNatClampNeg)) 85 (x2 + x3).toNatClampNeg (lcI (lcUI (lcUI (lcUI z 82 (x2 + x3).toNatClampNeg (lcI z 82 x3.toNatClampNeg)) 83 (x2 + x3).toNatClampNeg (lcI (lcUI z 82 (x2 + x3).toNatClampNeg (lcI z 82 x3.toNatClampNeg)) 83 x3.toNatClampNeg)) 84 (x2 + x3).toNatClampNeg (lcI (lcUI (lcUI z 82 (x2 + x3).toNatClampNeg (lcI z 82 x3.toNatClampNeg)) 83 (x2 + x3).toNatClampNeg (lcI (lcUI z 82 (x2 + x3).toNatClampNeg (lcI z 82 x3.toNatClampNeg)) 83 x3.toNatClampNeg)) 84 x3.toNatClampNeg)) 85 x3.toNatClampNeg)) 86 x3.toNatClampNeg)) 87 (x2 + x3).toNatClampNeg (lcI (lcUI (lcUI (lcUI (lcUI (lcUI z 82 (x2 + x3).toNatClampNeg (lcI z 82 x3.toNatClampNeg)) 83 (x2 + x3).toNatClampNeg (lcI (lcUI z 82 (x2 + x3).toNatClampNeg (lcI z 82 x3.toNatClampNeg)) 83 x3.toNatClampNeg)) 84 (x2 + x3).toNatClampNeg (lcI (lcUI (lcUI z 82 (x2 + x3).toNatClampNeg (lcI z 82 x3.toNatClampNeg)) 83 (x2 + x3).toNatClampNeg (lcI (lcUI z 82 (x2 + x3).toNatClampNeg (lcI z 82 x3.toNatClampNeg)) 83 x3.toNatClampNeg)) 84 x3.toNatClampNeg)) 85 (x2 + x3).toNatClampNeg (lcI (lcUI (lcUI (lcUI z 82 (x2 + x3).toNatClampNeg (lcI z 82 x3.toNatClampNeg)) 83 (x2 + x3).toNatClampNeg (lcI (lcUI z 82 (x2 + x3).toNatClampNeg (lcI z 82 x3.toNatClampNeg)) 83 x3.toNatClampNeg)) 84 (x2 + x3).toNatClampNeg (lcI (lcUI (lcUI z 82 (x2 + x3).toNatClampNeg (lcI z 82 x3.toNatClampNeg)) 83 (x2 + x3).toNatClampNeg (lcI (lcUI z 82 (x2 + x3).toNatClampNeg (lcI z 82 x3.toNatClampNeg)) 83 x3.toNatClampNeg)) 84 x3.toNatClampNeg)) 85 x3.toNatClampNeg)) 86 (x2 + x3).toNatClampNeg (lcI (lcUI (lcUI (lcUI (lcUI z 82 (x2 + x3).toNatClampNeg (lcI z 82 x3.toNatClampNeg)) 83 (x2 + x3).toNatClampNeg (lcI (lcUI z 82 (x2 + x3).toNatClampNeg (lcI z 82 x3.toNatClampNeg)) 83 x3.toNatClampNeg)) 84 (x2 + x3).toNatClampNeg (lcI (lcUI (lcUI z 82 (x2 + x3).toNatClampNeg (lcI z 82 x3.toNatClampNeg)) 83 (x2 + x3).toNatClampNeg (lcI (lcUI z 82 (x2 + x3).toNatClampNeg (lcI z 82 x3.toNatClampNeg)) 83 x3.toNatClampNeg)) 84 x3.toNatClampNeg)) 85 (x2 + x3).toNatClampNeg (lcI (lcUI (lcUI (lcUI z 82 (x2 + x3).toNatClampNeg (lcI z 82 x3.toNatClampNeg)) 83 (x2 + x3).toNatClampNeg (lcI (lcUI z 82 (x2 + x3).toNatClampNeg (lcI z 82 x3.toNatClampNeg)) 83 x3.toNatClampNeg)) 84 (x2 + x3).toNatClampNeg (lcI (lcUI (lcUI z 82 (x2 + x3).toNatClampNeg (lcI z 82 x3.toNatClampNeg)) 83 (x2 + x3).toNatClampNeg (lcI (lcUI z 82 (x2 + x3).toNatClampNeg (lcI z 82 x3.toNatClampNeg)) 83 x3.toNatClampNeg)) 84 x3.toNatClampNeg)) 85 x3.toNatClampNeg)) 86 x3.toNatClampNeg)) 87 x3.toNatClampNeg)) 88 (x2 + x3).toNatClampNeg (lcI (lcUI (lcUI (lcUI (lcUI (lcUI (lcUI z 82 (x2 + x3).toNatClampNeg (lcI z 82 x3.toNatClampNeg)) 83 (x2 + x3).toNatClampNeg (lcI (lcUI z 82 (x2 + x3).toNatClampNeg (lcI z 82 x3.toNatClampNeg)) 83 x3.toNatClampNeg)) 84 (x2 + x3).toNatClampNeg (lcI (lcUI (lcUI z 82 (x2 + x3).toNatClampNeg (lcI z 82 x3.toNatClampNeg)) 83 (x2 + x3).toNatClampNeg (lcI (lcUI z 82 (x2 + x3).toNatClampNeg (lcI z 82 x3.toNatClampNeg)) 83 x3.toNatClampNeg)) 84 x3.toNatClampNeg)) 85 (x2 + x3).toNatClampNeg (lcI (lcUI (lcUI (lcUI z 82 (x2 + x3).toNatClampNeg (lcI z 82 x3.toNatClampNeg)) 83 (x2 + x3).toNatClampNeg (lcI (lcUI z 82 (x2 + x3).toNatClampNeg (lcI z 82 x3.toNatClampNeg)) 83 x3.toNatClampNeg)) 84 (x2 + x3).toNatClampNeg (lcI (lcUI (lcUI z 82 (x2 + x3).toNatClampNeg (lcI z 82 x3.toNatClampNeg)) 83 (x2 + x3).toNatClampNeg (lcI (lcUI z 82 (x2 + x3).toNatClampNeg (lcI z 82 x3.toNatClampNeg)) 83 x3.toNatClampNeg)) 84 x3.toNatClampNeg)) 85 x3.toNatClampNeg)) 86 (x2 + x3).toNatClampNeg (lcI (lcUI (lcUI (lcUI (lcUI z 82 (x2 + x3).toNatClampNeg (lcI z 82 x3.toNatClampNeg)) 83 (x2 + x3).toNatClampNeg (lcI (lcUI z 82 (x2 + x3).toNatClampNeg (lcI z 82 x3.toNatClampNeg)) 83 x3.toNatClampNeg)) 84 (x2 + x3).toNatClampNeg (lcI (lcUI (lcUI z 82 (x2 + x3).toNatClampNeg (lcI z 82 x3.toNatClampNeg)) 83 (x2 + x3).toNatClampNeg (lcI (lcUI z 82 (x2 + x3).toNatClampNeg (lcI z 82 x3.toNatClampNeg)) 83 x3.toNatClampNeg)) 84 x3.toNatClampNeg)) 85 (x2 + x3).toNatClampNeg (lcI (lcUI (lcUI (lcUI z 82 (x2 + x3).toNatClampNeg (lcI z 82 x3.toNatClampNeg)) 83 (x2 + x3).toNatClampNeg (lcI (lcUI z 82 (x2 + x3).toNatClampNeg (lcI z 82 x3.toNatClampNeg)) 83 x3.toNatClampNeg)) 84 (x2 + x3).toNatClampNeg (lcI (lcUI (lcUI z 82 (x2 + x3).toNatClampNeg (lcI z 82 x3.toNatClampNeg)) 83 (x2 + x3).toNatClampNeg (lcI (lcUI z 82 (x2 + x3).toNatClampNeg (lcI z 82 x3.toNatClampNeg)) 83 x3.toNatClampNeg)) 84 x3.toNatClampNeg)) 85 x3.toNatClampNeg)) 86 x3.toNatClampNeg)) 87 (x2 + x3).toNatClampNeg (lcI (lcUI (lcUI (lcUI (lcUI (lcUI z 82 (x2 + x3).toNatClampNeg (lcI z 82 x3.toNatClampNeg)) 83 (x2 + x3).toNatClampNeg (lcI (lcUI z 82 (x2 + x3).toNatClampNeg (lcI z 82 x3.toNatClampNeg)) 83 x3.toNatClampNeg)) 84 (x2 + x3).toNatClampNeg (lcI (lcUI (lcUI z 82 (x2 + x3).toNatClampNeg (lcI z 82 x3.toNatClampNeg)) 83 (x2 + x3).toNatClampNeg (lcI (lcUI z 82 (x2 + x3).toNatClampNeg (lcI z 82 x3.toNatClampNeg)) 83 x3.toNatClampNeg)) 84 x3.toNatClampNeg)) 85 (x2 + x3).toNatClampNeg (lcI (lcUI (lcUI (lcUI z 82 (x2 + x3).toNatClampNeg (lcI z 82 x3.toNatClampNeg)) 83 (x2 + x3).toNatClampNeg (lcI (lcUI z 82 (x2 + x3).toNatClampNeg (lcI z 82 x3.toNatClampNeg)) 83 x3.toNatClampNeg)) 84 (x2 + x3).toNatClampNeg (lcI (lcUI (lcUI z 82 (x2 + x3).toNatClampNeg (lcI z 82 x3.toNatClampNeg)) 83 (x2 + x3).toNatClampNeg (lcI (lcUI z 82 (x2 + x3).toNatClampNeg (lcI z 82 x3.toNatClampNeg)) 83 x3.toNatClampNeg)) 84 x3.toNatClampNeg)) 85 x3.toNatClampNeg)) 86 (x2 + x3).toNatClampNeg (lcI (lcUI (lcUI (lcUI (lcUI z 82 (x2 + x3).toNatClampNeg (lcI z 82 x3.toNatClampNeg)) 83 (x2 + x3).toNatClampNeg (lcI (lcUI z 82 (x2 + x3).toNatClampNeg (lcI z 82 x3.toNatClampNeg)) 83 x3.toNatClampNeg)) 84 (x2 + x3).toNatClampNeg (lcI (lcUI (lcUI z 82 (x2 + x3).toNatClampNeg (lcI z 82 x3.toNatClampNeg)) 83 (x2 + x3).toNatClampNeg (lcI (lcUI z 82 (x2 + x3).toNatClampNeg (lcI z 82 x3.toNatClampNeg)) 83 x3.toNatClampNeg)) 84 x3.toNatClampNeg)) 85 (x2 + x3).toNatClampNeg (lcI (lcUI (lcUI (lcUI z 82 (x2 + x3).toNatClampNeg (lcI z 82 x3.toNatClampNeg)) 83 (x2 + x3).toNatClampNeg (lcI (lcUI z 82 (x2 + x3).toNatClampNeg (lcI z 82 x3.toNatClampNeg)) 83 x3.toNatClampNeg)) 84 (x2 + x3).toNatClampNeg (lcI (lcUI (lcUI z 82 (x2 + x3).toNatClampNeg (lcI z 82 x3.toNatClampNeg)) 83 (x2 + x3).toNatClampNeg (lcI (lcUI z 82 (x2 + x3).toNatClampNeg (lcI z 82 x3.toNatClampNeg)) 83 x3.toNatClampNeg)) 84 x3.toNatClampNeg)) 85 x3.toNatClampNeg)) 86 x3.toNatClampNeg)) 87 x3.toNatClampNeg)) 88 x3.toNatClampNeg)) 90 x3.toNatClampNeg)) 91 x3.toNatClampNeg)))))))))))))))))))))))
def fQ_define (a1 : Int32) (z : lc_S) : Option ((Int32) × lc_S) :=
  lc_bnd (fQ_read (lcUI z 80 0 0)) (fun r6 z6 => if (lcI (lcUI z6 80 1 0) 80 14) = 0 then (if a1 < 0 then (fQ_define_30 (lcUI z6 80 1 0)) else (if a1 ≤ 3 then (if (lcI (lcUI z6 80 1 0) 80 15) = 0 then (lc_let (120 * (a1 + 1)) (fun x55 => fQ_define_58 lc_FU a1 x55 0 (lcUI z6 80 1 0))) else (lc_bnd (fQ_refuse 2 (lcUI z6 80 1 0)) (fun r45 z45 => some (r45, z45)))) else (fQ_define_30 (lcUI z6 80 1 0)))) else (fQ_define_30 (lcUI z6 80 1 0)))
set_option maxHeartbeats 4000000 in
set_option maxRecDepth 100000 in
theorem bQ_define_30 {p : Program} {l : Launch} {e : Env} {s : State} {m : MethodId} {args : Array Value} {below : List Frame} {meth : Method} {c : Code} {G : lc_G} (hx : p.tables.exec = Jvm.exec) (hb : c.code = prog_10_method_21_code) (hml : c.maxLocals = 4) (hr : meth.sig.returnType = (some .int)) (hlocks : meth.locks = false) (hown : s.vm.findClass "LinearCellsModel" = some m.cls) (hts : ∀ w ∈ lc_ALL, w.before args s = true) (hE : lc_E G s) {r : Int32} {z' : lc_S} : ∀ {z : lc_S} {H : Heap} {locs : List Loc} {ls : Array Slot}, fQ_define_30 z = some (r, z') → lv_has ls 4 [(0, .ref (lc_ad G 80))] → lc_H G z s.heap H locs → W p l e (lc_rm 5) s m args below meth c H locs 0 0 (MQ below (lc_Q G (some (.int r)) z') args s 0 0 (lc_A G)) (F0 m 30 ls []) := by
  intro z H locs ls hf hl hH
  rw [fQ_define_30] at hf
  refine lv_aload_n hx hb dQ_define_30 rfl (lv_at hl 0 rfl) ?_
  refine lv_iconst (v := 1) hx hb dQ_define_31 (by decide) ?_
  obtain ⟨r32, z32, h32, hf⟩ := lc_bnd_some hf
  refine lc_calli (va_runV (As := [.int 1]) (rest := []) ⟨hx, hb, hml, hown, hts⟩ (cQ_refuse l G h32) (lc_cwV hts kvQ_220 (lc_room (by decide) (by decide))) (lc_preV hE hH lc_h80 rfl _) rfl rfl hl.1 rfl (lv_room (Nat.le_of_ble_eq_true rfl)) dQ_define_32 ⟨Nat.zero_le _, Nat.zero_le _⟩) hH (fun H locs hH => ?_)
  exact lc_iret hx hb hr hlocks hH hf dQ_define_35
set_option maxHeartbeats 4000000 in
set_option maxRecDepth 100000 in
theorem bQ_define_58 {p : Program} {l : Launch} {e : Env} {s : State} {m : MethodId} {args : Array Value} {below : List Frame} {meth : Method} {c : Code} {G : lc_G} (hx : p.tables.exec = Jvm.exec) (hb : c.code = prog_10_method_21_code) (hml : c.maxLocals = 4) (hr : meth.sig.returnType = (some .int)) (hlocks : meth.locks = false) (hown : s.vm.findClass "LinearCellsModel" = some m.cls) (hts : ∀ w ∈ lc_ALL, w.before args s = true) (hE : lc_E G s) {r : Int32} {z' : lc_S} : ∀ (n : Nat) {x1 : Int32} {x2 : Int32} {x3 : Int32} {z : lc_S} {H : Heap} {locs : List Loc} {ls : Array Slot}, fQ_define_58 n x1 x2 x3 z = some (r, z') → lv_has ls 4 [(0, .ref (lc_ad G 80)), (1, .int x1), (2, .int x2), (3, .int x3)] → lc_H G z s.heap H locs → W p l e (lc_rm 5) s m args below meth c H locs 0 0 (MQ below (lc_Q G (some (.int r)) z') args s 0 0 (lc_A G)) (F0 m 58 ls []) := by
  intro n
  induction n with
  | zero =>
    intro x1 x2 x3 z H locs ls hf hl hH
    exact absurd (show (none : Option ((Int32) × lc_S)) = some (r, z') from hf) (fun h => by cases h)
  | succ n ih =>
    intro x1 x2 x3 z H locs ls hf hl hH
    rw [fQ_define_58] at hf
    refine lv_iload_n hx hb dQ_define_58 rfl (lv_at hl 3 rfl) ?_
    refine lv_bipush (v := 120) hx hb dQ_define_59 (by decide) ?_
    refine lv_icmp_ge (tgt := 196) hx hb dQ_define_61 (by decide) (fun hc => ?_) (fun hc => ?_)
    · replace hf := lc_ite_pos hc hf
      refine lv_aload_n hx hb dQ_define_196 rfl (lv_at hl 0 rfl) ?_
      refine lc_getf (d := 9) (q := 89) hx hb hts hown hE hH flQ_35 lc_h80 rfl rfl dQ_define_197 ?_
      refine lv_iload_n hx hb dQ_define_200 rfl (lv_at hl 1 rfl) ?_
      refine lv_iconst (v := 1) hx hb dQ_define_201 (by decide) ?_
      refine lv_iadd hx hb dQ_define_202 ?_
      refine lv_aload_n hx hb dQ_define_203 rfl (lv_at hl 0 rfl) ?_
      refine lc_getf (d := 9) (q := 89) hx hb hts hown hE hH flQ_35 lc_h80 rfl rfl dQ_define_204 ?_
      refine lv_iconst (v := 0) hx hb dQ_define_207 (by decide) ?_
      refine lc_iald hx hb hE hH lc_h89 rfl (by decide) dQ_define_208 ?_
      obtain ⟨hi209, hf⟩ := lc_chk_some hf
      refine lc_iast hx hb hE hH lc_h89 rfl hi209 dQ_define_209 (fun H locs hH => ?_)
      refine lv_aload_n hx hb dQ_define_210 rfl (lv_at hl 0 rfl) ?_
      refine lc_getf (d := 9) (q := 89) hx hb hts hown hE hH flQ_35 lc_h80 rfl rfl dQ_define_211 ?_
      refine lv_iconst (v := 0) hx hb dQ_define_214 (by decide) ?_
      refine lc_iald hx hb hE hH lc_h89 rfl (by decide) dQ_define_215 ?_
      exact lc_iret hx hb hr hlocks hH hf dQ_define_216
    · replace hf := lc_ite_neg hc hf
      refine lv_aload_n hx hb dQ_define_64 rfl (lv_at hl 0 rfl) ?_
      refine lc_getf (d := 2) (q := 82) hx hb hts hown hE hH flQ_13 lc_h80 rfl rfl dQ_define_65 ?_
      refine lv_iload_n hx hb dQ_define_68 rfl (lv_at hl 2 rfl) ?_
      refine lv_iload_n hx hb dQ_define_69 rfl (lv_at hl 3 rfl) ?_
      refine lv_iadd hx hb dQ_define_70 ?_
      refine lv_aload_n hx hb dQ_define_71 rfl (lv_at hl 0 rfl) ?_
      refine lc_getf (d := 2) (q := 82) hx hb hts hown hE hH flQ_13 lc_h80 rfl rfl dQ_define_72 ?_
      refine lv_iload_n hx hb dQ_define_75 rfl (lv_at hl 3 rfl) ?_
      obtain ⟨hi76, hf⟩ := lc_chk_some hf
      refine lc_iald hx hb hE hH lc_h82 rfl hi76 dQ_define_76 ?_
      obtain ⟨hi77, hf⟩ := lc_chk_some hf
      refine lc_iast hx hb hE hH lc_h82 rfl hi77 dQ_define_77 (fun H locs hH => ?_)
      refine lv_aload_n hx hb dQ_define_78 rfl (lv_at hl 0 rfl) ?_
      refine lc_getf (d := 3) (q := 83) hx hb hts hown hE hH flQ_16 lc_h80 rfl rfl dQ_define_79 ?_
      refine lv_iload_n hx hb dQ_define_82 rfl (lv_at hl 2 rfl) ?_
      refine lv_iload_n hx hb dQ_define_83 rfl (lv_at hl 3 rfl) ?_
      refine lv_iadd hx hb dQ_define_84 ?_
      refine lv_aload_n hx hb dQ_define_85 rfl (lv_at hl 0 rfl) ?_
      refine lc_getf (d := 3) (q := 83) hx hb hts hown hE hH flQ_16 lc_h80 rfl rfl dQ_define_86 ?_
      refine lv_iload_n hx hb dQ_define_89 rfl (lv_at hl 3 rfl) ?_
      obtain ⟨hi90, hf⟩ := lc_chk_some hf
      refine lc_iald hx hb hE hH lc_h83 rfl hi90 dQ_define_90 ?_
      obtain ⟨hi91, hf⟩ := lc_chk_some hf
      refine lc_iast hx hb hE hH lc_h83 rfl hi91 dQ_define_91 (fun H locs hH => ?_)
      refine lv_aload_n hx hb dQ_define_92 rfl (lv_at hl 0 rfl) ?_
      refine lc_getf (d := 4) (q := 84) hx hb hts hown hE hH flQ_19 lc_h80 rfl rfl dQ_define_93 ?_
      refine lv_iload_n hx hb dQ_define_96 rfl (lv_at hl 2 rfl) ?_
      refine lv_iload_n hx hb dQ_define_97 rfl (lv_at hl 3 rfl) ?_
      refine lv_iadd hx hb dQ_define_98 ?_
      refine lv_aload_n hx hb dQ_define_99 rfl (lv_at hl 0 rfl) ?_
      refine lc_getf (d := 4) (q := 84) hx hb hts hown hE hH flQ_19 lc_h80 rfl rfl dQ_define_100 ?_
      refine lv_iload_n hx hb dQ_define_103 rfl (lv_at hl 3 rfl) ?_
      obtain ⟨hi104, hf⟩ := lc_chk_some hf
      refine lc_iald hx hb hE hH lc_h84 rfl hi104 dQ_define_104 ?_
      obtain ⟨hi105, hf⟩ := lc_chk_some hf
      refine lc_iast hx hb hE hH lc_h84 rfl hi105 dQ_define_105 (fun H locs hH => ?_)
      refine lv_aload_n hx hb dQ_define_106 rfl (lv_at hl 0 rfl) ?_
      refine lc_getf (d := 5) (q := 85) hx hb hts hown hE hH flQ_22 lc_h80 rfl rfl dQ_define_107 ?_
      refine lv_iload_n hx hb dQ_define_110 rfl (lv_at hl 2 rfl) ?_
      refine lv_iload_n hx hb dQ_define_111 rfl (lv_at hl 3 rfl) ?_
      refine lv_iadd hx hb dQ_define_112 ?_
      refine lv_aload_n hx hb dQ_define_113 rfl (lv_at hl 0 rfl) ?_
      refine lc_getf (d := 5) (q := 85) hx hb hts hown hE hH flQ_22 lc_h80 rfl rfl dQ_define_114 ?_
      refine lv_iload_n hx hb dQ_define_117 rfl (lv_at hl 3 rfl) ?_
      obtain ⟨hi118, hf⟩ := lc_chk_some hf
      refine lc_iald hx hb hE hH lc_h85 rfl hi118 dQ_define_118 ?_
      obtain ⟨hi119, hf⟩ := lc_chk_some hf
      refine lc_iast hx hb hE hH lc_h85 rfl hi119 dQ_define_119 (fun H locs hH => ?_)
      refine lv_aload_n hx hb dQ_define_120 rfl (lv_at hl 0 rfl) ?_
      refine lc_getf (d := 6) (q := 86) hx hb hts hown hE hH flQ_25 lc_h80 rfl rfl dQ_define_121 ?_
      refine lv_iload_n hx hb dQ_define_124 rfl (lv_at hl 2 rfl) ?_
      refine lv_iload_n hx hb dQ_define_125 rfl (lv_at hl 3 rfl) ?_
      refine lv_iadd hx hb dQ_define_126 ?_
      refine lv_aload_n hx hb dQ_define_127 rfl (lv_at hl 0 rfl) ?_
      refine lc_getf (d := 6) (q := 86) hx hb hts hown hE hH flQ_25 lc_h80 rfl rfl dQ_define_128 ?_
      refine lv_iload_n hx hb dQ_define_131 rfl (lv_at hl 3 rfl) ?_
      obtain ⟨hi132, hf⟩ := lc_chk_some hf
      refine lc_iald hx hb hE hH lc_h86 rfl hi132 dQ_define_132 ?_
      obtain ⟨hi133, hf⟩ := lc_chk_some hf
      refine lc_iast hx hb hE hH lc_h86 rfl hi133 dQ_define_133 (fun H locs hH => ?_)
      refine lv_aload_n hx hb dQ_define_134 rfl (lv_at hl 0 rfl) ?_
      refine lc_getf (d := 7) (q := 87) hx hb hts hown hE hH flQ_28 lc_h80 rfl rfl dQ_define_135 ?_
      refine lv_iload_n hx hb dQ_define_138 rfl (lv_at hl 2 rfl) ?_
      refine lv_iload_n hx hb dQ_define_139 rfl (lv_at hl 3 rfl) ?_
      refine lv_iadd hx hb dQ_define_140 ?_
      refine lv_aload_n hx hb dQ_define_141 rfl (lv_at hl 0 rfl) ?_
      refine lc_getf (d := 7) (q := 87) hx hb hts hown hE hH flQ_28 lc_h80 rfl rfl dQ_define_142 ?_
      refine lv_iload_n hx hb dQ_define_145 rfl (lv_at hl 3 rfl) ?_
      obtain ⟨hi146, hf⟩ := lc_chk_some hf
      refine lc_iald hx hb hE hH lc_h87 rfl hi146 dQ_define_146 ?_
      obtain ⟨hi147, hf⟩ := lc_chk_some hf
      refine lc_iast hx hb hE hH lc_h87 rfl hi147 dQ_define_147 (fun H locs hH => ?_)
      refine lv_aload_n hx hb dQ_define_148 rfl (lv_at hl 0 rfl) ?_
      refine lc_getf (d := 8) (q := 88) hx hb hts hown hE hH flQ_31 lc_h80 rfl rfl dQ_define_149 ?_
      refine lv_iload_n hx hb dQ_define_152 rfl (lv_at hl 2 rfl) ?_
      refine lv_iload_n hx hb dQ_define_153 rfl (lv_at hl 3 rfl) ?_
      refine lv_iadd hx hb dQ_define_154 ?_
      refine lv_aload_n hx hb dQ_define_155 rfl (lv_at hl 0 rfl) ?_
      refine lc_getf (d := 8) (q := 88) hx hb hts hown hE hH flQ_31 lc_h80 rfl rfl dQ_define_156 ?_
      refine lv_iload_n hx hb dQ_define_159 rfl (lv_at hl 3 rfl) ?_
      obtain ⟨hi160, hf⟩ := lc_chk_some hf
      refine lc_zald hx hb hE hH lc_h88 rfl hi160 dQ_define_160 ?_
      obtain ⟨hi161, hf⟩ := lc_chk_some hf
      obtain ⟨hn161, hf⟩ := lc_chk_some hf
      refine lc_zast hx hb hE hH lc_h88 rfl hi161 hn161 dQ_define_161 (fun H locs hH => ?_)
      refine lv_aload_n hx hb dQ_define_162 rfl (lv_at hl 0 rfl) ?_
      refine lc_getf (d := 10) (q := 90) hx hb hts hown hE hH flQ_38 lc_h80 rfl rfl dQ_define_163 ?_
      refine lv_iload_n hx hb dQ_define_166 rfl (lv_at hl 2 rfl) ?_
      refine lv_iload_n hx hb dQ_define_167 rfl (lv_at hl 3 rfl) ?_
      refine lv_iadd hx hb dQ_define_168 ?_
      refine lv_aload_n hx hb dQ_define_169 rfl (lv_at hl 0 rfl) ?_
      refine lc_getf (d := 10) (q := 90) hx hb hts hown hE hH flQ_38 lc_h80 rfl rfl dQ_define_170 ?_
      refine lv_iload_n hx hb dQ_define_173 rfl (lv_at hl 3 rfl) ?_
      obtain ⟨hi174, hf⟩ := lc_chk_some hf
      refine lc_iald hx hb hE hH lc_h90 rfl hi174 dQ_define_174 ?_
      obtain ⟨hi175, hf⟩ := lc_chk_some hf
      refine lc_iast hx hb hE hH lc_h90 rfl hi175 dQ_define_175 (fun H locs hH => ?_)
      refine lv_aload_n hx hb dQ_define_176 rfl (lv_at hl 0 rfl) ?_
      refine lc_getf (d := 11) (q := 91) hx hb hts hown hE hH flQ_41 lc_h80 rfl rfl dQ_define_177 ?_
      refine lv_iload_n hx hb dQ_define_180 rfl (lv_at hl 2 rfl) ?_
      refine lv_iload_n hx hb dQ_define_181 rfl (lv_at hl 3 rfl) ?_
      refine lv_iadd hx hb dQ_define_182 ?_
      refine lv_aload_n hx hb dQ_define_183 rfl (lv_at hl 0 rfl) ?_
      refine lc_getf (d := 11) (q := 91) hx hb hts hown hE hH flQ_41 lc_h80 rfl rfl dQ_define_184 ?_
      refine lv_iload_n hx hb dQ_define_187 rfl (lv_at hl 3 rfl) ?_
      obtain ⟨hi188, hf⟩ := lc_chk_some hf
      refine lc_iald hx hb hE hH lc_h91 rfl hi188 dQ_define_188 ?_
      obtain ⟨hi189, hf⟩ := lc_chk_some hf
      refine lc_iast hx hb hE hH lc_h91 rfl hi189 dQ_define_189 (fun H locs hH => ?_)
      obtain ⟨x190, e190⟩ : ∃ x : Int32, x = x3 + 1 := ⟨_, rfl⟩
      replace hf := lc_let_of e190 hf
      refine lv_iinc (k := 3) (v := x190) hx hb dQ_define_190 hl rfl ((lc_incv _ (by decide)).trans e190.symm) (by decide) rfl (fun ls hl => ?_)
      replace hl : lv_has ls 4 [(3, .int x190), (0, .ref (lc_ad G 80)), (1, .int x1), (2, .int x2)] := hl
      refine lv_goto (tgt := 58) hx hb dQ_define_193 (by decide) ?_
      exact ih hf (lv_sub hl [1, 2, 3, 0] rfl) hH
set_option maxHeartbeats 4000000 in
set_option maxRecDepth 100000 in
theorem cQ_define (l : Launch) (G : lc_G) {a1 : Int32} {r : Int32} {z z' : lc_S} (hf : fQ_define a1 z = some (r, z')) : lc_M l G yQ_define wQ_define 5 [.ref (lc_ad G 80), .int a1] z (some (.int r)) z' := by
  refine lc_M_of (cc := prog_10_method_21_code) (maxL := 4) (ret := (some .int)) (own := "LinearCellsModel") (by decide) rfl (fun w h => List.mem_cons_of_mem _ h) (Nat.le_of_ble_eq_true rfl) rfl ?_
  intro p e s m below meth c hx hb hml hr hlocks hown hts hE ls hl hH
  replace hl : lv_has ls 4 [(0, .ref (lc_ad G 80)), (1, .int a1)] := hl
  rw [fQ_define] at hf
  refine lv_aload_n hx hb dQ_define_0 rfl (lv_at hl 0 rfl) ?_
  refine lv_iconst (v := 0) hx hb dQ_define_1 (by decide) ?_
  refine lc_puti hx hb hts hown hE hH fpQ_135 lc_h80 rfl rfl rfl dQ_define_2 (fun H locs hH => ?_)
  refine lv_aload_n hx hb dQ_define_5 rfl (lv_at hl 0 rfl) ?_
  obtain ⟨r6, z6, h6, hf⟩ := lc_bnd_some hf
  refine lc_callv (va_runV (As := []) (rest := []) ⟨hx, hb, hml, hown, hts⟩ (cQ_read l G h6) (lc_cwV hts kvQ_217 (lc_room (by decide) (by decide))) (lc_preV hE hH lc_h80 rfl _) rfl rfl hl.1 rfl (lv_room (Nat.le_of_ble_eq_true rfl)) dQ_define_6 ⟨Nat.zero_le _, Nat.zero_le _⟩) hH (fun H locs hH => ?_)
  refine lv_aload_n hx hb dQ_define_9 rfl (lv_at hl 0 rfl) ?_
  refine lv_iconst (v := 0) hx hb dQ_define_10 (by decide) ?_
  refine lc_puti hx hb hts hown hE hH fpQ_145 lc_h80 rfl rfl rfl dQ_define_11 (fun H locs hH => ?_)
  refine lv_aload_n hx hb dQ_define_14 rfl (lv_at hl 0 rfl) ?_
  refine lc_geti hx hb hts hown hE hH flQ_155 lc_h80 rfl dQ_define_15 ?_
  refine lv_if_ne (tgt := 30) hx hb dQ_define_18 (by decide) (fun hc => ?_) (fun hc => ?_)
  · replace hf := lc_ite_neg hc hf
    exact bQ_define_30 hx hb hml hr hlocks hown hts hE hf (lv_sub hl [0] rfl) hH
  · replace hf := lc_ite_pos hc hf
    refine lv_iload_n hx hb dQ_define_21 rfl (lv_at hl 1 rfl) ?_
    refine lv_if_lt (tgt := 30) hx hb dQ_define_22 (by decide) (fun hc => ?_) (fun hc => ?_)
    · replace hf := lc_ite_pos hc hf
      exact bQ_define_30 hx hb hml hr hlocks hown hts hE hf (lv_sub hl [0] rfl) hH
    · replace hf := lc_ite_neg hc hf
      refine lv_iload_n hx hb dQ_define_25 rfl (lv_at hl 1 rfl) ?_
      refine lv_iconst (v := 3) hx hb dQ_define_26 (by decide) ?_
      refine lv_icmp_le (tgt := 36) hx hb dQ_define_27 (by decide) (fun hc => ?_) (fun hc => ?_)
      · replace hf := lc_ite_pos hc hf
        refine lv_aload_n hx hb dQ_define_36 rfl (lv_at hl 0 rfl) ?_
        refine lc_geti hx hb hts hown hE hH flQ_182 lc_h80 rfl dQ_define_37 ?_
        refine lv_if_eq (tgt := 49) hx hb dQ_define_40 (by decide) (fun hc => ?_) (fun hc => ?_)
        · replace hf := lc_ite_pos hc hf
          refine lv_bipush (v := 120) hx hb dQ_define_49 (by decide) ?_
          refine lv_iload_n hx hb dQ_define_51 rfl (lv_at hl 1 rfl) ?_
          refine lv_iconst (v := 1) hx hb dQ_define_52 (by decide) ?_
          refine lv_iadd hx hb dQ_define_53 ?_
          refine lv_imul hx hb dQ_define_54 ?_
          refine lv_topi (fun x55 e55 => ?_)
          replace hf := lc_let_of e55 hf
          refine lv_istore_n hx hb dQ_define_55 rfl hl (by decide) rfl (fun ls hl => ?_)
          replace hl : lv_has ls 4 [(2, .int x55), (0, .ref (lc_ad G 80)), (1, .int a1)] := hl
          refine lv_iconst (v := 0) hx hb dQ_define_56 (by decide) ?_
          refine lv_istore_n hx hb dQ_define_57 rfl hl (by decide) rfl (fun ls hl => ?_)
          replace hl : lv_has ls 4 [(3, .int 0), (2, .int x55), (0, .ref (lc_ad G 80)), (1, .int a1)] := hl
          exact bQ_define_58 hx hb hml hr hlocks hown hts hE _ hf (lv_sub hl [2, 3, 1, 0] rfl) hH
        · replace hf := lc_ite_neg hc hf
          refine lv_aload_n hx hb dQ_define_43 rfl (lv_at hl 0 rfl) ?_
          refine lv_iconst (v := 2) hx hb dQ_define_44 (by decide) ?_
          obtain ⟨r45, z45, h45, hf⟩ := lc_bnd_some hf
          refine lc_calli (va_runV (As := [.int 2]) (rest := []) ⟨hx, hb, hml, hown, hts⟩ (cQ_refuse l G h45) (lc_cwV hts kvQ_220 (lc_room (by decide) (by decide))) (lc_preV hE hH lc_h80 rfl _) rfl rfl hl.1 rfl (lv_room (Nat.le_of_ble_eq_true rfl)) dQ_define_45 ⟨Nat.zero_le _, Nat.zero_le _⟩) hH (fun H locs hH => ?_)
          exact lc_iret hx hb hr hlocks hH hf dQ_define_48
      · replace hf := lc_ite_neg hc hf
        exact bQ_define_30 hx hb hml hr hlocks hown hts hE hf (lv_sub hl [0] rfl) hH
theorem dQ_isThere_0 : decode prog_10_method_22_code 0 = .ok (.iload_n 1, 1) := by decide +kernel
theorem dQ_isThere_1 : decode prog_10_method_22_code 1 = .ok (.ifCond .lt 23, 3) := by decide +kernel
theorem dQ_isThere_4 : decode prog_10_method_22_code 4 = .ok (.iload_n 1, 1) := by decide +kernel
theorem dQ_isThere_5 : decode prog_10_method_22_code 5 = .ok (.iconst 4, 1) := by decide +kernel
theorem dQ_isThere_6 : decode prog_10_method_22_code 6 = .ok (.if_icmp .ge 18, 3) := by decide +kernel
theorem dQ_isThere_9 : decode prog_10_method_22_code 9 = .ok (.aload_n 0, 1) := by decide +kernel
theorem dQ_isThere_10 : decode prog_10_method_22_code 10 = .ok (.getfield 35, 3) := by decide +kernel
theorem dQ_isThere_13 : decode prog_10_method_22_code 13 = .ok (.iload_n 1, 1) := by decide +kernel
theorem dQ_isThere_14 : decode prog_10_method_22_code 14 = .ok (.iconst 1, 1) := by decide +kernel
theorem dQ_isThere_15 : decode prog_10_method_22_code 15 = .ok (.iadd, 1) := by decide +kernel
theorem dQ_isThere_16 : decode prog_10_method_22_code 16 = .ok (.iaload, 1) := by decide +kernel
theorem dQ_isThere_17 : decode prog_10_method_22_code 17 = .ok (.ifCond .le 7, 3) := by decide +kernel
theorem dQ_isThere_20 : decode prog_10_method_22_code 20 = .ok (.iconst 1, 1) := by decide +kernel
theorem dQ_isThere_21 : decode prog_10_method_22_code 21 = .ok (.goto 4, 3) := by decide +kernel
theorem dQ_isThere_24 : decode prog_10_method_22_code 24 = .ok (.iconst 0, 1) := by decide +kernel
theorem dQ_isThere_25 : decode prog_10_method_22_code 25 = .ok (.ireturn, 1) := by decide +kernel
def fQ_isThere_24 (z : lc_S) : Option ((Int32) × lc_S) :=
  some (0, z)
def fQ_isThere (a1 : Int32) (z : lc_S) : Option ((Int32) × lc_S) :=
  if a1 < 0 then (fQ_isThere_24 z) else (if 4 ≤ a1 then (fQ_isThere_24 z) else (lc_chk (lc_in (a1 + 1) 5) (if (lcI z 89 (a1 + 1).toNatClampNeg) ≤ 0 then (fQ_isThere_24 z) else (some (1, z)))))
set_option maxHeartbeats 4000000 in
set_option maxRecDepth 100000 in
theorem bQ_isThere_24 {p : Program} {l : Launch} {e : Env} {s : State} {m : MethodId} {args : Array Value} {below : List Frame} {meth : Method} {c : Code} {G : lc_G} (hx : p.tables.exec = Jvm.exec) (hb : c.code = prog_10_method_22_code) (hml : c.maxLocals = 2) (hr : meth.sig.returnType = (some .boolean)) (hlocks : meth.locks = false) (hown : s.vm.findClass "LinearCellsModel" = some m.cls) (hts : ∀ w ∈ lc_ALL, w.before args s = true) (hE : lc_E G s) {r : Int32} {z' : lc_S} : ∀ {z : lc_S} {H : Heap} {locs : List Loc} {ls : Array Slot}, fQ_isThere_24 z = some (r, z') → lv_has ls 2 [] → lc_H G z s.heap H locs → W p l e (lc_rm 0) s m args below meth c H locs 0 0 (MQ below (lc_Q G (some (.int r)) z') args s 0 0 (lc_A G)) (F0 m 24 ls []) := by
  intro z H locs ls hf hl hH
  rw [fQ_isThere_24] at hf
  refine lv_iconst (v := 0) hx hb dQ_isThere_24 (by decide) ?_
  exact lc_zret hx hb hr hlocks (by decide) hH hf dQ_isThere_25
set_option maxHeartbeats 4000000 in
set_option maxRecDepth 100000 in
theorem cQ_isThere (l : Launch) (G : lc_G) {a1 : Int32} {r : Int32} {z z' : lc_S} (hf : fQ_isThere a1 z = some (r, z')) : lc_M l G yQ_isThere wQ_isThere 0 [.ref (lc_ad G 80), .int a1] z (some (.int r)) z' := by
  refine lc_M_of (cc := prog_10_method_22_code) (maxL := 2) (ret := (some .boolean)) (own := "LinearCellsModel") (by decide) rfl (fun w h => List.mem_cons_of_mem _ h) (Nat.le_of_ble_eq_true rfl) rfl ?_
  intro p e s m below meth c hx hb hml hr hlocks hown hts hE ls hl hH
  replace hl : lv_has ls 2 [(0, .ref (lc_ad G 80)), (1, .int a1)] := hl
  rw [fQ_isThere] at hf
  refine lv_iload_n hx hb dQ_isThere_0 rfl (lv_at hl 1 rfl) ?_
  refine lv_if_lt (tgt := 24) hx hb dQ_isThere_1 (by decide) (fun hc => ?_) (fun hc => ?_)
  · replace hf := lc_ite_pos hc hf
    exact bQ_isThere_24 hx hb hml hr hlocks hown hts hE hf (lv_sub hl [] rfl) hH
  · replace hf := lc_ite_neg hc hf
    refine lv_iload_n hx hb dQ_isThere_4 rfl (lv_at hl 1 rfl) ?_
    refine lv_iconst (v := 4) hx hb dQ_isThere_5 (by decide) ?_
    refine lv_icmp_ge (tgt := 24) hx hb dQ_isThere_6 (by decide) (fun hc => ?_) (fun hc => ?_)
    · replace hf := lc_ite_pos hc hf
      exact bQ_isThere_24 hx hb hml hr hlocks hown hts hE hf (lv_sub hl [] rfl) hH
    · replace hf := lc_ite_neg hc hf
      refine lv_aload_n hx hb dQ_isThere_9 rfl (lv_at hl 0 rfl) ?_
      refine lc_getf (d := 9) (q := 89) hx hb hts hown hE hH flQ_35 lc_h80 rfl rfl dQ_isThere_10 ?_
      refine lv_iload_n hx hb dQ_isThere_13 rfl (lv_at hl 1 rfl) ?_
      refine lv_iconst (v := 1) hx hb dQ_isThere_14 (by decide) ?_
      refine lv_iadd hx hb dQ_isThere_15 ?_
      obtain ⟨hi16, hf⟩ := lc_chk_some hf
      refine lc_iald hx hb hE hH lc_h89 rfl hi16 dQ_isThere_16 ?_
      refine lv_if_le (tgt := 24) hx hb dQ_isThere_17 (by decide) (fun hc => ?_) (fun hc => ?_)
      · replace hf := lc_ite_pos hc hf
        exact bQ_isThere_24 hx hb hml hr hlocks hown hts hE hf (lv_sub hl [] rfl) hH
      · replace hf := lc_ite_neg hc hf
        refine lv_iconst (v := 1) hx hb dQ_isThere_20 (by decide) ?_
        refine lv_goto (tgt := 25) hx hb dQ_isThere_21 (by decide) ?_
        exact lc_zret hx hb hr hlocks (by decide) hH hf dQ_isThere_25
