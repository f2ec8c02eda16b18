theorem dQ_find_0 : decode prog_10_method_26_code 0 = .ok (.aload_n 0, 1) := by decide +kernel
theorem dQ_find_1 : decode prog_10_method_26_code 1 = .ok (.iconst 2, 1) := by decide +kernel
theorem dQ_find_2 : decode prog_10_method_26_code 2 = .ok (.putfield 223, 3) := by decide +kernel
theorem dQ_find_5 : decode prog_10_method_26_code 5 = .ok (.iconst 0, 1) := by decide +kernel
theorem dQ_find_6 : decode prog_10_method_26_code 6 = .ok (.istore_n 2, 1) := by decide +kernel
theorem dQ_find_7 : decode prog_10_method_26_code 7 = .ok (.iload_n 2, 1) := by decide +kernel
theorem dQ_find_8 : decode prog_10_method_26_code 8 = .ok (.iconst 4, 1) := by decide +kernel
theorem dQ_find_9 : decode prog_10_method_26_code 9 = .ok (.if_icmp .ge 60, 3) := by decide +kernel
theorem dQ_find_12 : decode prog_10_method_26_code 12 = .ok (.aload_n 0, 1) := by decide +kernel
theorem dQ_find_13 : decode prog_10_method_26_code 13 = .ok (.iload_n 2, 1) := by decide +kernel
theorem dQ_find_14 : decode prog_10_method_26_code 14 = .ok (.invokevirtual 230, 3) := by decide +kernel
theorem dQ_find_17 : decode prog_10_method_26_code 17 = .ok (.ifCond .ne 6, 3) := by decide +kernel
theorem dQ_find_20 : decode prog_10_method_26_code 20 = .ok (.goto 43, 3) := by decide +kernel
theorem dQ_find_23 : decode prog_10_method_26_code 23 = .ok (.aload_n 0, 1) := by decide +kernel
theorem dQ_find_24 : decode prog_10_method_26_code 24 = .ok (.getfield 71, 3) := by decide +kernel
theorem dQ_find_27 : decode prog_10_method_26_code 27 = .ok (.iload_n 2, 1) := by decide +kernel
theorem dQ_find_28 : decode prog_10_method_26_code 28 = .ok (.aload_n 0, 1) := by decide +kernel
theorem dQ_find_29 : decode prog_10_method_26_code 29 = .ok (.aload_n 0, 1) := by decide +kernel
theorem dQ_find_30 : decode prog_10_method_26_code 30 = .ok (.getfield 38, 3) := by decide +kernel
theorem dQ_find_33 : decode prog_10_method_26_code 33 = .ok (.bipush 120, 2) := by decide +kernel
theorem dQ_find_35 : decode prog_10_method_26_code 35 = .ok (.iload_n 2, 1) := by decide +kernel
theorem dQ_find_36 : decode prog_10_method_26_code 36 = .ok (.iconst 1, 1) := by decide +kernel
theorem dQ_find_37 : decode prog_10_method_26_code 37 = .ok (.iadd, 1) := by decide +kernel
theorem dQ_find_38 : decode prog_10_method_26_code 38 = .ok (.imul, 1) := by decide +kernel
theorem dQ_find_39 : decode prog_10_method_26_code 39 = .ok (.invokevirtual 233, 3) := by decide +kernel
theorem dQ_find_42 : decode prog_10_method_26_code 42 = .ok (.iastore, 1) := by decide +kernel
theorem dQ_find_43 : decode prog_10_method_26_code 43 = .ok (.aload_n 0, 1) := by decide +kernel
theorem dQ_find_44 : decode prog_10_method_26_code 44 = .ok (.getfield 74, 3) := by decide +kernel
theorem dQ_find_47 : decode prog_10_method_26_code 47 = .ok (.iload_n 2, 1) := by decide +kernel
theorem dQ_find_48 : decode prog_10_method_26_code 48 = .ok (.aload_n 0, 1) := by decide +kernel
theorem dQ_find_49 : decode prog_10_method_26_code 49 = .ok (.aload_n 0, 1) := by decide +kernel
theorem dQ_find_50 : decode prog_10_method_26_code 50 = .ok (.getfield 41, 3) := by decide +kernel
theorem dQ_find_53 : decode prog_10_method_26_code 53 = .ok (.bipush 120, 2) := by decide +kernel
theorem dQ_find_55 : decode prog_10_method_26_code 55 = .ok (.iload_n 2, 1) := by decide +kernel
theorem dQ_find_56 : decode prog_10_method_26_code 56 = .ok (.iconst 1, 1) := by decide +kernel
theorem dQ_find_57 : decode prog_10_method_26_code 57 = .ok (.iadd, 1) := by decide +kernel
theorem dQ_find_58 : decode prog_10_method_26_code 58 = .ok (.imul, 1) := by decide +kernel
theorem dQ_find_59 : decode prog_10_method_26_code 59 = .ok (.invokevirtual 233, 3) := by decide +kernel
theorem dQ_find_62 : decode prog_10_method_26_code 62 = .ok (.iastore, 1) := by decide +kernel
theorem dQ_find_63 : decode prog_10_method_26_code 63 = .ok (.iinc 2 1, 3) := by decide +kernel
theorem dQ_find_66 : decode prog_10_method_26_code 66 = .ok (.goto (-59), 3) := by decide +kernel
theorem dQ_find_69 : decode prog_10_method_26_code 69 = .ok (.aload_n 0, 1) := by decide +kernel
theorem dQ_find_70 : decode prog_10_method_26_code 70 = .ok (.getfield 35, 3) := by decide +kernel
theorem dQ_find_73 : decode prog_10_method_26_code 73 = .ok (.iload_n 1, 1) := by decide +kernel
theorem dQ_find_74 : decode prog_10_method_26_code 74 = .ok (.iconst 1, 1) := by decide +kernel
theorem dQ_find_75 : decode prog_10_method_26_code 75 = .ok (.iadd, 1) := by decide +kernel
theorem dQ_find_76 : decode prog_10_method_26_code 76 = .ok (.iaload, 1) := by decide +kernel
theorem dQ_find_77 : decode prog_10_method_26_code 77 = .ok (.istore_n 2, 1) := by decide +kernel
theorem dQ_find_78 : decode prog_10_method_26_code 78 = .ok (.iconst 0, 1) := by decide +kernel
theorem dQ_find_79 : decode prog_10_method_26_code 79 = .ok (.istore_n 3, 1) := by decide +kernel
theorem dQ_find_80 : decode prog_10_method_26_code 80 = .ok (.iload_n 3, 1) := by decide +kernel
theorem dQ_find_81 : decode prog_10_method_26_code 81 = .ok (.iload_n 2, 1) := by decide +kernel
theorem dQ_find_82 : decode prog_10_method_26_code 82 = .ok (.if_icmp .ge 17, 3) := by decide +kernel
theorem dQ_find_85 : decode prog_10_method_26_code 85 = .ok (.aload_n 0, 1) := by decide +kernel
theorem dQ_find_86 : decode prog_10_method_26_code 86 = .ok (.getfield 68, 3) := by decide +kernel
theorem dQ_find_89 : decode prog_10_method_26_code 89 = .ok (.iload_n 3, 1) := by decide +kernel
theorem dQ_find_90 : decode prog_10_method_26_code 90 = .ok (.bipush (-2), 2) := by decide +kernel
theorem dQ_find_92 : decode prog_10_method_26_code 92 = .ok (.iastore, 1) := by decide +kernel
theorem dQ_find_93 : decode prog_10_method_26_code 93 = .ok (.iinc 3 1, 3) := by decide +kernel
theorem dQ_find_96 : decode prog_10_method_26_code 96 = .ok (.goto (-16), 3) := by decide +kernel
theorem dQ_find_99 : decode prog_10_method_26_code 99 = .ok (.iconst 1, 1) := by decide +kernel
theorem dQ_find_100 : decode prog_10_method_26_code 100 = .ok (.istore_n 3, 1) := by decide +kernel
theorem dQ_find_101 : decode prog_10_method_26_code 101 = .ok (.iload_n 3, 1) := by decide +kernel
theorem dQ_find_102 : decode prog_10_method_26_code 102 = .ok (.ifCond .eq 75, 3) := by decide +kernel
theorem dQ_find_105 : decode prog_10_method_26_code 105 = .ok (.iconst 0, 1) := by decide +kernel
theorem dQ_find_106 : decode prog_10_method_26_code 106 = .ok (.istore_n 3, 1) := by decide +kernel
theorem dQ_find_107 : decode prog_10_method_26_code 107 = .ok (.iload_n 2, 1) := by decide +kernel
theorem dQ_find_108 : decode prog_10_method_26_code 108 = .ok (.iconst 1, 1) := by decide +kernel
theorem dQ_find_109 : decode prog_10_method_26_code 109 = .ok (.isub, 1) := by decide +kernel
theorem dQ_find_110 : decode prog_10_method_26_code 110 = .ok (.istore 4, 2) := by decide +kernel
theorem dQ_find_112 : decode prog_10_method_26_code 112 = .ok (.iload 4, 2) := by decide +kernel
theorem dQ_find_114 : decode prog_10_method_26_code 114 = .ok (.ifCond .lt 60, 3) := by decide +kernel
theorem dQ_find_117 : decode prog_10_method_26_code 117 = .ok (.aload_n 0, 1) := by decide +kernel
theorem dQ_find_118 : decode prog_10_method_26_code 118 = .ok (.getfield 68, 3) := by decide +kernel
theorem dQ_find_121 : decode prog_10_method_26_code 121 = .ok (.iload 4, 2) := by decide +kernel
theorem dQ_find_123 : decode prog_10_method_26_code 123 = .ok (.iaload, 1) := by decide +kernel
theorem dQ_find_124 : decode prog_10_method_26_code 124 = .ok (.bipush (-2), 2) := by decide +kernel
theorem dQ_find_126 : decode prog_10_method_26_code 126 = .ok (.if_icmp .eq 6, 3) := by decide +kernel
theorem dQ_find_129 : decode prog_10_method_26_code 129 = .ok (.goto 39, 3) := by decide +kernel
theorem dQ_find_132 : decode prog_10_method_26_code 132 = .ok (.aload_n 0, 1) := by decide +kernel
theorem dQ_find_133 : decode prog_10_method_26_code 133 = .ok (.getfield 68, 3) := by decide +kernel
theorem dQ_find_136 : decode prog_10_method_26_code 136 = .ok (.iload 4, 2) := by decide +kernel
theorem dQ_find_138 : decode prog_10_method_26_code 138 = .ok (.aload_n 0, 1) := by decide +kernel
theorem dQ_find_139 : decode prog_10_method_26_code 139 = .ok (.iload_n 1, 1) := by decide +kernel
theorem dQ_find_140 : decode prog_10_method_26_code 140 = .ok (.iload 4, 2) := by decide +kernel
theorem dQ_find_142 : decode prog_10_method_26_code 142 = .ok (.invokevirtual 237, 3) := by decide +kernel
theorem dQ_find_145 : decode prog_10_method_26_code 145 = .ok (.iastore, 1) := by decide +kernel
theorem dQ_find_146 : decode prog_10_method_26_code 146 = .ok (.iload_n 3, 1) := by decide +kernel
theorem dQ_find_147 : decode prog_10_method_26_code 147 = .ok (.ifCond .ne 15, 3) := by decide +kernel
theorem dQ_find_150 : decode prog_10_method_26_code 150 = .ok (.aload_n 0, 1) := by decide +kernel
theorem dQ_find_151 : decode prog_10_method_26_code 151 = .ok (.getfield 68, 3) := by decide +kernel
theorem dQ_find_154 : decode prog_10_method_26_code 154 = .ok (.iload 4, 2) := by decide +kernel
theorem dQ_find_156 : decode prog_10_method_26_code 156 = .ok (.iaload, 1) := by decide +kernel
theorem dQ_find_157 : decode prog_10_method_26_code 157 = .ok (.bipush (-2), 2) := by decide +kernel
theorem dQ_find_159 : decode prog_10_method_26_code 159 = .ok (.if_icmp .eq 7, 3) := by decide +kernel
theorem dQ_find_162 : decode prog_10_method_26_code 162 = .ok (.iconst 1, 1) := by decide +kernel
theorem dQ_find_163 : decode prog_10_method_26_code 163 = .ok (.goto 4, 3) := by decide +kernel
theorem dQ_find_166 : decode prog_10_method_26_code 166 = .ok (.iconst 0, 1) := by decide +kernel
theorem dQ_find_167 : decode prog_10_method_26_code 167 = .ok (.istore_n 3, 1) := by decide +kernel
theorem dQ_find_168 : decode prog_10_method_26_code 168 = .ok (.iinc 4 (-1), 3) := by decide +kernel
theorem dQ_find_171 : decode prog_10_method_26_code 171 = .ok (.goto (-59), 3) := by decide +kernel
theorem dQ_find_174 : decode prog_10_method_26_code 174 = .ok (.goto (-73), 3) := by decide +kernel
theorem dQ_find_177 : decode prog_10_method_26_code 177 = .ok (.iconst 1, 1) := by decide +kernel
theorem dQ_find_178 : decode prog_10_method_26_code 178 = .ok (.istore 4, 2) := by decide +kernel
theorem dQ_find_180 : decode prog_10_method_26_code 180 = .ok (.iconst 0, 1) := by decide +kernel
theorem dQ_find_181 : decode prog_10_method_26_code 181 = .ok (.istore 5, 2) := by decide +kernel
theorem dQ_find_183 : decode prog_10_method_26_code 183 = .ok (.iload 5, 2) := by decide +kernel
theorem dQ_find_185 : decode prog_10_method_26_code 185 = .ok (.iload_n 2, 1) := by decide +kernel
theorem dQ_find_186 : decode prog_10_method_26_code 186 = .ok (.if_icmp .ge 31, 3) := by decide +kernel
theorem dQ_find_189 : decode prog_10_method_26_code 189 = .ok (.iload 4, 2) := by decide +kernel
theorem dQ_find_191 : decode prog_10_method_26_code 191 = .ok (.ifCond .eq 17, 3) := by decide +kernel
theorem dQ_find_194 : decode prog_10_method_26_code 194 = .ok (.aload_n 0, 1) := by decide +kernel
theorem dQ_find_195 : decode prog_10_method_26_code 195 = .ok (.getfield 68, 3) := by decide +kernel
theorem dQ_find_198 : decode prog_10_method_26_code 198 = .ok (.iload 5, 2) := by decide +kernel
theorem dQ_find_200 : decode prog_10_method_26_code 200 = .ok (.iaload, 1) := by decide +kernel
theorem dQ_find_201 : decode prog_10_method_26_code 201 = .ok (.ifCond .lt 7, 3) := by decide +kernel
theorem dQ_find_204 : decode prog_10_method_26_code 204 = .ok (.iconst 1, 1) := by decide +kernel
theorem dQ_find_205 : decode prog_10_method_26_code 205 = .ok (.goto 4, 3) := by decide +kernel
theorem dQ_find_208 : decode prog_10_method_26_code 208 = .ok (.iconst 0, 1) := by decide +kernel
theorem dQ_find_209 : decode prog_10_method_26_code 209 = .ok (.istore 4, 2) := by decide +kernel
theorem dQ_find_211 : decode prog_10_method_26_code 211 = .ok (.iinc 5 1, 3) := by decide +kernel
theorem dQ_find_214 : decode prog_10_method_26_code 214 = .ok (.goto (-31), 3) := by decide +kernel
theorem dQ_find_217 : decode prog_10_method_26_code 217 = .ok (.iload 4, 2) := by decide +kernel
theorem dQ_find_219 : decode prog_10_method_26_code 219 = .ok (.ireturn, 1) := by decide +kernel
def fQ_find_63 (k7 : Int32 → Int32 → lc_S → Option ((Int32) × lc_S)) (x1 : Int32) (x2 : Int32) (z : lc_S) : Option ((Int32) × lc_S) :=
  lc_let (x2 + 1) (fun x63 => k7 x1 x63 z)
def fQ_find_168 (k101 : Int32 → Int32 → Int32 → lc_S → Option ((Int32) × lc_S)) (k112 : Int32 → Int32 → Int32 → Int32 → lc_S → Option ((Int32) × lc_S)) (x1 : Int32) (x2 : Int32) (x3 : Int32) (x4 : Int32) (z : lc_S) : Option ((Int32) × lc_S) :=
  lc_let (x4 + (-1)) (fun x168 => k112 x1 x2 x3 x168 z)
def fQ_find_167 (k101 : Int32 → Int32 → Int32 → lc_S → Option ((Int32) × lc_S)) (k112 : Int32 → Int32 → Int32 → Int32 → lc_S → Option ((Int32) × lc_S)) (x1 : Int32) (x2 : Int32) (x4 : Int32) (t0 : Int32) (z : lc_S) : Option ((Int32) × lc_S) :=
  fQ_find_168 k101 k112 x1 x2 t0 x4 z
def fQ_find_162 (k101 : Int32 → Int32 → Int32 → lc_S → Option ((Int32) × lc_S)) (k112 : Int32 → Int32 → Int32 → Int32 → lc_S → Option ((Int32) × lc_S)) (x1 : Int32) (x2 : Int32) (x4 : Int32) (z : lc_S) : Option ((Int32) × lc_S) :=
  fQ_find_167 k101 k112 x1 x2 x4 1 z
def fQ_find_112 (k101 : Int32 → Int32 → Int32 → lc_S → Option ((Int32) × lc_S)) : Nat → Int32 → Int32 → Int32 → Int32 → lc_S → Option ((Int32) × lc_S)
  | 0, _, _, _, _, _ => none
  | n + 1, x1, x2, x3, x4, z => if x4 < 0 then (k101 x1 x2 x3 z) else (lc_chk (lc_in x4 120) (if (lcI z 100 x4.toNatClampNeg) = (-2) then (lc_bnd (fQ_typeBy x1 x4 z) (fun r142 z142 => lc_chk (lc_in x4 120) (if x3 = 0 then (lc_chk (lc_in x4 120) (if (lcI (lcUI z142 100 x4.toNatClampNeg r142) 100 x4.toNatClampNeg) = (-2) then (fQ_find_167 k101 (fQ_find_112 k101 n) x1 x2 x4 0 (lcUI z142 100 x4.toNatClampNeg r142)) else (fQ_find_162 k101 (fQ_find_112 k101 n) x1 x2 x4 (lcUI z142 100 x4.toNatClampNeg r142)))) else (fQ_find_162 k101 (fQ_find_112 k101 n) x1 x2 x4 (lcUI z142 100 x4.toNatClampNeg r142))))) else (fQ_find_168 k101 (fQ_find_112 k101 n) x1 x2 x3 x4 z)))
def fQ_find_209 (k183 : Int32 → Int32 → Int32 → lc_S → Option ((Int32) × lc_S)) (x2 : Int32) (x5 : Int32) (t0 : Int32) (z : lc_S) : Option ((Int32) × lc_S) :=
  lc_let (x5 + 1) (fun x211 => k183 x2 t0 x211 z)
def fQ_find_208 (k183 : Int32 → Int32 → Int32 → lc_S → Option ((Int32) × lc_S)) (x2 : Int32) (x5 : Int32) (z : lc_S) : Option ((Int32) × lc_S) :=
  fQ_find_209 k183 x2 x5 0 z
def fQ_find_183 : Nat → Int32 → Int32 → Int32 → lc_S → Option ((Int32) × lc_S)
  | 0, _, _, _, _ => none
  | n + 1, x2, x4, x5, z => if x2 ≤ x5 then (lc_chk (lc_zok x4) (some (x4, z))) else (if x4 = 0 then (fQ_find_208 (fQ_find_183 n) x2 x5 z) else (lc_chk (lc_in x5 120) (if (lcI z 100 x5.toNatClampNeg) < 0 then (fQ_find_208 (fQ_find_183 n) x2 x5 z) else (fQ_find_209 (fQ_find_183 n) x2 x5 1 z))))
def fQ_find_101 : Nat → Int32 → Int32 → Int32 → lc_S → Option ((Int32) × lc_S)
  | 0, _, _, _, _ => none
  | n + 1, x1, x2, x3, z => if x3 = 0 then (fQ_find_183 lc_FU x2 1 0 z) else (lc_let (x2 - 1) (fun x110 => fQ_find_112 (fQ_find_101 n) lc_FU x1 x2 0 x110 z))
def fQ_find_80 : Nat → Int32 → Int32 → Int32 → lc_S → Option ((Int32) × lc_S)
  | 0, _, _, _, _ => none
  | n + 1, x1, x2, x3, z => if x2 ≤ x3 then (fQ_find_101 lc_FU x1 x2 1 z) else (lc_chk (lc_in x3 120) (lc_let (x3 + 1) (fun x93 => fQ_find_80 n x1 x2 x93 (lcUI z 100 x3.toNatClampNeg (-2)))))
def fQ_find_7 : Nat → Int32 → Int32 → lc_S → Option ((Int32) × lc_S)
  | 0, _, _, _ => none
  | n + 1, x1, x2, z => if 4 ≤ x2 then (lc_chk (lc_in (x1 + 1) 5) (lc_let (lcI z 89 (x1 + 1).toNatClampNeg) (fun x77 => fQ_find_80 lc_FU x1 x77 0 z))) else (lc_bnd (fQ_isThere x2 z) (fun r14 z14 => if r14 = 0 then (fQ_find_63 (fQ_find_7 n) x1 x2 z14) else (lc_bnd (fQ_typeIn 90 (120 * (x2 + 1)) z14) (fun r39 z39 => lc_chk (lc_in x2 4) (lc_bnd (fQ_typeIn 91 (120 * (x2 + 1)) (lcUI z39 101 x2.toNatClampNeg r39)) (fun r59 z59 => lc_chk (lc_in x2 4) (fQ_find_63 (fQ_find_7 n) x1 x2 (lcUI z59 102 x2.toNatClampNeg r59))))))))
def fQ_find (a1 : Int32) (z : lc_S) : Option ((Int32) × lc_S) :=
  fQ_find_7 lc_FU a1 0 (lcUI z 80 25 2)
set_option maxHeartbeats 4000000 in
set_option maxRecDepth 100000 in
theorem bQ_find_63 {p : Program} {l : Launch} {e : Env} {s : State} {m : MethodId} {args : Array Value} {below : List Frame} {meth : Method} {c : Code} {G : lc_G} (hx : p.tables.exec = Jvm.exec) (hb : c.code = prog_10_method_26_code) (hml : c.maxLocals = 6) (hr : meth.sig.returnType = (some .boolean)) (hlocks : meth.locks = false) (hown : s.vm.findClass "LinearCellsModel" = some m.cls) (hts : ∀ w ∈ lc_ALL, w.before args s = true) (hE : lc_E G s) {k7 : Int32 → Int32 → lc_S → Option ((Int32) × lc_S)} {r : Int32} {z' : lc_S} (hk7 : ∀ {x1 : Int32} {x2 : Int32} {z : lc_S} {H : Heap} {locs : List Loc} {ls : Array Slot}, k7 x1 x2 z = some (r, z') → lv_has ls 6 [(0, .ref (lc_ad G 80)), (1, .int x1), (2, .int x2)] → lc_H G z s.heap H locs → W p l e (lc_rm 3) s m args below meth c H locs 0 0 (MQ below (lc_Q G (some (.int r)) z') args s 0 0 (lc_A G)) (F0 m 7 ls [])) : ∀ {x1 : Int32} {x2 : Int32} {z : lc_S} {H : Heap} {locs : List Loc} {ls : Array Slot}, fQ_find_63 k7 x1 x2 z = some (r, z') → lv_has ls 6 [(0, .ref (lc_ad G 80)), (1, .int x1), (2, .int x2)] → lc_H G z s.heap H locs → W p l e (lc_rm 3) s m args below meth c H locs 0 0 (MQ below (lc_Q G (some (.int r)) z') args s 0 0 (lc_A G)) (F0 m 63 ls []) := by
  intro x1 x2 z H locs ls hf hl hH
  rw [fQ_find_63] at hf
  obtain ⟨x63, e63⟩ : ∃ x : Int32, x = x2 + 1 := ⟨_, rfl⟩
  replace hf := lc_let_of e63 hf
  refine lv_iinc (k := 2) (v := x63) hx hb dQ_find_63 hl rfl ((lc_incv _ (by decide)).trans e63.symm) (by decide) rfl (fun ls hl => ?_)
  replace hl : lv_has ls 6 [(2, .int x63), (0, .ref (lc_ad G 80)), (1, .int x1)] := hl
  refine lv_goto (tgt := 7) hx hb dQ_find_66 (by decide) ?_
  exact hk7 hf (lv_sub hl [1, 2, 0] rfl) hH
set_option maxHeartbeats 4000000 in
set_option maxRecDepth 100000 in
theorem bQ_find_168 {p : Program} {l : Launch} {e : Env} {s : State} {m : MethodId} {args : Array Value} {below : List Frame} {meth : Method} {c : Code} {G : lc_G} (hx : p.tables.exec = Jvm.exec) (hb : c.code = prog_10_method_26_code) (hml : c.maxLocals = 6) (hr : meth.sig.returnType = (some .boolean)) (hlocks : meth.locks = false) (hown : s.vm.findClass "LinearCellsModel" = some m.cls) (hts : ∀ w ∈ lc_ALL, w.before args s = true) (hE : lc_E G s) {k101 : Int32 → Int32 → Int32 → lc_S → Option ((Int32) × lc_S)} {k112 : Int32 → Int32 → Int32 → Int32 → lc_S → Option ((Int32) × lc_S)} {r : Int32} {z' : lc_S} (hk101 : ∀ {x1 : Int32} {x2 : Int32} {x3 : Int32} {z : lc_S} {H : Heap} {locs : List Loc} {ls : Array Slot}, k101 x1 x2 x3 z = some (r, z') → lv_has ls 6 [(0, .ref (lc_ad G 80)), (1, .int x1), (2, .int x2), (3, .int x3)] → lc_H G z s.heap H locs → W p l e (lc_rm 3) s m args below meth c H locs 0 0 (MQ below (lc_Q G (some (.int r)) z') args s 0 0 (lc_A G)) (F0 m 101 ls [])) (hk112 : ∀ {x1 : Int32} {x2 : Int32} {x3 : Int32} {x4 : Int32} {z : lc_S} {H : Heap} {locs : List Loc} {ls : Array Slot}, k112 x1 x2 x3 x4 z = some (r, z') → lv_has ls 6 [(0, .ref (lc_ad G 80)), (1, .int x1), (2, .int x2), (3, .int x3), (4, .int x4)] → lc_H G z s.heap H locs → W p l e (lc_rm 3) s m args below meth c H locs 0 0 (MQ below (lc_Q G (some (.int r)) z') args s 0 0 (lc_A G)) (F0 m 112 ls [])) : ∀ {x1 : Int32} {x2 : Int32} {x3 : Int32} {x4 : Int32} {z : lc_S} {H : Heap} {locs : List Loc} {ls : Array Slot}, fQ_find_168 k101 k112 x1 x2 x3 x4 z = some (r, z') → lv_has ls 6 [(0, .ref (lc_ad G 80)), (1, .int x1), (2, .int x2), (3, .int x3), (4, .int x4)] → lc_H G z s.heap H locs → W p l e (lc_rm 3) s m args below meth c H locs 0 0 (MQ below (lc_Q G (some (.int r)) z') args s 0 0 (lc_A G)) (F0 m 168 ls []) := by
  intro x1 x2 x3 x4 z H locs ls hf hl hH
  rw [fQ_find_168] at hf
  obtain ⟨x168, e168⟩ : ∃ x : Int32, x = x4 + (-1) := ⟨_, rfl⟩
  replace hf := lc_let_of e168 hf
  refine lv_iinc (k := 4) (v := x168) hx hb dQ_find_168 hl rfl ((lc_incv _ (by decide)).trans e168.symm) (by decide) rfl (fun ls hl => ?_)
  replace hl : lv_has ls 6 [(4, .int x168), (0, .ref (lc_ad G 80)), (1, .int x1), (2, .int x2), (3, .int x3)] := hl
  refine lv_goto (tgt := 112) hx hb dQ_find_171 (by decide) ?_
  exact hk112 hf (lv_sub hl [1, 2, 3, 4, 0] rfl) hH
set_option maxHeartbeats 4000000 in
set_option maxRecDepth 100000 in
theorem bQ_find_167 {p : Program} {l : Launch} {e : Env} {s : State} {m : MethodId} {args : Array Value} {below : List Frame} {meth : Method} {c : Code} {G : lc_G} (hx : p.tables.exec = Jvm.exec) (hb : c.code = prog_10_method_26_code) (hml : c.maxLocals = 6) (hr : meth.sig.returnType = (some .boolean)) (hlocks : meth.locks = false) (hown : s.vm.findClass "LinearCellsModel" = some m.cls) (hts : ∀ w ∈ lc_ALL, w.before args s = true) (hE : lc_E G s) {k101 : Int32 → Int32 → Int32 → lc_S → Option ((Int32) × lc_S)} {k112 : Int32 → Int32 → Int32 → Int32 → lc_S → Option ((Int32) × lc_S)} {r : Int32} {z' : lc_S} (hk101 : ∀ {x1 : Int32} {x2 : Int32} {x3 : Int32} {z : lc_S} {H : Heap} {locs : List Loc} {ls : Array Slot}, k101 x1 x2 x3 z = some (r, z') → lv_has ls 6 [(0, .ref (lc_ad G 80)), (1, .int x1), (2, .int x2), (3, .int x3)] → lc_H G z s.heap H locs → W p l e (lc_rm 3) s m args below meth c H locs 0 0 (MQ below (lc_Q G (some (.int r)) z') args s 0 0 (lc_A G)) (F0 m 101 ls [])) (hk112 : ∀ {x1 : Int32} {x2 : Int32} {x3 : Int32} {x4 : Int32} {z : lc_S} {H : Heap} {locs : List Loc} {ls : Array Slot}, k112 x1 x2 x3 x4 z = some (r, z') → lv_has ls 6 [(0, .ref (lc_ad G 80)), (1, .int x1), (2, .int x2), (3, .int x3), (4, .int x4)] → lc_H G z s.heap H locs → W p l e (lc_rm 3) s m args below meth c H locs 0 0 (MQ below (lc_Q G (some (.int r)) z') args s 0 0 (lc_A G)) (F0 m 112 ls [])) : ∀ {x1 : Int32} {x2 : Int32} {x4 : Int32} {t0 : Int32} {z : lc_S} {H : Heap} {locs : List Loc} {ls : Array Slot}, fQ_find_167 k101 k112 x1 x2 x4 t0 z = some (r, z') → lv_has ls 6 [(0, .ref (lc_ad G 80)), (1, .int x1), (2, .int x2), (4, .int x4)] → lc_H G z s.heap H locs → W p l e (lc_rm 3) s m args below meth c H locs 0 0 (MQ below (lc_Q G (some (.int r)) z') args s 0 0 (lc_A G)) (F0 m 167 ls [.int t0]) := by
  intro x1 x2 x4 t0 z H locs ls hf hl hH
  rw [fQ_find_167] at hf
  refine lv_istore_n hx hb dQ_find_167 rfl hl (by decide) rfl (fun ls hl => ?_)
  replace hl : lv_has ls 6 [(3, .int t0), (0, .ref (lc_ad G 80)), (1, .int x1), (2, .int x2), (4, .int x4)] := hl
  exact bQ_find_168 hx hb hml hr hlocks hown hts hE (fun hf hl hH => hk101 hf hl hH) (fun hf hl hH => hk112 hf hl hH) hf (lv_sub hl [1, 2, 3, 0, 4] rfl) hH
set_option maxHeartbeats 4000000 in
set_option maxRecDepth 100000 in
theorem bQ_find_162 {p : Program} {l : Launch} {e : Env} {s : State} {m : MethodId} {args : Array Value} {below : List Frame} {meth : Method} {c : Code} {G : lc_G} (hx : p.tables.exec = Jvm.exec) (hb : c.code = prog_10_method_26_code) (hml : c.maxLocals = 6) (hr : meth.sig.returnType = (some .boolean)) (hlocks : meth.locks = false) (hown : s.vm.findClass "LinearCellsModel" = some m.cls) (hts : ∀ w ∈ lc_ALL, w.before args s = true) (hE : lc_E G s) {k101 : Int32 → Int32 → Int32 → lc_S → Option ((Int32) × lc_S)} {k112 : Int32 → Int32 → Int32 → Int32 → lc_S → Option ((Int32) × lc_S)} {r : Int32} {z' : lc_S} (hk101 : ∀ {x1 : Int32} {x2 : Int32} {x3 : Int32} {z : lc_S} {H : Heap} {locs : List Loc} {ls : Array Slot}, k101 x1 x2 x3 z = some (r, z') → lv_has ls 6 [(0, .ref (lc_ad G 80)), (1, .int x1), (2, .int x2), (3, .int x3)] → lc_H G z s.heap H locs → W p l e (lc_rm 3) s m args below meth c H locs 0 0 (MQ below (lc_Q G (some (.int r)) z') args s 0 0 (lc_A G)) (F0 m 101 ls [])) (hk112 : ∀ {x1 : Int32} {x2 : Int32} {x3 : Int32} {x4 : Int32} {z : lc_S} {H : Heap} {locs : List Loc} {ls : Array Slot}, k112 x1 x2 x3 x4 z = some (r, z') → lv_has ls 6 [(0, .ref (lc_ad G 80)), (1, .int x1), (2, .int x2), (3, .int x3), (4, .int x4)] → lc_H G z s.heap H locs → W p l e (lc_rm 3) s m args below meth c H locs 0 0 (MQ below (lc_Q G (some (.int r)) z') args s 0 0 (lc_A G)) (F0 m 112 ls [])) : ∀ {x1 : Int32} {x2 : Int32} {x4 : Int32} {z : lc_S} {H : Heap} {locs : List Loc} {ls : Array Slot}, fQ_find_162 k101 k112 x1 x2 x4 z = some (r, z') → lv_has ls 6 [(0, .ref (lc_ad G 80)), (1, .int x1), (2, .int x2), (4, .int x4)] → lc_H G z s.heap H locs → W p l e (lc_rm 3) s m args below meth c H locs 0 0 (MQ below (lc_Q G (some (.int r)) z') args s 0 0 (lc_A G)) (F0 m 162 ls []) := by
  intro x1 x2 x4 z H locs ls hf hl hH
  rw [fQ_find_162] at hf
  refine lv_iconst (v := 1) hx hb dQ_find_162 (by decide) ?_
  refine lv_goto (tgt := 167) hx hb dQ_find_163 (by decide) ?_
  exact bQ_find_167 hx hb hml hr hlocks hown hts hE (fun hf hl hH => hk101 hf hl hH) (fun hf hl hH => hk112 hf hl hH) hf (lv_sub hl [0, 1, 2, 3] rfl) hH
set_option maxHeartbeats 4000000 in
set_option maxRecDepth 100000 in
theorem bQ_find_112 {p : Program} {l : Launch} {e : Env} {s : State} {m : MethodId} {args : Array Value} {below : List Frame} {meth : Method} {c : Code} {G : lc_G} (hx : p.tables.exec = Jvm.exec) (hb : c.code = prog_10_method_26_code) (hml : c.maxLocals = 6) (hr : meth.sig.returnType = (some .boolean)) (hlocks : meth.locks = false) (hown : s.vm.findClass "LinearCellsModel" = some m.cls) (hts : ∀ w ∈ lc_ALL, w.before args s = true) (hE : lc_E G s) {k101 : Int32 → Int32 → Int32 → lc_S → Option ((Int32) × lc_S)} {r : Int32} {z' : lc_S} (hk101 : ∀ {x1 : Int32} {x2 : Int32} {x3 : Int32} {z : lc_S} {H : Heap} {locs : List Loc} {ls : Array Slot}, k101 x1 x2 x3 z = some (r, z') → lv_has ls 6 [(0, .ref (lc_ad G 80)), (1, .int x1), (2, .int x2), (3, .int x3)] → lc_H G z s.heap H locs → W p l e (lc_rm 3) s m args below meth c H locs 0 0 (MQ below (lc_Q G (some (.int r)) z') args s 0 0 (lc_A G)) (F0 m 101 ls [])) : ∀ (n : Nat) {x1 : Int32} {x2 : Int32} {x3 : Int32} {x4 : Int32} {z : lc_S} {H : Heap} {locs : List Loc} {ls : Array Slot}, fQ_find_112 k101 n x1 x2 x3 x4 z = some (r, z') → lv_has ls 6 [(0, .ref (lc_ad G 80)), (1, .int x1), (2, .int x2), (3, .int x3), (4, .int x4)] → lc_H G z s.heap H locs → W p l e (lc_rm 3) s m args below meth c H locs 0 0 (MQ below (lc_Q G (some (.int r)) z') args s 0 0 (lc_A G)) (F0 m 112 ls []) := by
  intro n
  induction n with
  | zero =>
    intro x1 x2 x3 x4 z H locs ls hf hl hH
    exact absurd (show (none : Option ((Int32) × lc_S)) = some (r, z') from hf) (fun h => by cases h)
  | succ n ih =>
    intro x1 x2 x3 x4 z H locs ls hf hl hH
    rw [fQ_find_112] at hf
    refine lv_iload hx hb dQ_find_112 (lv_at hl 4 rfl) ?_
    refine lv_if_lt (tgt := 174) hx hb dQ_find_114 (by decide) (fun hc => ?_) (fun hc => ?_)
    · replace hf := lc_ite_pos hc hf
      refine lv_goto (tgt := 101) hx hb dQ_find_174 (by decide) ?_
      exact hk101 hf (lv_sub hl [0, 1, 2, 3] rfl) hH
    · replace hf := lc_ite_neg hc hf
      refine lv_aload_n hx hb dQ_find_117 rfl (lv_at hl 0 rfl) ?_
      refine lc_getf (d := 20) (q := 100) hx hb hts hown hE hH flQ_68 lc_h80 rfl rfl dQ_find_118 ?_
      refine lv_iload hx hb dQ_find_121 (lv_at hl 4 rfl) ?_
      obtain ⟨hi123, hf⟩ := lc_chk_some hf
      refine lc_iald hx hb hE hH lc_h100 rfl hi123 dQ_find_123 ?_
      refine lv_bipush (v := (-2)) hx hb dQ_find_124 (by decide) ?_
      refine lv_icmp_eq (tgt := 132) hx hb dQ_find_126 (by decide) (fun hc => ?_) (fun hc => ?_)
      · replace hf := lc_ite_pos hc hf
        refine lv_aload_n hx hb dQ_find_132 rfl (lv_at hl 0 rfl) ?_
        refine lc_getf (d := 20) (q := 100) hx hb hts hown hE hH flQ_68 lc_h80 rfl rfl dQ_find_133 ?_
        refine lv_iload hx hb dQ_find_136 (lv_at hl 4 rfl) ?_
        refine lv_aload_n hx hb dQ_find_138 rfl (lv_at hl 0 rfl) ?_
        refine lv_iload_n hx hb dQ_find_139 rfl (lv_at hl 1 rfl) ?_
        refine lv_iload hx hb dQ_find_140 (lv_at hl 4 rfl) ?_
        obtain ⟨r142, z142, h142, hf⟩ := lc_bnd_some hf
        refine lc_calli (va_runV (As := [.int x1, .int x4]) (rest := [.int x4, .ref (lc_ad G 100)]) ⟨hx, hb, hml, hown, hts⟩ (cQ_typeBy l G h142) (lc_cwV hts kvQ_237 (lc_room (by decide) (by decide))) (lc_preV hE hH lc_h80 rfl _) rfl rfl hl.1 rfl (lv_room (Nat.le_of_ble_eq_true rfl)) dQ_find_142 ⟨Nat.zero_le _, Nat.zero_le _⟩) hH (fun H locs hH => ?_)
        obtain ⟨hi145, hf⟩ := lc_chk_some hf
        refine lc_iast hx hb hE hH lc_h100 rfl hi145 dQ_find_145 (fun H locs hH => ?_)
        refine lv_iload_n hx hb dQ_find_146 rfl (lv_at hl 3 rfl) ?_
        refine lv_if_ne (tgt := 162) hx hb dQ_find_147 (by decide) (fun hc => ?_) (fun hc => ?_)
        · replace hf := lc_ite_neg hc hf
          exact bQ_find_162 hx hb hml hr hlocks hown hts hE (fun hf hl hH => hk101 hf hl hH) (fun hf hl hH => ih hf hl hH) hf (lv_sub hl [0, 1, 2, 4] rfl) hH
        · replace hf := lc_ite_pos hc hf
          refine lv_aload_n hx hb dQ_find_150 rfl (lv_at hl 0 rfl) ?_
          refine lc_getf (d := 20) (q := 100) hx hb hts hown hE hH flQ_68 lc_h80 rfl rfl dQ_find_151 ?_
          refine lv_iload hx hb dQ_find_154 (lv_at hl 4 rfl) ?_
          obtain ⟨hi156, hf⟩ := lc_chk_some hf
          refine lc_iald hx hb hE hH lc_h100 rfl hi156 dQ_find_156 ?_
          refine lv_bipush (v := (-2)) hx hb dQ_find_157 (by decide) ?_
          refine lv_icmp_eq (tgt := 166) hx hb dQ_find_159 (by decide) (fun hc => ?_) (fun hc => ?_)
          · replace hf := lc_ite_pos hc hf
            refine lv_iconst (v := 0) hx hb dQ_find_166 (by decide) ?_
            exact bQ_find_167 hx hb hml hr hlocks hown hts hE (fun hf hl hH => hk101 hf hl hH) (fun hf hl hH => ih hf hl hH) hf (lv_sub hl [0, 1, 2, 4] rfl) hH
          · replace hf := lc_ite_neg hc hf
            exact bQ_find_162 hx hb hml hr hlocks hown hts hE (fun hf hl hH => hk101 hf hl hH) (fun hf hl hH => ih hf hl hH) hf (lv_sub hl [0, 1, 2, 4] rfl) hH
      · replace hf := lc_ite_neg hc hf
        refine lv_goto (tgt := 168) hx hb dQ_find_129 (by decide) ?_
        exact bQ_find_168 hx hb hml hr hlocks hown hts hE (fun hf hl hH => hk101 hf hl hH) (fun hf hl hH => ih hf hl hH) hf (lv_sub hl [0, 1, 2, 3, 4] rfl) hH
set_option maxHeartbeats 4000000 in
set_option maxRecDepth 100000 in
theorem bQ_find_209 {p : Program} {l : Launch} {e : Env} {s : State} {m : MethodId} {args : Array Value} {below : List Frame} {meth : Method} {c : Code} {G : lc_G} (hx : p.tables.exec = Jvm.exec) (hb : c.code = prog_10_method_26_code) (hml : c.maxLocals = 6) (hr : meth.sig.returnType = (some .boolean)) (hlocks : meth.locks = false) (hown : s.vm.findClass "LinearCellsModel" = some m.cls) (hts : ∀ w ∈ lc_ALL, w.before args s = true) (hE : lc_E G s) {k183 : Int32 → Int32 → Int32 → lc_S → Option ((Int32) × lc_S)} {r : Int32} {z' : lc_S} (hk183 : ∀ {x2 : Int32} {x4 : Int32} {x5 : Int32} {z : lc_S} {H : Heap} {locs : List Loc} {ls : Array Slot}, k183 x2 x4 x5 z = some (r, z') → lv_has ls 6 [(0, .ref (lc_ad G 80)), (2, .int x2), (4, .int x4), (5, .int x5)] → lc_H G z s.heap H locs → W p l e (lc_rm 3) s m args below meth c H locs 0 0 (MQ below (lc_Q G (some (.int r)) z') args s 0 0 (lc_A G)) (F0 m 183 ls [])) : ∀ {x2 : Int32} {x5 : Int32} {t0 : Int32} {z : lc_S} {H : Heap} {locs : List Loc} {ls : Array Slot}, fQ_find_209 k183 x2 x5 t0 z = some (r, z') → lv_has ls 6 [(0, .ref (lc_ad G 80)), (2, .int x2), (5, .int x5)] → lc_H G z s.heap H locs → W p l e (lc_rm 3) s m args below meth c H locs 0 0 (MQ below (lc_Q G (some (.int r)) z') args s 0 0 (lc_A G)) (F0 m 209 ls [.int t0]) := by
  intro x2 x5 t0 z H locs ls hf hl hH
  rw [fQ_find_209] at hf
  refine lv_istore hx hb dQ_find_209 hl (by decide) rfl (fun ls hl => ?_)
  replace hl : lv_has ls 6 [(4, .int t0), (0, .ref (lc_ad G 80)), (2, .int x2), (5, .int x5)] := hl
  obtain ⟨x211, e211⟩ : ∃ x : Int32, x = x5 + 1 := ⟨_, rfl⟩
  replace hf := lc_let_of e211 hf
  refine lv_iinc (k := 3) (v := x211) hx hb dQ_find_211 hl rfl ((lc_incv _ (by decide)).trans e211.symm) (by decide) rfl (fun ls hl => ?_)
  replace hl : lv_has ls 6 [(5, .int x211), (4, .int t0), (0, .ref (lc_ad G 80)), (2, .int x2)] := hl
  refine lv_goto (tgt := 183) hx hb dQ_find_214 (by decide) ?_
  exact hk183 hf (lv_sub hl [2, 3, 1, 0] rfl) hH
set_option maxHeartbeats 4000000 in
set_option maxRecDepth 100000 in
theorem bQ_find_208 {p : Program} {l : Launch} {e : Env} {s : State} {m : MethodId} {args : Array Value} {below : List Frame} {meth : Method} {c : Code} {G : lc_G} (hx : p.tables.exec = Jvm.exec) (hb : c.code = prog_10_method_26_code) (hml : c.maxLocals = 6) (hr : meth.sig.returnType = (some .boolean)) (hlocks : meth.locks = false) (hown : s.vm.findClass "LinearCellsModel" = some m.cls) (hts : ∀ w ∈ lc_ALL, w.before args s = true) (hE : lc_E G s) {k183 : Int32 → Int32 → Int32 → lc_S → Option ((Int32) × lc_S)} {r : Int32} {z' : lc_S} (hk183 : ∀ {x2 : Int32} {x4 : Int32} {x5 : Int32} {z : lc_S} {H : Heap} {locs : List Loc} {ls : Array Slot}, k183 x2 x4 x5 z = some (r, z') → lv_has ls 6 [(0, .ref (lc_ad G 80)), (2, .int x2), (4, .int x4), (5, .int x5)] → lc_H G z s.heap H locs → W p l e (lc_rm 3) s m args below meth c H locs 0 0 (MQ below (lc_Q G (some (.int r)) z') args s 0 0 (lc_A G)) (F0 m 183 ls [])) : ∀ {x2 : Int32} {x5 : Int32} {z : lc_S} {H : Heap} {locs : List Loc} {ls : Array Slot}, fQ_find_208 k183 x2 x5 z = some (r, z') → lv_has ls 6 [(0, .ref (lc_ad G 80)), (2, .int x2), (5, .int x5)] → lc_H G z s.heap H locs → W p l e (lc_rm 3) s m args below meth c H locs 0 0 (MQ below (lc_Q G (some (.int r)) z') args s 0 0 (lc_A G)) (F0 m 208 ls []) := by
  intro x2 x5 z H locs ls hf hl hH
  rw [fQ_find_208] at hf
  refine lv_iconst (v := 0) hx hb dQ_find_208 (by decide) ?_
  exact bQ_find_209 hx hb hml hr hlocks hown hts hE (fun hf hl hH => hk183 hf hl hH) hf (lv_sub hl [0, 1, 2] rfl) hH
set_option maxHeartbeats 4000000 in
set_option maxRecDepth 100000 in
theorem bQ_find_183 {p : Program} {l : Launch} {e : Env} {s : State} {m : MethodId} {args : Array Value} {below : List Frame} {meth : Method} {c : Code} {G : lc_G} (hx : p.tables.exec = Jvm.exec) (hb : c.code = prog_10_method_26_code) (hml : c.maxLocals = 6) (hr : meth.sig.returnType = (some .boolean)) (hlocks : meth.locks = false) (hown : s.vm.findClass "LinearCellsModel" = some m.cls) (hts : ∀ w ∈ lc_ALL, w.before args s = true) (hE : lc_E G s) {r : Int32} {z' : lc_S} : ∀ (n : Nat) {x2 : Int32} {x4 : Int32} {x5 : Int32} {z : lc_S} {H : Heap} {locs : List Loc} {ls : Array Slot}, fQ_find_183 n x2 x4 x5 z = some (r, z') → lv_has ls 6 [(0, .ref (lc_ad G 80)), (2, .int x2), (4, .int x4), (5, .int x5)] → lc_H G z s.heap H locs → W p l e (lc_rm 3) s m args below meth c H locs 0 0 (MQ below (lc_Q G (some (.int r)) z') args s 0 0 (lc_A G)) (F0 m 183 ls []) := by
  intro n
  induction n with
  | zero =>
    intro x2 x4 x5 z H locs ls hf hl hH
    exact absurd (show (none : Option ((Int32) × lc_S)) = some (r, z') from hf) (fun h => by cases h)
  | succ n ih =>
    intro x2 x4 x5 z H locs ls hf hl hH
    rw [fQ_find_183] at hf
    refine lv_iload hx hb dQ_find_183 (lv_at hl 3 rfl) ?_
    refine lv_iload_n hx hb dQ_find_185 rfl (lv_at hl 1 rfl) ?_
    refine lv_icmp_ge (tgt := 217) hx hb dQ_find_186 (by decide) (fun hc => ?_) (fun hc => ?_)
    · replace hf := lc_ite_pos hc hf
      refine lv_iload hx hb dQ_find_217 (lv_at hl 2 rfl) ?_
      obtain ⟨hz219, hf⟩ := lc_chk_some hf
      exact lc_zret hx hb hr hlocks (lc_zn hz219) hH hf dQ_find_219
    · replace hf := lc_ite_neg hc hf
      refine lv_iload hx hb dQ_find_189 (lv_at hl 2 rfl) ?_
      refine lv_if_eq (tgt := 208) hx hb dQ_find_191 (by decide) (fun hc => ?_) (fun hc => ?_)
      · replace hf := lc_ite_pos hc hf
        exact bQ_find_208 hx hb hml hr hlocks hown hts hE (fun hf hl hH => ih hf hl hH) hf (lv_sub hl [0, 1, 3] rfl) hH
      · replace hf := lc_ite_neg hc hf
        refine lv_aload_n hx hb dQ_find_194 rfl (lv_at hl 0 rfl) ?_
        refine lc_getf (d := 20) (q := 100) hx hb hts hown hE hH flQ_68 lc_h80 rfl rfl dQ_find_195 ?_
        refine lv_iload hx hb dQ_find_198 (lv_at hl 3 rfl) ?_
        obtain ⟨hi200, hf⟩ := lc_chk_some hf
        refine lc_iald hx hb hE hH lc_h100 rfl hi200 dQ_find_200 ?_
        refine lv_if_lt (tgt := 208) hx hb dQ_find_201 (by decide) (fun hc => ?_) (fun hc => ?_)
        · replace hf := lc_ite_pos hc hf
          exact bQ_find_208 hx hb hml hr hlocks hown hts hE (fun hf hl hH => ih hf hl hH) hf (lv_sub hl [0, 1, 3] rfl) hH
        · replace hf := lc_ite_neg hc hf
          refine lv_iconst (v := 1) hx hb dQ_find_204 (by decide) ?_
          refine lv_goto (tgt := 209) hx hb dQ_find_205 (by decide) ?_
          exact bQ_find_209 hx hb hml hr hlocks hown hts hE (fun hf hl hH => ih hf hl hH) hf (lv_sub hl [0, 1, 3] rfl) hH
set_option maxHeartbeats 4000000 in
set_option maxRecDepth 100000 in
theorem bQ_find_101 {p : Program} {l : Launch} {e : Env} {s : State} {m : MethodId} {args : Array Value} {below : List Frame} {meth : Method} {c : Code} {G : lc_G} (hx : p.tables.exec = Jvm.exec) (hb : c.code = prog_10_method_26_code) (hml : c.maxLocals = 6) (hr : meth.sig.returnType = (some .boolean)) (hlocks : meth.locks = false) (hown : s.vm.findClass "LinearCellsModel" = some m.cls) (hts : ∀ w ∈ lc_ALL, w.before args s = true) (hE : lc_E G s) {r : Int32} {z' : lc_S} : ∀ (n : Nat) {x1 : Int32} {x2 : Int32} {x3 : Int32} {z : lc_S} {H : Heap} {locs : List Loc} {ls : Array Slot}, fQ_find_101 n x1 x2 x3 z = some (r, z') → lv_has ls 6 [(0, .ref (lc_ad G 80)), (1, .int x1), (2, .int x2), (3, .int x3)] → lc_H G z s.heap H locs → W p l e (lc_rm 3) s m args below meth c H locs 0 0 (MQ below (lc_Q G (some (.int r)) z') args s 0 0 (lc_A G)) (F0 m 101 ls []) := by
  intro n
  induction n with
  | zero =>
    intro x1 x2 x3 z H locs ls hf hl hH
    exact absurd (show (none : Option ((Int32) × lc_S)) = some (r, z') from hf) (fun h => by cases h)
  | succ n ih =>
    intro x1 x2 x3 z H locs ls hf hl hH
    rw [fQ_find_101] at hf
    refine lv_iload_n hx hb dQ_find_101 rfl (lv_at hl 3 rfl) ?_
    refine lv_if_eq (tgt := 177) hx hb dQ_find_102 (by decide) (fun hc => ?_) (fun hc => ?_)
    · replace hf := lc_ite_pos hc hf
      refine lv_iconst (v := 1) hx hb dQ_find_177 (by decide) ?_
      refine lv_istore hx hb dQ_find_178 hl (by decide) rfl (fun ls hl => ?_)
      replace hl : lv_has ls 6 [(4, .int 1), (0, .ref (lc_ad G 80)), (1, .int x1), (2, .int x2), (3, .int x3)] := hl
      refine lv_iconst (v := 0) hx hb dQ_find_180 (by decide) ?_
      refine lv_istore hx hb dQ_find_181 hl (by decide) rfl (fun ls hl => ?_)
      replace hl : lv_has ls 6 [(5, .int 0), (4, .int 1), (0, .ref (lc_ad G 80)), (1, .int x1), (2, .int x2), (3, .int x3)] := hl
      exact bQ_find_183 hx hb hml hr hlocks hown hts hE _ hf (lv_sub hl [2, 4, 1, 0] rfl) hH
    · replace hf := lc_ite_neg hc hf
      refine lv_iconst (v := 0) hx hb dQ_find_105 (by decide) ?_
      refine lv_istore_n hx hb dQ_find_106 rfl hl (by decide) rfl (fun ls hl => ?_)
      replace hl : lv_has ls 6 [(3, .int 0), (0, .ref (lc_ad G 80)), (1, .int x1), (2, .int x2)] := hl
      refine lv_iload_n hx hb dQ_find_107 rfl (lv_at hl 3 rfl) ?_
      refine lv_iconst (v := 1) hx hb dQ_find_108 (by decide) ?_
      refine lv_isub hx hb dQ_find_109 ?_
      refine lv_topi (fun x110 e110 => ?_)
      replace hf := lc_let_of e110 hf
      refine lv_istore hx hb dQ_find_110 hl (by decide) rfl (fun ls hl => ?_)
      replace hl : lv_has ls 6 [(4, .int x110), (3, .int 0), (0, .ref (lc_ad G 80)), (1, .int x1), (2, .int x2)] := hl
      exact bQ_find_112 hx hb hml hr hlocks hown hts hE (fun hf hl hH => ih hf hl hH) _ hf (lv_sub hl [2, 3, 4, 1, 0] rfl) hH
set_option maxHeartbeats 4000000 in
set_option maxRecDepth 100000 in
theorem bQ_find_80 {p : Program} {l : Launch} {e : Env} {s : State} {m : MethodId} {args : Array Value} {below : List Frame} {meth : Method} {c : Code} {G : lc_G} (hx : p.tables.exec = Jvm.exec) (hb : c.code = prog_10_method_26_code) (hml : c.maxLocals = 6) (hr : meth.sig.returnType = (some .boolean)) (hlocks : meth.locks = false) (hown : s.vm.findClass "LinearCellsModel" = some m.cls) (hts : ∀ w ∈ lc_ALL, w.before args s = true) (hE : lc_E G s) {r : Int32} {z' : lc_S} : ∀ (n : Nat) {x1 : Int32} {x2 : Int32} {x3 : Int32} {z : lc_S} {H : Heap} {locs : List Loc} {ls : Array Slot}, fQ_find_80 n x1 x2 x3 z = some (r, z') → lv_has ls 6 [(0, .ref (lc_ad G 80)), (1, .int x1), (2, .int x2), (3, .int x3)] → lc_H G z s.heap H locs → W p l e (lc_rm 3) s m args below meth c H locs 0 0 (MQ below (lc_Q G (some (.int r)) z') args s 0 0 (lc_A G)) (F0 m 80 ls []) := by
  intro n
  induction n with
  | zero =>
    intro x1 x2 x3 z H locs ls hf hl hH
    exact absurd (show (none : Option ((Int32) × lc_S)) = some (r, z') from hf) (fun h => by cases h)
  | succ n ih =>
    intro x1 x2 x3 z H locs ls hf hl hH
    rw [fQ_find_80] at hf
    refine lv_iload_n hx hb dQ_find_80 rfl (lv_at hl 3 rfl) ?_
    refine lv_iload_n hx hb dQ_find_81 rfl (lv_at hl 2 rfl) ?_
    refine lv_icmp_ge (tgt := 99) hx hb dQ_find_82 (by decide) (fun hc => ?_) (fun hc => ?_)
    · replace hf := lc_ite_pos hc hf
      refine lv_iconst (v := 1) hx hb dQ_find_99 (by decide) ?_
      refine lv_istore_n hx hb dQ_find_100 rfl hl (by decide) rfl (fun ls hl => ?_)
      replace hl : lv_has ls 6 [(3, .int 1), (0, .ref (lc_ad G 80)), (1, .int x1), (2, .int x2)] := hl
      exact bQ_find_101 hx hb hml hr hlocks hown hts hE _ hf (lv_sub hl [1, 2, 3, 0] rfl) hH
    · replace hf := lc_ite_neg hc hf
      refine lv_aload_n hx hb dQ_find_85 rfl (lv_at hl 0 rfl) ?_
      refine lc_getf (d := 20) (q := 100) hx hb hts hown hE hH flQ_68 lc_h80 rfl rfl dQ_find_86 ?_
      refine lv_iload_n hx hb dQ_find_89 rfl (lv_at hl 3 rfl) ?_
      refine lv_bipush (v := (-2)) hx hb dQ_find_90 (by decide) ?_
      obtain ⟨hi92, hf⟩ := lc_chk_some hf
      refine lc_iast hx hb hE hH lc_h100 rfl hi92 dQ_find_92 (fun H locs hH => ?_)
      obtain ⟨x93, e93⟩ : ∃ x : Int32, x = x3 + 1 := ⟨_, rfl⟩
      replace hf := lc_let_of e93 hf
      refine lv_iinc (k := 3) (v := x93) hx hb dQ_find_93 hl rfl ((lc_incv _ (by decide)).trans e93.symm) (by decide) rfl (fun ls hl => ?_)
      replace hl : lv_has ls 6 [(3, .int x93), (0, .ref (lc_ad G 80)), (1, .int x1), (2, .int x2)] := hl
      refine lv_goto (tgt := 80) hx hb dQ_find_96 (by decide) ?_
      exact ih hf (lv_sub hl [1, 2, 3, 0] rfl) hH
set_option maxHeartbeats 4000000 in
set_option maxRecDepth 100000 in
theorem bQ_find_7 {p : Program} {l : Launch} {e : Env} {s : State} {m : MethodId} {args : Array Value} {below : List Frame} {meth : Method} {c : Code} {G : lc_G} (hx : p.tables.exec = Jvm.exec) (hb : c.code = prog_10_method_26_code) (hml : c.maxLocals = 6) (hr : meth.sig.returnType = (some .boolean)) (hlocks : meth.locks = false) (hown : s.vm.findClass "LinearCellsModel" = some m.cls) (hts : ∀ w ∈ lc_ALL, w.before args s = true) (hE : lc_E G s) {r : Int32} {z' : lc_S} : ∀ (n : Nat) {x1 : Int32} {x2 : Int32} {z : lc_S} {H : Heap} {locs : List Loc} {ls : Array Slot}, fQ_find_7 n x1 x2 z = some (r, z') → lv_has ls 6 [(0, .ref (lc_ad G 80)), (1, .int x1), (2, .int x2)] → lc_H G z s.heap H locs → W p l e (lc_rm 3) s m args below meth c H locs 0 0 (MQ below (lc_Q G (some (.int r)) z') args s 0 0 (lc_A G)) (F0 m 7 ls []) := by
  intro n
  induction n with
  | zero =>
    intro x1 x2 z H locs ls hf hl hH
    exact absurd (show (none : Option ((Int32) × lc_S)) = some (r, z') from hf) (fun h => by cases h)
  | succ n ih =>
    intro x1 x2 z H locs ls hf hl hH
    rw [fQ_find_7] at hf
    refine lv_iload_n hx hb dQ_find_7 rfl (lv_at hl 2 rfl) ?_
    refine lv_iconst (v := 4) hx hb dQ_find_8 (by decide) ?_
    refine lv_icmp_ge (tgt := 69) hx hb dQ_find_9 (by decide) (fun hc => ?_) (fun hc => ?_)
    · replace hf := lc_ite_pos hc hf
      refine lv_aload_n hx hb dQ_find_69 rfl (lv_at hl 0 rfl) ?_
      refine lc_getf (d := 9) (q := 89) hx hb hts hown hE hH flQ_35 lc_h80 rfl rfl dQ_find_70 ?_
      refine lv_iload_n hx hb dQ_find_73 rfl (lv_at hl 1 rfl) ?_
      refine lv_iconst (v := 1) hx hb dQ_find_74 (by decide) ?_
      refine lv_iadd hx hb dQ_find_75 ?_
      obtain ⟨hi76, hf⟩ := lc_chk_some hf
      refine lc_iald hx hb hE hH lc_h89 rfl hi76 dQ_find_76 ?_
      refine lv_topi (fun x77 e77 => ?_)
      replace hf := lc_let_of e77 hf
      refine lv_istore_n hx hb dQ_find_77 rfl hl (by decide) rfl (fun ls hl => ?_)
      replace hl : lv_has ls 6 [(2, .int x77), (0, .ref (lc_ad G 80)), (1, .int x1)] := hl
      refine lv_iconst (v := 0) hx hb dQ_find_78 (by decide) ?_
      refine lv_istore_n hx hb dQ_find_79 rfl hl (by decide) rfl (fun ls hl => ?_)
      replace hl : lv_has ls 6 [(3, .int 0), (2, .int x77), (0, .ref (lc_ad G 80)), (1, .int x1)] := hl
      exact bQ_find_80 hx hb hml hr hlocks hown hts hE _ hf (lv_sub hl [2, 3, 1, 0] rfl) hH
    · replace hf := lc_ite_neg hc hf
      refine lv_aload_n hx hb dQ_find_12 rfl (lv_at hl 0 rfl) ?_
      refine lv_iload_n hx hb dQ_find_13 rfl (lv_at hl 2 rfl) ?_
      obtain ⟨r14, z14, h14, hf⟩ := lc_bnd_some hf
      refine lc_calli (va_runV (As := [.int x2]) (rest := []) ⟨hx, hb, hml, hown, hts⟩ (cQ_isThere l G h14) (lc_cwV hts kvQ_230 (lc_room (by decide) (by decide))) (lc_preV hE hH lc_h80 rfl _) rfl rfl hl.1 rfl (lv_room (Nat.le_of_ble_eq_true rfl)) dQ_find_14 ⟨Nat.zero_le _, Nat.zero_le _⟩) hH (fun H locs hH => ?_)
      refine lv_if_ne (tgt := 23) hx hb dQ_find_17 (by decide) (fun hc => ?_) (fun hc => ?_)
      · replace hf := lc_ite_neg hc hf
        refine lv_aload_n hx hb dQ_find_23 rfl (lv_at hl 0 rfl) ?_
        refine lc_getf (d := 21) (q := 101) hx hb hts hown hE hH flQ_71 lc_h80 rfl rfl dQ_find_24 ?_
        refine lv_iload_n hx hb dQ_find_27 rfl (lv_at hl 2 rfl) ?_
        refine lv_aload_n hx hb dQ_find_28 rfl (lv_at hl 0 rfl) ?_
        refine lv_aload_n hx hb dQ_find_29 rfl (lv_at hl 0 rfl) ?_
        refine lc_getf (d := 10) (q := 90) hx hb hts hown hE hH flQ_38 lc_h80 rfl rfl dQ_find_30 ?_
        refine lv_bipush (v := 120) hx hb dQ_find_33 (by decide) ?_
        refine lv_iload_n hx hb dQ_find_35 rfl (lv_at hl 2 rfl) ?_
        refine lv_iconst (v := 1) hx hb dQ_find_36 (by decide) ?_
        refine lv_iadd hx hb dQ_find_37 ?_
        refine lv_imul hx hb dQ_find_38 ?_
        obtain ⟨r39, z39, h39, hf⟩ := lc_bnd_some hf
        refine lc_calli (va_runV (As := [.ref (lc_ad G 90), .int (120 * (x2 + 1))]) (rest := [.int x2, .ref (lc_ad G 101)]) ⟨hx, hb, hml, hown, hts⟩ (cQ_typeIn l G h39) (lc_cwV hts kvQ_233 (lc_room (by decide) (by decide))) (lc_preV hE hH lc_h80 rfl _) rfl rfl hl.1 rfl (lv_room (Nat.le_of_ble_eq_true rfl)) dQ_find_39 ⟨Nat.zero_le _, Nat.zero_le _⟩) hH (fun H locs hH => ?_)
        obtain ⟨hi42, hf⟩ := lc_chk_some hf
        refine lc_iast hx hb hE hH lc_h101 rfl hi42 dQ_find_42 (fun H locs hH => ?_)
        refine lv_aload_n hx hb dQ_find_43 rfl (lv_at hl 0 rfl) ?_
        refine lc_getf (d := 22) (q := 102) hx hb hts hown hE hH flQ_74 lc_h80 rfl rfl dQ_find_44 ?_
        refine lv_iload_n hx hb dQ_find_47 rfl (lv_at hl 2 rfl) ?_
        refine lv_aload_n hx hb dQ_find_48 rfl (lv_at hl 0 rfl) ?_
        refine lv_aload_n hx hb dQ_find_49 rfl (lv_at hl 0 rfl) ?_
        refine lc_getf (d := 11) (q := 91) hx hb hts hown hE hH flQ_41 lc_h80 rfl rfl dQ_find_50 ?_
        refine lv_bipush (v := 120) hx hb dQ_find_53 (by decide) ?_
        refine lv_iload_n hx hb dQ_find_55 rfl (lv_at hl 2 rfl) ?_
        refine lv_iconst (v := 1) hx hb dQ_find_56 (by decide) ?_
        refine lv_iadd hx hb dQ_find_57 ?_
        refine lv_imul hx hb dQ_find_58 ?_
        obtain ⟨r59, z59, h59, hf⟩ := lc_bnd_some hf
        refine lc_calli (va_runV (As := [.ref (lc_ad G 91), .int (120 * (x2 + 1))]) (rest := [.int x2, .ref (lc_ad G 102)]) ⟨hx, hb, hml, hown, hts⟩ (cQ_typeIn l G h59) (lc_cwV hts kvQ_233 (lc_room (by decide) (by decide))) (lc_preV hE hH lc_h80 rfl _) rfl rfl hl.1 rfl (lv_room (Nat.le_of_ble_eq_true rfl)) dQ_find_59 ⟨Nat.zero_le _, Nat.zero_le _⟩) hH (fun H locs hH => ?_)
        obtain ⟨hi62, hf⟩ := lc_chk_some hf
        refine lc_iast hx hb hE hH lc_h102 rfl hi62 dQ_find_62 (fun H locs hH => ?_)
        exact bQ_find_63 hx hb hml hr hlocks hown hts hE (fun hf hl hH => ih hf hl hH) hf (lv_sub hl [0, 1, 2] rfl) hH
      · replace hf := lc_ite_pos hc hf
        refine lv_goto (tgt := 63) hx hb dQ_find_20 (by decide) ?_
        exact bQ_find_63 hx hb hml hr hlocks hown hts hE (fun hf hl hH => ih hf hl hH) hf (lv_sub hl [0, 1, 2] rfl) hH
set_option maxHeartbeats 4000000 in
set_option maxRecDepth 100000 in
theorem cQ_find (l : Launch) (G : lc_G) {a1 : Int32} {r : Int32} {z z' : lc_S} (hf : fQ_find a1 z = some (r, z')) : lc_M l G yQ_find wQ_find 3 [.ref (lc_ad G 80), .int a1] z (some (.int r)) z' := by
  refine lc_M_of (cc := prog_10_method_26_code) (maxL := 6) (ret := (some .boolean)) (own := "LinearCellsModel") (by decide) rfl (fun w h => List.mem_cons_of_mem _ h) (Nat.le_of_ble_eq_true rfl) rfl ?_
  intro p e s m below meth c hx hb hml hr hlocks hown hts hE ls hl hH
  replace hl : lv_has ls 6 [(0, .ref (lc_ad G 80)), (1, .int a1)] := hl
  rw [fQ_find] at hf
  refine lv_aload_n hx hb dQ_find_0 rfl (lv_at hl 0 rfl) ?_
  refine lv_iconst (v := 2) hx hb dQ_find_1 (by decide) ?_
  refine lc_puti hx hb hts hown hE hH fpQ_223 lc_h80 rfl rfl rfl dQ_find_2 (fun H locs hH => ?_)
  refine lv_iconst (v := 0) hx hb dQ_find_5 (by decide) ?_
  refine lv_istore_n hx hb dQ_find_6 rfl hl (by decide) rfl (fun ls hl => ?_)
  replace hl : lv_has ls 6 [(2, .int 0), (0, .ref (lc_ad G 80)), (1, .int a1)] := hl
  exact bQ_find_7 hx hb hml hr hlocks hown hts hE _ hf (lv_sub hl [1, 2, 0] rfl) hH
