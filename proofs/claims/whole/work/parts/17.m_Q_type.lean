theorem dQ_type_0 : decode prog_10_method_12_code 0 = .ok (.iconst 0, 1) := by decide +kernel
theorem dQ_type_1 : decode prog_10_method_12_code 1 = .ok (.istore_n 2, 1) := by decide +kernel
theorem dQ_type_2 : decode prog_10_method_12_code 2 = .ok (.iconst 0, 1) := by decide +kernel
theorem dQ_type_3 : decode prog_10_method_12_code 3 = .ok (.istore_n 3, 1) := by decide +kernel
theorem dQ_type_4 : decode prog_10_method_12_code 4 = .ok (.aload_n 0, 1) := by decide +kernel
theorem dQ_type_5 : decode prog_10_method_12_code 5 = .ok (.iconst 0, 1) := by decide +kernel
theorem dQ_type_6 : decode prog_10_method_12_code 6 = .ok (.putfield 169, 3) := by decide +kernel
theorem dQ_type_9 : decode prog_10_method_12_code 9 = .ok (.iconst 0, 1) := by decide +kernel
theorem dQ_type_10 : decode prog_10_method_12_code 10 = .ok (.istore 4, 2) := by decide +kernel
theorem dQ_type_12 : decode prog_10_method_12_code 12 = .ok (.iload 4, 2) := by decide +kernel
theorem dQ_type_14 : decode prog_10_method_12_code 14 = .ok (.ifCond .ne 167, 3) := by decide +kernel
theorem dQ_type_17 : decode prog_10_method_12_code 17 = .ok (.aload_n 0, 1) := by decide +kernel
theorem dQ_type_18 : decode prog_10_method_12_code 18 = .ok (.getfield 155, 3) := by decide +kernel
theorem dQ_type_21 : decode prog_10_method_12_code 21 = .ok (.ifCond .ne 160, 3) := by decide +kernel
theorem dQ_type_24 : decode prog_10_method_12_code 24 = .ok (.aload_n 0, 1) := by decide +kernel
theorem dQ_type_25 : decode prog_10_method_12_code 25 = .ok (.invokevirtual 159, 3) := by decide +kernel
theorem dQ_type_28 : decode prog_10_method_12_code 28 = .ok (.istore 5, 2) := by decide +kernel
theorem dQ_type_30 : decode prog_10_method_12_code 30 = .ok (.aload_n 0, 1) := by decide +kernel
theorem dQ_type_31 : decode prog_10_method_12_code 31 = .ok (.iload 5, 2) := by decide +kernel
theorem dQ_type_33 : decode prog_10_method_12_code 33 = .ok (.bipush 105, 2) := by decide +kernel
theorem dQ_type_35 : decode prog_10_method_12_code 35 = .ok (.if_icmp .eq 17, 3) := by decide +kernel
theorem dQ_type_38 : decode prog_10_method_12_code 38 = .ok (.iload 5, 2) := by decide +kernel
theorem dQ_type_40 : decode prog_10_method_12_code 40 = .ok (.bipush 114, 2) := by decide +kernel
theorem dQ_type_42 : decode prog_10_method_12_code 42 = .ok (.if_icmp .eq 10, 3) := by decide +kernel
theorem dQ_type_45 : decode prog_10_method_12_code 45 = .ok (.iload 5, 2) := by decide +kernel
theorem dQ_type_47 : decode prog_10_method_12_code 47 = .ok (.bipush 40, 2) := by decide +kernel
theorem dQ_type_49 : decode prog_10_method_12_code 49 = .ok (.if_icmp .ne 8, 3) := by decide +kernel
theorem dQ_type_52 : decode prog_10_method_12_code 52 = .ok (.iload_n 3, 1) := by decide +kernel
theorem dQ_type_53 : decode prog_10_method_12_code 53 = .ok (.iconst 4, 1) := by decide +kernel
theorem dQ_type_54 : decode prog_10_method_12_code 54 = .ok (.if_icmp .le 7, 3) := by decide +kernel
theorem dQ_type_57 : decode prog_10_method_12_code 57 = .ok (.iconst 1, 1) := by decide +kernel
theorem dQ_type_58 : decode prog_10_method_12_code 58 = .ok (.goto 4, 3) := by decide +kernel
theorem dQ_type_61 : decode prog_10_method_12_code 61 = .ok (.iconst 0, 1) := by decide +kernel
theorem dQ_type_62 : decode prog_10_method_12_code 62 = .ok (.putfield 155, 3) := by decide +kernel
theorem dQ_type_65 : decode prog_10_method_12_code 65 = .ok (.aload_n 0, 1) := by decide +kernel
theorem dQ_type_66 : decode prog_10_method_12_code 66 = .ok (.getfield 155, 3) := by decide +kernel
theorem dQ_type_69 : decode prog_10_method_12_code 69 = .ok (.ifCond .eq 4, 3) := by decide +kernel
theorem dQ_type_72 : decode prog_10_method_12_code 72 = .ok (.return_, 1) := by decide +kernel
theorem dQ_type_73 : decode prog_10_method_12_code 73 = .ok (.aload_n 1, 1) := by decide +kernel
theorem dQ_type_74 : decode prog_10_method_12_code 74 = .ok (.iload_n 2, 1) := by decide +kernel
theorem dQ_type_75 : decode prog_10_method_12_code 75 = .ok (.iload 5, 2) := by decide +kernel
theorem dQ_type_77 : decode prog_10_method_12_code 77 = .ok (.iastore, 1) := by decide +kernel
theorem dQ_type_78 : decode prog_10_method_12_code 78 = .ok (.iinc 2 1, 3) := by decide +kernel
theorem dQ_type_81 : decode prog_10_method_12_code 81 = .ok (.iload 5, 2) := by decide +kernel
theorem dQ_type_83 : decode prog_10_method_12_code 83 = .ok (.bipush 40, 2) := by decide +kernel
theorem dQ_type_85 : decode prog_10_method_12_code 85 = .ok (.if_icmp .ne 16, 3) := by decide +kernel
theorem dQ_type_88 : decode prog_10_method_12_code 88 = .ok (.aload_n 0, 1) := by decide +kernel
theorem dQ_type_89 : decode prog_10_method_12_code 89 = .ok (.getfield 59, 3) := by decide +kernel
theorem dQ_type_92 : decode prog_10_method_12_code 92 = .ok (.iload_n 3, 1) := by decide +kernel
theorem dQ_type_93 : decode prog_10_method_12_code 93 = .ok (.iconst 2, 1) := by decide +kernel
theorem dQ_type_94 : decode prog_10_method_12_code 94 = .ok (.iastore, 1) := by decide +kernel
theorem dQ_type_95 : decode prog_10_method_12_code 95 = .ok (.iinc 3 1, 3) := by decide +kernel
theorem dQ_type_98 : decode prog_10_method_12_code 98 = .ok (.goto (-86), 3) := by decide +kernel
theorem dQ_type_101 : decode prog_10_method_12_code 101 = .ok (.iload_n 3, 1) := by decide +kernel
theorem dQ_type_102 : decode prog_10_method_12_code 102 = .ok (.ifCond .le 15, 3) := by decide +kernel
theorem dQ_type_105 : decode prog_10_method_12_code 105 = .ok (.aload_n 0, 1) := by decide +kernel
theorem dQ_type_106 : decode prog_10_method_12_code 106 = .ok (.getfield 59, 3) := by decide +kernel
theorem dQ_type_109 : decode prog_10_method_12_code 109 = .ok (.iload_n 3, 1) := by decide +kernel
theorem dQ_type_110 : decode prog_10_method_12_code 110 = .ok (.iconst 1, 1) := by decide +kernel
theorem dQ_type_111 : decode prog_10_method_12_code 111 = .ok (.isub, 1) := by decide +kernel
theorem dQ_type_112 : decode prog_10_method_12_code 112 = .ok (.dup2, 1) := by decide +kernel
theorem dQ_type_113 : decode prog_10_method_12_code 113 = .ok (.iaload, 1) := by decide +kernel
theorem dQ_type_114 : decode prog_10_method_12_code 114 = .ok (.iconst 1, 1) := by decide +kernel
theorem dQ_type_115 : decode prog_10_method_12_code 115 = .ok (.isub, 1) := by decide +kernel
theorem dQ_type_116 : decode prog_10_method_12_code 116 = .ok (.iastore, 1) := by decide +kernel
theorem dQ_type_117 : decode prog_10_method_12_code 117 = .ok (.iload_n 3, 1) := by decide +kernel
theorem dQ_type_118 : decode prog_10_method_12_code 118 = .ok (.ifCond .le 49, 3) := by decide +kernel
theorem dQ_type_121 : decode prog_10_method_12_code 121 = .ok (.aload_n 0, 1) := by decide +kernel
theorem dQ_type_122 : decode prog_10_method_12_code 122 = .ok (.getfield 59, 3) := by decide +kernel
theorem dQ_type_125 : decode prog_10_method_12_code 125 = .ok (.iload_n 3, 1) := by decide +kernel
theorem dQ_type_126 : decode prog_10_method_12_code 126 = .ok (.iconst 1, 1) := by decide +kernel
theorem dQ_type_127 : decode prog_10_method_12_code 127 = .ok (.isub, 1) := by decide +kernel
theorem dQ_type_128 : decode prog_10_method_12_code 128 = .ok (.iaload, 1) := by decide +kernel
theorem dQ_type_129 : decode prog_10_method_12_code 129 = .ok (.ifCond .ne 38, 3) := by decide +kernel
theorem dQ_type_132 : decode prog_10_method_12_code 132 = .ok (.aload_n 0, 1) := by decide +kernel
theorem dQ_type_133 : decode prog_10_method_12_code 133 = .ok (.getfield 155, 3) := by decide +kernel
theorem dQ_type_136 : decode prog_10_method_12_code 136 = .ok (.ifCond .ne 31, 3) := by decide +kernel
theorem dQ_type_139 : decode prog_10_method_12_code 139 = .ok (.aload_n 0, 1) := by decide +kernel
theorem dQ_type_140 : decode prog_10_method_12_code 140 = .ok (.bipush 41, 2) := by decide +kernel
theorem dQ_type_142 : decode prog_10_method_12_code 142 = .ok (.invokevirtual 172, 3) := by decide +kernel
theorem dQ_type_145 : decode prog_10_method_12_code 145 = .ok (.iinc 3 (-1), 3) := by decide +kernel
theorem dQ_type_148 : decode prog_10_method_12_code 148 = .ok (.iload_n 3, 1) := by decide +kernel
theorem dQ_type_149 : decode prog_10_method_12_code 149 = .ok (.ifCond .le (-32), 3) := by decide +kernel
theorem dQ_type_152 : decode prog_10_method_12_code 152 = .ok (.aload_n 0, 1) := by decide +kernel
theorem dQ_type_153 : decode prog_10_method_12_code 153 = .ok (.getfield 59, 3) := by decide +kernel
theorem dQ_type_156 : decode prog_10_method_12_code 156 = .ok (.iload_n 3, 1) := by decide +kernel
theorem dQ_type_157 : decode prog_10_method_12_code 157 = .ok (.iconst 1, 1) := by decide +kernel
theorem dQ_type_158 : decode prog_10_method_12_code 158 = .ok (.isub, 1) := by decide +kernel
theorem dQ_type_159 : decode prog_10_method_12_code 159 = .ok (.dup2, 1) := by decide +kernel
theorem dQ_type_160 : decode prog_10_method_12_code 160 = .ok (.iaload, 1) := by decide +kernel
theorem dQ_type_161 : decode prog_10_method_12_code 161 = .ok (.iconst 1, 1) := by decide +kernel
theorem dQ_type_162 : decode prog_10_method_12_code 162 = .ok (.isub, 1) := by decide +kernel
theorem dQ_type_163 : decode prog_10_method_12_code 163 = .ok (.iastore, 1) := by decide +kernel
theorem dQ_type_164 : decode prog_10_method_12_code 164 = .ok (.goto (-47), 3) := by decide +kernel
theorem dQ_type_167 : decode prog_10_method_12_code 167 = .ok (.iload_n 3, 1) := by decide +kernel
theorem dQ_type_168 : decode prog_10_method_12_code 168 = .ok (.ifCond .ne 7, 3) := by decide +kernel
theorem dQ_type_171 : decode prog_10_method_12_code 171 = .ok (.iconst 1, 1) := by decide +kernel
theorem dQ_type_172 : decode prog_10_method_12_code 172 = .ok (.goto 4, 3) := by decide +kernel
theorem dQ_type_175 : decode prog_10_method_12_code 175 = .ok (.iconst 0, 1) := by decide +kernel
theorem dQ_type_176 : decode prog_10_method_12_code 176 = .ok (.istore 4, 2) := by decide +kernel
theorem dQ_type_178 : decode prog_10_method_12_code 178 = .ok (.goto (-166), 3) := by decide +kernel
theorem dQ_type_181 : decode prog_10_method_12_code 181 = .ok (.aload_n 1, 1) := by decide +kernel
theorem dQ_type_182 : decode prog_10_method_12_code 182 = .ok (.iload_n 2, 1) := by decide +kernel
theorem dQ_type_183 : decode prog_10_method_12_code 183 = .ok (.iconst 0, 1) := by decide +kernel
theorem dQ_type_184 : decode prog_10_method_12_code 184 = .ok (.iastore, 1) := by decide +kernel
theorem dQ_type_185 : decode prog_10_method_12_code 185 = .ok (.return_, 1) := by decide +kernel
def fQ_type_176 (k12 : Nat → Int32 → Int32 → Int32 → lc_S → Option ((Unit) × lc_S)) (p1 : Nat) (x2 : Int32) (x3 : Int32) (t0 : Int32) (z : lc_S) : Option ((Unit) × lc_S) :=
  k12 p1 x2 x3 t0 z
def fQ_type_167 (k12 : Nat → Int32 → Int32 → Int32 → lc_S → Option ((Unit) × lc_S)) (p1 : Nat) (x2 : Int32) (x3 : Int32) (z : lc_S) : Option ((Unit) × lc_S) :=
  if x3 = 0 then (fQ_type_176 k12 p1 x2 x3 1 z) else (fQ_type_176 k12 p1 x2 x3 0 z)
def fQ_type_117 (k12 : Nat → Int32 → Int32 → Int32 → lc_S → Option ((Unit) × lc_S)) : Nat → Nat → Int32 → Int32 → lc_S → Option ((Unit) × lc_S)
  | 0, _, _, _, _ => none
  | n + 1, p1, x2, x3, z => if x3 ≤ 0 then (fQ_type_167 k12 p1 x2 x3 z) else (lc_chk (lc_in (x3 - 1) 128) (if (lcI z 97 (x3 - 1).toNatClampNeg) = 0 then (if (lcI z 80 14) = 0 then (lc_bnd (fQ_expect 41 z) (fun r142 z142 => lc_let (x3 + (-1)) (fun x145 => if x145 ≤ 0 then (fQ_type_117 k12 n p1 x2 x145 z142) else (lc_chk (lc_in (x145 - 1) 128) (lc_chk (lc_in (x145 - 1) 128) (fQ_type_117 k12 n p1 x2 x145 (lcUI z142 97 (x145 - 1).toNatClampNeg ((lcI z142 97 (x145 - 1).toNatClampNeg) - 1)))))))) else (fQ_type_167 k12 p1 x2 x3 z)) else (fQ_type_167 k12 p1 x2 x3 z)))
def fQ_type_62 (k12 : Nat → Int32 → Int32 → Int32 → lc_S → Option ((Unit) × lc_S)) (p1 : Nat) (x2 : Int32) (x3 : Int32) (x4 : Int32) (x5 : Int32) (t1 : Int32) (z : lc_S) : Option ((Unit) × lc_S) :=
  lc_chk (lc_zok t1) (if (lcI (lcUI z 80 14 t1) 80 14) = 0 then (lc_chk (lc_sh p1 = (1, 0, 130)) (lc_chk (lc_in x2 130) (lc_let (x2 + 1) (fun x78 => if x5 = 40 then (lc_chk (lc_in x3 128) (lc_let (x3 + 1) (fun x95 => k12 p1 x78 x95 x4 (lcUI (lcUI (lcUI z 80 14 t1) p1 x2.toNatClampNeg x5) 97 x3.toNatClampNeg 2)))) else (if x3 ≤ 0 then (fQ_type_117 k12 lc_FU p1 x78 x3 (lcUI (lcUI z 80 14 t1) p1 x2.toNatClampNeg x5)) else (lc_chk (lc_in (x3 - 1) 128) (lc_chk (lc_in (x3 - 1) 128) (fQ_type_117 k12 lc_FU p1 x78 x3 (lcUI (lcUI (lcUI z 80 14 t1) p1 x2.toNatClampNeg x5) 97 (x3 - 1).toNatClampNeg ((lcI (lcUI (lcUI z 80 14 t1) p1 x2.toNatClampNeg x5) 97 (x3 - 1).toNatClampNeg) - 1)))))))))) else (some ((), lcUI z 80 14 t1)))
def fQ_type_57 (k12 : Nat → Int32 → Int32 → Int32 → lc_S → Option ((Unit) × lc_S)) (p1 : Nat) (x2 : Int32) (x3 : Int32) (x4 : Int32) (x5 : Int32) (z : lc_S) : Option ((Unit) × lc_S) :=
  fQ_type_62 k12 p1 x2 x3 x4 x5 1 z
def fQ_type_52 (k12 : Nat → Int32 → Int32 → Int32 → lc_S → Option ((Unit) × lc_S)) (p1 : Nat) (x2 : Int32) (x3 : Int32) (x4 : Int32) (x5 : Int32) (z : lc_S) : Option ((Unit) × lc_S) :=
  if x3 ≤ 4 then (fQ_type_62 k12 p1 x2 x3 x4 x5 0 z) else (fQ_type_57 k12 p1 x2 x3 x4 x5 z)
def fQ_type_181 (p1 : Nat) (x2 : Int32) (z : lc_S) : Option ((Unit) × lc_S) :=
  lc_chk (lc_sh p1 = (1, 0, 130)) (lc_chk (lc_in x2 130) (some ((), lcUI z p1 x2.toNatClampNeg 0)))
def fQ_type_12 : Nat → Nat → Int32 → Int32 → Int32 → lc_S → Option ((Unit) × lc_S)
  | 0, _, _, _, _, _ => none
  | n + 1, p1, x2, x3, x4, z => if x4 = 0 then (if (lcI z 80 14) = 0 then (lc_bnd (fQ_next z) (fun r25 z25 => if r25 = 105 then (fQ_type_52 (fQ_type_12 n) p1 x2 x3 x4 r25 z25) else (if r25 = 114 then (fQ_type_52 (fQ_type_12 n) p1 x2 x3 x4 r25 z25) else (if r25 = 40 then (fQ_type_52 (fQ_type_12 n) p1 x2 x3 x4 r25 z25) else (fQ_type_57 (fQ_type_12 n) p1 x2 x3 x4 r25 z25))))) else (fQ_type_181 p1 x2 z)) else (fQ_type_181 p1 x2 z)
def fQ_type (a1 : Nat) (z : lc_S) : Option ((Unit) × lc_S) :=
  fQ_type_12 lc_FU a1 0 0 0 (lcUI z 80 23 0)
set_option maxHeartbeats 4000000 in
set_option maxRecDepth 100000 in
theorem bQ_type_176 {p : Program} {l : Launch} {e : Env} {s : State} {m : MethodId} {args : Array Value} {below : List Frame} {meth : Method} {c : Code} {G : lc_G} (hx : p.tables.exec = Jvm.exec) (hb : c.code = prog_10_method_12_code) (hml : c.maxLocals = 6) (hr : meth.sig.returnType = none) (hlocks : meth.locks = false) (hown : s.vm.findClass "LinearCellsModel" = some m.cls) (hts : ∀ w ∈ lc_ALL, w.before args s = true) (hE : lc_E G s) {k12 : Nat → Int32 → Int32 → Int32 → lc_S → Option ((Unit) × lc_S)} {r : Unit} {z' : lc_S} (hk12 : ∀ {p1 : Nat} {x2 : Int32} {x3 : Int32} {x4 : Int32} {z : lc_S} {H : Heap} {locs : List Loc} {ls : Array Slot}, k12 p1 x2 x3 x4 z = some (r, z') → lv_has ls 6 [(0, .ref (lc_ad G 80)), (1, .ref (lc_ad G p1)), (2, .int x2), (3, .int x3), (4, .int x4)] → lc_H G z s.heap H locs → W p l e (lc_rm 3) s m args below meth c H locs 0 0 (MQ below (lc_Q G none z') args s 0 0 (lc_A G)) (F0 m 12 ls [])) : ∀ {p1 : Nat} {x2 : Int32} {x3 : Int32} {t0 : Int32} {z : lc_S} {H : Heap} {locs : List Loc} {ls : Array Slot}, fQ_type_176 k12 p1 x2 x3 t0 z = some (r, z') → lv_has ls 6 [(0, .ref (lc_ad G 80)), (1, .ref (lc_ad G p1)), (2, .int x2), (3, .int x3)] → lc_H G z s.heap H locs → W p l e (lc_rm 3) s m args below meth c H locs 0 0 (MQ below (lc_Q G none z') args s 0 0 (lc_A G)) (F0 m 176 ls [.int t0]) := by
  intro p1 x2 x3 t0 z H locs ls hf hl hH
  rw [fQ_type_176] at hf
  refine lv_istore hx hb dQ_type_176 hl (by decide) rfl (fun ls hl => ?_)
  replace hl : lv_has ls 6 [(4, .int t0), (0, .ref (lc_ad G 80)), (1, .ref (lc_ad G p1)), (2, .int x2), (3, .int x3)] := hl
  refine lv_goto (tgt := 12) hx hb dQ_type_178 (by decide) ?_
  exact hk12 hf (lv_sub hl [1, 2, 3, 4, 0] rfl) hH
set_option maxHeartbeats 4000000 in
set_option maxRecDepth 100000 in
theorem bQ_type_167 {p : Program} {l : Launch} {e : Env} {s : State} {m : MethodId} {args : Array Value} {below : List Frame} {meth : Method} {c : Code} {G : lc_G} (hx : p.tables.exec = Jvm.exec) (hb : c.code = prog_10_method_12_code) (hml : c.maxLocals = 6) (hr : meth.sig.returnType = none) (hlocks : meth.locks = false) (hown : s.vm.findClass "LinearCellsModel" = some m.cls) (hts : ∀ w ∈ lc_ALL, w.before args s = true) (hE : lc_E G s) {k12 : Nat → Int32 → Int32 → Int32 → lc_S → Option ((Unit) × lc_S)} {r : Unit} {z' : lc_S} (hk12 : ∀ {p1 : Nat} {x2 : Int32} {x3 : Int32} {x4 : Int32} {z : lc_S} {H : Heap} {locs : List Loc} {ls : Array Slot}, k12 p1 x2 x3 x4 z = some (r, z') → lv_has ls 6 [(0, .ref (lc_ad G 80)), (1, .ref (lc_ad G p1)), (2, .int x2), (3, .int x3), (4, .int x4)] → lc_H G z s.heap H locs → W p l e (lc_rm 3) s m args below meth c H locs 0 0 (MQ below (lc_Q G none z') args s 0 0 (lc_A G)) (F0 m 12 ls [])) : ∀ {p1 : Nat} {x2 : Int32} {x3 : Int32} {z : lc_S} {H : Heap} {locs : List Loc} {ls : Array Slot}, fQ_type_167 k12 p1 x2 x3 z = some (r, z') → lv_has ls 6 [(0, .ref (lc_ad G 80)), (1, .ref (lc_ad G p1)), (2, .int x2), (3, .int x3)] → lc_H G z s.heap H locs → W p l e (lc_rm 3) s m args below meth c H locs 0 0 (MQ below (lc_Q G none z') args s 0 0 (lc_A G)) (F0 m 167 ls []) := by
  intro p1 x2 x3 z H locs ls hf hl hH
  rw [fQ_type_167] at hf
  refine lv_iload_n hx hb dQ_type_167 rfl (lv_at hl 3 rfl) ?_
  refine lv_if_ne (tgt := 175) hx hb dQ_type_168 (by decide) (fun hc => ?_) (fun hc => ?_)
  · replace hf := lc_ite_neg hc hf
    refine lv_iconst (v := 0) hx hb dQ_type_175 (by decide) ?_
    exact bQ_type_176 hx hb hml hr hlocks hown hts hE (fun hf hl hH => hk12 hf hl hH) hf (lv_sub hl [0, 1, 2, 3] rfl) hH
  · replace hf := lc_ite_pos hc hf
    refine lv_iconst (v := 1) hx hb dQ_type_171 (by decide) ?_
    refine lv_goto (tgt := 176) hx hb dQ_type_172 (by decide) ?_
    exact bQ_type_176 hx hb hml hr hlocks hown hts hE (fun hf hl hH => hk12 hf hl hH) hf (lv_sub hl [0, 1, 2, 3] rfl) hH
set_option maxHeartbeats 4000000 in
set_option maxRecDepth 100000 in
theorem bQ_type_117 {p : Program} {l : Launch} {e : Env} {s : State} {m : MethodId} {args : Array Value} {below : List Frame} {meth : Method} {c : Code} {G : lc_G} (hx : p.tables.exec = Jvm.exec) (hb : c.code = prog_10_method_12_code) (hml : c.maxLocals = 6) (hr : meth.sig.returnType = none) (hlocks : meth.locks = false) (hown : s.vm.findClass "LinearCellsModel" = some m.cls) (hts : ∀ w ∈ lc_ALL, w.before args s = true) (hE : lc_E G s) {k12 : Nat → Int32 → Int32 → Int32 → lc_S → Option ((Unit) × lc_S)} {r : Unit} {z' : lc_S} (hk12 : ∀ {p1 : Nat} {x2 : Int32} {x3 : Int32} {x4 : Int32} {z : lc_S} {H : Heap} {locs : List Loc} {ls : Array Slot}, k12 p1 x2 x3 x4 z = some (r, z') → lv_has ls 6 [(0, .ref (lc_ad G 80)), (1, .ref (lc_ad G p1)), (2, .int x2), (3, .int x3), (4, .int x4)] → lc_H G z s.heap H locs → W p l e (lc_rm 3) s m args below meth c H locs 0 0 (MQ below (lc_Q G none z') args s 0 0 (lc_A G)) (F0 m 12 ls [])) : ∀ (n : Nat) {p1 : Nat} {x2 : Int32} {x3 : Int32} {z : lc_S} {H : Heap} {locs : List Loc} {ls : Array Slot}, fQ_type_117 k12 n p1 x2 x3 z = some (r, z') → lv_has ls 6 [(0, .ref (lc_ad G 80)), (1, .ref (lc_ad G p1)), (2, .int x2), (3, .int x3)] → lc_H G z s.heap H locs → W p l e (lc_rm 3) s m args below meth c H locs 0 0 (MQ below (lc_Q G none z') args s 0 0 (lc_A G)) (F0 m 117 ls []) := by
  intro n
  induction n with
  | zero =>
    intro p1 x2 x3 z H locs ls hf hl hH
    exact absurd (show (none : Option ((Unit) × lc_S)) = some (r, z') from hf) (fun h => by cases h)
  | succ n ih =>
    intro p1 x2 x3 z H locs ls hf hl hH
    rw [fQ_type_117] at hf
    refine lv_iload_n hx hb dQ_type_117 rfl (lv_at hl 3 rfl) ?_
    refine lv_if_le (tgt := 167) hx hb dQ_type_118 (by decide) (fun hc => ?_) (fun hc => ?_)
    · replace hf := lc_ite_pos hc hf
      exact bQ_type_167 hx hb hml hr hlocks hown hts hE (fun hf hl hH => hk12 hf hl hH) hf (lv_sub hl [0, 1, 2, 3] rfl) hH
    · replace hf := lc_ite_neg hc hf
      refine lv_aload_n hx hb dQ_type_121 rfl (lv_at hl 0 rfl) ?_
      refine lc_getf (d := 17) (q := 97) hx hb hts hown hE hH flQ_59 lc_h80 rfl rfl dQ_type_122 ?_
      refine lv_iload_n hx hb dQ_type_125 rfl (lv_at hl 3 rfl) ?_
      refine lv_iconst (v := 1) hx hb dQ_type_126 (by decide) ?_
      refine lv_isub hx hb dQ_type_127 ?_
      obtain ⟨hi128, hf⟩ := lc_chk_some hf
      refine lc_iald hx hb hE hH lc_h97 rfl hi128 dQ_type_128 ?_
      refine lv_if_ne (tgt := 167) hx hb dQ_type_129 (by decide) (fun hc => ?_) (fun hc => ?_)
      · replace hf := lc_ite_neg hc hf
        exact bQ_type_167 hx hb hml hr hlocks hown hts hE (fun hf hl hH => hk12 hf hl hH) hf (lv_sub hl [0, 1, 2, 3] rfl) hH
      · replace hf := lc_ite_pos hc hf
        refine lv_aload_n hx hb dQ_type_132 rfl (lv_at hl 0 rfl) ?_
        refine lc_geti hx hb hts hown hE hH flQ_155 lc_h80 rfl dQ_type_133 ?_
        refine lv_if_ne (tgt := 167) hx hb dQ_type_136 (by decide) (fun hc => ?_) (fun hc => ?_)
        · replace hf := lc_ite_neg hc hf
          exact bQ_type_167 hx hb hml hr hlocks hown hts hE (fun hf hl hH => hk12 hf hl hH) hf (lv_sub hl [0, 1, 2, 3] rfl) hH
        · replace hf := lc_ite_pos hc hf
          refine lv_aload_n hx hb dQ_type_139 rfl (lv_at hl 0 rfl) ?_
          refine lv_bipush (v := 41) hx hb dQ_type_140 (by decide) ?_
          obtain ⟨r142, z142, h142, hf⟩ := lc_bnd_some hf
          refine lc_callv (va_runV (As := [.int 41]) (rest := []) ⟨hx, hb, hml, hown, hts⟩ (cQ_expect l G h142) (lc_cwV hts kvQ_172 (lc_room (by decide) (by decide))) (lc_preV hE hH lc_h80 rfl _) rfl rfl hl.1 rfl (lv_room (Nat.le_of_ble_eq_true rfl)) dQ_type_142 ⟨Nat.zero_le _, Nat.zero_le _⟩) hH (fun H locs hH => ?_)
          obtain ⟨x145, e145⟩ : ∃ x : Int32, x = x3 + (-1) := ⟨_, rfl⟩
          replace hf := lc_let_of e145 hf
          refine lv_iinc (k := 3) (v := x145) hx hb dQ_type_145 hl rfl ((lc_incv _ (by decide)).trans e145.symm) (by decide) rfl (fun ls hl => ?_)
          replace hl : lv_has ls 6 [(3, .int x145), (0, .ref (lc_ad G 80)), (1, .ref (lc_ad G p1)), (2, .int x2)] := hl
          refine lv_iload_n hx hb dQ_type_148 rfl (lv_at hl 0 rfl) ?_
          refine lv_if_le (tgt := 117) hx hb dQ_type_149 (by decide) (fun hc => ?_) (fun hc => ?_)
          · replace hf := lc_ite_pos hc hf
            exact ih hf (lv_sub hl [1, 2, 3, 0] rfl) hH
          · replace hf := lc_ite_neg hc hf
            refine lv_aload_n hx hb dQ_type_152 rfl (lv_at hl 1 rfl) ?_
            refine lc_getf (d := 17) (q := 97) hx hb hts hown hE hH flQ_59 lc_h80 rfl rfl dQ_type_153 ?_
            refine lv_iload_n hx hb dQ_type_156 rfl (lv_at hl 0 rfl) ?_
            refine lv_iconst (v := 1) hx hb dQ_type_157 (by decide) ?_
            refine lv_isub hx hb dQ_type_158 ?_
            refine lv_dup2_11 hx hb dQ_type_159 rfl rfl ?_
            obtain ⟨hi160, hf⟩ := lc_chk_some hf
            refine lc_iald hx hb hE hH lc_h97 rfl hi160 dQ_type_160 ?_
            refine lv_iconst (v := 1) hx hb dQ_type_161 (by decide) ?_
            refine lv_isub hx hb dQ_type_162 ?_
            obtain ⟨hi163, hf⟩ := lc_chk_some hf
            refine lc_iast hx hb hE hH lc_h97 rfl hi163 dQ_type_163 (fun H locs hH => ?_)
            refine lv_goto (tgt := 117) hx hb dQ_type_164 (by decide) ?_
            exact ih hf (lv_sub hl [1, 2, 3, 0] rfl) hH
set_option maxHeartbeats 4000000 in
set_option maxRecDepth 100000 in
theorem bQ_type_62 {p : Program} {l : Launch} {e : Env} {s : State} {m : MethodId} {args : Array Value} {below : List Frame} {meth : Method} {c : Code} {G : lc_G} (hx : p.tables.exec = Jvm.exec) (hb : c.code = prog_10_method_12_code) (hml : c.maxLocals = 6) (hr : meth.sig.returnType = none) (hlocks : meth.locks = false) (hown : s.vm.findClass "LinearCellsModel" = some m.cls) (hts : ∀ w ∈ lc_ALL, w.before args s = true) (hE : lc_E G s) {k12 : Nat → Int32 → Int32 → Int32 → lc_S → Option ((Unit) × lc_S)} {r : Unit} {z' : lc_S} (hk12 : ∀ {p1 : Nat} {x2 : Int32} {x3 : Int32} {x4 : Int32} {z : lc_S} {H : Heap} {locs : List Loc} {ls : Array Slot}, k12 p1 x2 x3 x4 z = some (r, z') → lv_has ls 6 [(0, .ref (lc_ad G 80)), (1, .ref (lc_ad G p1)), (2, .int x2), (3, .int x3), (4, .int x4)] → lc_H G z s.heap H locs → W p l e (lc_rm 3) s m args below meth c H locs 0 0 (MQ below (lc_Q G none z') args s 0 0 (lc_A G)) (F0 m 12 ls [])) : ∀ {p1 : Nat} {x2 : Int32} {x3 : Int32} {x4 : Int32} {x5 : Int32} {t1 : Int32} {z : lc_S} {H : Heap} {locs : List Loc} {ls : Array Slot}, fQ_type_62 k12 p1 x2 x3 x4 x5 t1 z = some (r, z') → lv_has ls 6 [(0, .ref (lc_ad G 80)), (1, .ref (lc_ad G p1)), (2, .int x2), (3, .int x3), (4, .int x4), (5, .int x5)] → lc_H G z s.heap H locs → W p l e (lc_rm 3) s m args below meth c H locs 0 0 (MQ below (lc_Q G none z') args s 0 0 (lc_A G)) (F0 m 62 ls [.int t1, .ref (lc_ad G 80)]) := by
  intro p1 x2 x3 x4 x5 t1 z H locs ls hf hl hH
  rw [fQ_type_62] at hf
  obtain ⟨hz62, hf⟩ := lc_chk_some hf
  refine lc_puti hx hb hts hown hE hH fpQ_155 lc_h80 rfl (lc_zn hz62) (lc_zf hz62) dQ_type_62 (fun H locs hH => ?_)
  refine lv_aload_n hx hb dQ_type_65 rfl (lv_at hl 0 rfl) ?_
  refine lc_geti hx hb hts hown hE hH flQ_155 lc_h80 rfl dQ_type_66 ?_
  refine lv_if_eq (tgt := 73) hx hb dQ_type_69 (by decide) (fun hc => ?_) (fun hc => ?_)
  · replace hf := lc_ite_pos hc hf
    refine lv_aload_n hx hb dQ_type_73 rfl (lv_at hl 1 rfl) ?_
    refine lv_iload_n hx hb dQ_type_74 rfl (lv_at hl 2 rfl) ?_
    refine lv_iload hx hb dQ_type_75 (lv_at hl 5 rfl) ?_
    obtain ⟨hs77_0, hf⟩ := lc_chk_some hf
    obtain ⟨hi77, hf⟩ := lc_chk_some hf
    refine lc_iast hx hb hE hH hs77_0 rfl hi77 dQ_type_77 (fun H locs hH => ?_)
    obtain ⟨x78, e78⟩ : ∃ x : Int32, x = x2 + 1 := ⟨_, rfl⟩
    replace hf := lc_let_of e78 hf
    refine lv_iinc (k := 2) (v := x78) hx hb dQ_type_78 hl rfl ((lc_incv _ (by decide)).trans e78.symm) (by decide) rfl (fun ls hl => ?_)
    replace hl : lv_has ls 6 [(2, .int x78), (0, .ref (lc_ad G 80)), (1, .ref (lc_ad G p1)), (3, .int x3), (4, .int x4), (5, .int x5)] := hl
    refine lv_iload hx hb dQ_type_81 (lv_at hl 5 rfl) ?_
    refine lv_bipush (v := 40) hx hb dQ_type_83 (by decide) ?_
    refine lv_icmp_ne (tgt := 101) hx hb dQ_type_85 (by decide) (fun hc => ?_) (fun hc => ?_)
    · replace hf := lc_ite_neg hc hf
      refine lv_iload_n hx hb dQ_type_101 rfl (lv_at hl 3 rfl) ?_
      refine lv_if_le (tgt := 117) hx hb dQ_type_102 (by decide) (fun hc => ?_) (fun hc => ?_)
      · replace hf := lc_ite_pos hc hf
        exact bQ_type_117 hx hb hml hr hlocks hown hts hE (fun hf hl hH => hk12 hf hl hH) _ hf (lv_sub hl [1, 2, 0, 3] rfl) hH
      · replace hf := lc_ite_neg hc hf
        refine lv_aload_n hx hb dQ_type_105 rfl (lv_at hl 1 rfl) ?_
        refine lc_getf (d := 17) (q := 97) hx hb hts hown hE hH flQ_59 lc_h80 rfl rfl dQ_type_106 ?_
        refine lv_iload_n hx hb dQ_type_109 rfl (lv_at hl 3 rfl) ?_
        refine lv_iconst (v := 1) hx hb dQ_type_110 (by decide) ?_
        refine lv_isub hx hb dQ_type_111 ?_
        refine lv_dup2_11 hx hb dQ_type_112 rfl rfl ?_
        obtain ⟨hi113, hf⟩ := lc_chk_some hf
        refine lc_iald hx hb hE hH lc_h97 rfl hi113 dQ_type_113 ?_
        refine lv_iconst (v := 1) hx hb dQ_type_114 (by decide) ?_
        refine lv_isub hx hb dQ_type_115 ?_
        obtain ⟨hi116, hf⟩ := lc_chk_some hf
        refine lc_iast hx hb hE hH lc_h97 rfl hi116 dQ_type_116 (fun H locs hH => ?_)
        exact bQ_type_117 hx hb hml hr hlocks hown hts hE (fun hf hl hH => hk12 hf hl hH) _ hf (lv_sub hl [1, 2, 0, 3] rfl) hH
    · replace hf := lc_ite_pos hc hf
      refine lv_aload_n hx hb dQ_type_88 rfl (lv_at hl 1 rfl) ?_
      refine lc_getf (d := 17) (q := 97) hx hb hts hown hE hH flQ_59 lc_h80 rfl rfl dQ_type_89 ?_
      refine lv_iload_n hx hb dQ_type_92 rfl (lv_at hl 3 rfl) ?_
      refine lv_iconst (v := 2) hx hb dQ_type_93 (by decide) ?_
      obtain ⟨hi94, hf⟩ := lc_chk_some hf
      refine lc_iast hx hb hE hH lc_h97 rfl hi94 dQ_type_94 (fun H locs hH => ?_)
      obtain ⟨x95, e95⟩ : ∃ x : Int32, x = x3 + 1 := ⟨_, rfl⟩
      replace hf := lc_let_of e95 hf
      refine lv_iinc (k := 3) (v := x95) hx hb dQ_type_95 hl rfl ((lc_incv _ (by decide)).trans e95.symm) (by decide) rfl (fun ls hl => ?_)
      replace hl : lv_has ls 6 [(3, .int x95), (2, .int x78), (0, .ref (lc_ad G 80)), (1, .ref (lc_ad G p1)), (4, .int x4), (5, .int x5)] := hl
      refine lv_goto (tgt := 12) hx hb dQ_type_98 (by decide) ?_
      exact hk12 hf (lv_sub hl [2, 3, 1, 0, 4] rfl) hH
  · replace hf := lc_ite_neg hc hf
    exact lc_vret hx hb hr hlocks hH hf dQ_type_72
set_option maxHeartbeats 4000000 in
set_option maxRecDepth 100000 in
theorem bQ_type_57 {p : Program} {l : Launch} {e : Env} {s : State} {m : MethodId} {args : Array Value} {below : List Frame} {meth : Method} {c : Code} {G : lc_G} (hx : p.tables.exec = Jvm.exec) (hb : c.code = prog_10_method_12_code) (hml : c.maxLocals = 6) (hr : meth.sig.returnType = none) (hlocks : meth.locks = false) (hown : s.vm.findClass "LinearCellsModel" = some m.cls) (hts : ∀ w ∈ lc_ALL, w.before args s = true) (hE : lc_E G s) {k12 : Nat → Int32 → Int32 → Int32 → lc_S → Option ((Unit) × lc_S)} {r : Unit} {z' : lc_S} (hk12 : ∀ {p1 : Nat} {x2 : Int32} {x3 : Int32} {x4 : Int32} {z : lc_S} {H : Heap} {locs : List Loc} {ls : Array Slot}, k12 p1 x2 x3 x4 z = some (r, z') → lv_has ls 6 [(0, .ref (lc_ad G 80)), (1, .ref (lc_ad G p1)), (2, .int x2), (3, .int x3), (4, .int x4)] → lc_H G z s.heap H locs → W p l e (lc_rm 3) s m args below meth c H locs 0 0 (MQ below (lc_Q G none z') args s 0 0 (lc_A G)) (F0 m 12 ls [])) : ∀ {p1 : Nat} {x2 : Int32} {x3 : Int32} {x4 : Int32} {x5 : Int32} {z : lc_S} {H : Heap} {locs : List Loc} {ls : Array Slot}, fQ_type_57 k12 p1 x2 x3 x4 x5 z = some (r, z') → lv_has ls 6 [(0, .ref (lc_ad G 80)), (1, .ref (lc_ad G p1)), (2, .int x2), (3, .int x3), (4, .int x4), (5, .int x5)] → lc_H G z s.heap H locs → W p l e (lc_rm 3) s m args below meth c H locs 0 0 (MQ below (lc_Q G none z') args s 0 0 (lc_A G)) (F0 m 57 ls [.ref (lc_ad G 80)]) := by
  intro p1 x2 x3 x4 x5 z H locs ls hf hl hH
  rw [fQ_type_57] at hf
  refine lv_iconst (v := 1) hx hb dQ_type_57 (by decide) ?_
  refine lv_goto (tgt := 62) hx hb dQ_type_58 (by decide) ?_
  exact bQ_type_62 hx hb hml hr hlocks hown hts hE (fun hf hl hH => hk12 hf hl hH) hf (lv_sub hl [0, 1, 2, 3, 4, 5] rfl) hH
set_option maxHeartbeats 4000000 in
set_option maxRecDepth 100000 in
theorem bQ_type_52 {p : Program} {l : Launch} {e : Env} {s : State} {m : MethodId} {args : Array Value} {below : List Frame} {meth : Method} {c : Code} {G : lc_G} (hx : p.tables.exec = Jvm.exec) (hb : c.code = prog_10_method_12_code) (hml : c.maxLocals = 6) (hr : meth.sig.returnType = none) (hlocks : meth.locks = false) (hown : s.vm.findClass "LinearCellsModel" = some m.cls) (hts : ∀ w ∈ lc_ALL, w.before args s = true) (hE : lc_E G s) {k12 : Nat → Int32 → Int32 → Int32 → lc_S → Option ((Unit) × lc_S)} {r : Unit} {z' : lc_S} (hk12 : ∀ {p1 : Nat} {x2 : Int32} {x3 : Int32} {x4 : Int32} {z : lc_S} {H : Heap} {locs : List Loc} {ls : Array Slot}, k12 p1 x2 x3 x4 z = some (r, z') → lv_has ls 6 [(0, .ref (lc_ad G 80)), (1, .ref (lc_ad G p1)), (2, .int x2), (3, .int x3), (4, .int x4)] → lc_H G z s.heap H locs → W p l e (lc_rm 3) s m args below meth c H locs 0 0 (MQ below (lc_Q G none z') args s 0 0 (lc_A G)) (F0 m 12 ls [])) : ∀ {p1 : Nat} {x2 : Int32} {x3 : Int32} {x4 : Int32} {x5 : Int32} {z : lc_S} {H : Heap} {locs : List Loc} {ls : Array Slot}, fQ_type_52 k12 p1 x2 x3 x4 x5 z = some (r, z') → lv_has ls 6 [(0, .ref (lc_ad G 80)), (1, .ref (lc_ad G p1)), (2, .int x2), (3, .int x3), (4, .int x4), (5, .int x5)] → lc_H G z s.heap H locs → W p l e (lc_rm 3) s m args below meth c H locs 0 0 (MQ below (lc_Q G none z') args s 0 0 (lc_A G)) (F0 m 52 ls [.ref (lc_ad G 80)]) := by
  intro p1 x2 x3 x4 x5 z H locs ls hf hl hH
  rw [fQ_type_52] at hf
  refine lv_iload_n hx hb dQ_type_52 rfl (lv_at hl 3 rfl) ?_
  refine lv_iconst (v := 4) hx hb dQ_type_53 (by decide) ?_
  refine lv_icmp_le (tgt := 61) hx hb dQ_type_54 (by decide) (fun hc => ?_) (fun hc => ?_)
  · replace hf := lc_ite_pos hc hf
    refine lv_iconst (v := 0) hx hb dQ_type_61 (by decide) ?_
    exact bQ_type_62 hx hb hml hr hlocks hown hts hE (fun hf hl hH => hk12 hf hl hH) hf (lv_sub hl [0, 1, 2, 3, 4, 5] rfl) hH
  · replace hf := lc_ite_neg hc hf
    exact bQ_type_57 hx hb hml hr hlocks hown hts hE (fun hf hl hH => hk12 hf hl hH) hf (lv_sub hl [0, 1, 2, 3, 4, 5] rfl) hH
set_option maxHeartbeats 4000000 in
set_option maxRecDepth 100000 in
theorem bQ_type_181 {p : Program} {l : Launch} {e : Env} {s : State} {m : MethodId} {args : Array Value} {below : List Frame} {meth : Method} {c : Code} {G : lc_G} (hx : p.tables.exec = Jvm.exec) (hb : c.code = prog_10_method_12_code) (hml : c.maxLocals = 6) (hr : meth.sig.returnType = none) (hlocks : meth.locks = false) (hown : s.vm.findClass "LinearCellsModel" = some m.cls) (hts : ∀ w ∈ lc_ALL, w.before args s = true) (hE : lc_E G s) {r : Unit} {z' : lc_S} : ∀ {p1 : Nat} {x2 : Int32} {z : lc_S} {H : Heap} {locs : List Loc} {ls : Array Slot}, fQ_type_181 p1 x2 z = some (r, z') → lv_has ls 6 [(1, .ref (lc_ad G p1)), (2, .int x2)] → lc_H G z s.heap H locs → W p l e (lc_rm 3) s m args below meth c H locs 0 0 (MQ below (lc_Q G none z') args s 0 0 (lc_A G)) (F0 m 181 ls []) := by
  intro p1 x2 z H locs ls hf hl hH
  rw [fQ_type_181] at hf
  refine lv_aload_n hx hb dQ_type_181 rfl (lv_at hl 0 rfl) ?_
  refine lv_iload_n hx hb dQ_type_182 rfl (lv_at hl 1 rfl) ?_
  refine lv_iconst (v := 0) hx hb dQ_type_183 (by decide) ?_
  obtain ⟨hs184_0, hf⟩ := lc_chk_some hf
  obtain ⟨hi184, hf⟩ := lc_chk_some hf
  refine lc_iast hx hb hE hH hs184_0 rfl hi184 dQ_type_184 (fun H locs hH => ?_)
  exact lc_vret hx hb hr hlocks hH hf dQ_type_185
set_option maxHeartbeats 4000000 in
set_option maxRecDepth 100000 in
theorem bQ_type_12 {p : Program} {l : Launch} {e : Env} {s : State} {m : MethodId} {args : Array Value} {below : List Frame} {meth : Method} {c : Code} {G : lc_G} (hx : p.tables.exec = Jvm.exec) (hb : c.code = prog_10_method_12_code) (hml : c.maxLocals = 6) (hr : meth.sig.returnType = none) (hlocks : meth.locks = false) (hown : s.vm.findClass "LinearCellsModel" = some m.cls) (hts : ∀ w ∈ lc_ALL, w.before args s = true) (hE : lc_E G s) {r : Unit} {z' : lc_S} : ∀ (n : Nat) {p1 : Nat} {x2 : Int32} {x3 : Int32} {x4 : Int32} {z : lc_S} {H : Heap} {locs : List Loc} {ls : Array Slot}, fQ_type_12 n p1 x2 x3 x4 z = some (r, z') → lv_has ls 6 [(0, .ref (lc_ad G 80)), (1, .ref (lc_ad G p1)), (2, .int x2), (3, .int x3), (4, .int x4)] → lc_H G z s.heap H locs → W p l e (lc_rm 3) s m args below meth c H locs 0 0 (MQ below (lc_Q G none z') args s 0 0 (lc_A G)) (F0 m 12 ls []) := by
  intro n
  induction n with
  | zero =>
    intro p1 x2 x3 x4 z H locs ls hf hl hH
    exact absurd (show (none : Option ((Unit) × lc_S)) = some (r, z') from hf) (fun h => by cases h)
  | succ n ih =>
    intro p1 x2 x3 x4 z H locs ls hf hl hH
    rw [fQ_type_12] at hf
    refine lv_iload hx hb dQ_type_12 (lv_at hl 4 rfl) ?_
    refine lv_if_ne (tgt := 181) hx hb dQ_type_14 (by decide) (fun hc => ?_) (fun hc => ?_)
    · replace hf := lc_ite_neg hc hf
      exact bQ_type_181 hx hb hml hr hlocks hown hts hE hf (lv_sub hl [1, 2] rfl) hH
    · replace hf := lc_ite_pos hc hf
      refine lv_aload_n hx hb dQ_type_17 rfl (lv_at hl 0 rfl) ?_
      refine lc_geti hx hb hts hown hE hH flQ_155 lc_h80 rfl dQ_type_18 ?_
      refine lv_if_ne (tgt := 181) hx hb dQ_type_21 (by decide) (fun hc => ?_) (fun hc => ?_)
      · replace hf := lc_ite_neg hc hf
        exact bQ_type_181 hx hb hml hr hlocks hown hts hE hf (lv_sub hl [1, 2] rfl) hH
      · replace hf := lc_ite_pos hc hf
        refine lv_aload_n hx hb dQ_type_24 rfl (lv_at hl 0 rfl) ?_
        obtain ⟨r25, z25, h25, hf⟩ := lc_bnd_some hf
        refine lc_calli (va_runV (As := []) (rest := []) ⟨hx, hb, hml, hown, hts⟩ (cQ_next l G h25) (lc_cwV hts kvQ_159 (lc_room (by decide) (by decide))) (lc_preV hE hH lc_h80 rfl _) rfl rfl hl.1 rfl (lv_room (Nat.le_of_ble_eq_true rfl)) dQ_type_25 ⟨Nat.zero_le _, Nat.zero_le _⟩) hH (fun H locs hH => ?_)
        refine lv_istore hx hb dQ_type_28 hl (by decide) rfl (fun ls hl => ?_)
        replace hl : lv_has ls 6 [(5, .int r25), (0, .ref (lc_ad G 80)), (1, .ref (lc_ad G p1)), (2, .int x2), (3, .int x3), (4, .int x4)] := hl
        refine lv_aload_n hx hb dQ_type_30 rfl (lv_at hl 1 rfl) ?_
        refine lv_iload hx hb dQ_type_31 (lv_at hl 0 rfl) ?_
        refine lv_bipush (v := 105) hx hb dQ_type_33 (by decide) ?_
        refine lv_icmp_eq (tgt := 52) hx hb dQ_type_35 (by decide) (fun hc => ?_) (fun hc => ?_)
        · replace hf := lc_ite_pos hc hf
          exact bQ_type_52 hx hb hml hr hlocks hown hts hE (fun hf hl hH => ih hf hl hH) hf (lv_sub hl [1, 2, 3, 4, 5, 0] rfl) hH
        · replace hf := lc_ite_neg hc hf
          refine lv_iload hx hb dQ_type_38 (lv_at hl 0 rfl) ?_
          refine lv_bipush (v := 114) hx hb dQ_type_40 (by decide) ?_
          refine lv_icmp_eq (tgt := 52) hx hb dQ_type_42 (by decide) (fun hc => ?_) (fun hc => ?_)
          · replace hf := lc_ite_pos hc hf
            exact bQ_type_52 hx hb hml hr hlocks hown hts hE (fun hf hl hH => ih hf hl hH) hf (lv_sub hl [1, 2, 3, 4, 5, 0] rfl) hH
          · replace hf := lc_ite_neg hc hf
            refine lv_iload hx hb dQ_type_45 (lv_at hl 0 rfl) ?_
            refine lv_bipush (v := 40) hx hb dQ_type_47 (by decide) ?_
            refine lv_icmp_ne (tgt := 57) hx hb dQ_type_49 (by decide) (fun hc => ?_) (fun hc => ?_)
            · replace hf := lc_ite_neg hc hf
              exact bQ_type_57 hx hb hml hr hlocks hown hts hE (fun hf hl hH => ih hf hl hH) hf (lv_sub hl [1, 2, 3, 4, 5, 0] rfl) hH
            · replace hf := lc_ite_pos hc hf
              exact bQ_type_52 hx hb hml hr hlocks hown hts hE (fun hf hl hH => ih hf hl hH) hf (lv_sub hl [1, 2, 3, 4, 5, 0] rfl) hH
set_option maxHeartbeats 4000000 in
set_option maxRecDepth 100000 in
theorem cQ_type (l : Launch) (G : lc_G) {a1 : Nat} {r : Unit} {z z' : lc_S} (hf : fQ_type a1 z = some (r, z')) : lc_M l G yQ_type wQ_type 3 [.ref (lc_ad G 80), .ref (lc_ad G a1)] z none z' := by
  refine lc_M_of (cc := prog_10_method_12_code) (maxL := 6) (ret := none) (own := "LinearCellsModel") (by decide) rfl (fun w h => List.mem_cons_of_mem _ h) (Nat.le_of_ble_eq_true rfl) rfl ?_
  intro p e s m below meth c hx hb hml hr hlocks hown hts hE ls hl hH
  replace hl : lv_has ls 6 [(0, .ref (lc_ad G 80)), (1, .ref (lc_ad G a1))] := hl
  rw [fQ_type] at hf
  refine lv_iconst (v := 0) hx hb dQ_type_0 (by decide) ?_
  refine lv_istore_n hx hb dQ_type_1 rfl hl (by decide) rfl (fun ls hl => ?_)
  replace hl : lv_has ls 6 [(2, .int 0), (0, .ref (lc_ad G 80)), (1, .ref (lc_ad G a1))] := hl
  refine lv_iconst (v := 0) hx hb dQ_type_2 (by decide) ?_
  refine lv_istore_n hx hb dQ_type_3 rfl hl (by decide) rfl (fun ls hl => ?_)
  replace hl : lv_has ls 6 [(3, .int 0), (2, .int 0), (0, .ref (lc_ad G 80)), (1, .ref (lc_ad G a1))] := hl
  refine lv_aload_n hx hb dQ_type_4 rfl (lv_at hl 2 rfl) ?_
  refine lv_iconst (v := 0) hx hb dQ_type_5 (by decide) ?_
  refine lc_puti hx hb hts hown hE hH fpQ_169 lc_h80 rfl rfl rfl dQ_type_6 (fun H locs hH => ?_)
  refine lv_iconst (v := 0) hx hb dQ_type_9 (by decide) ?_
  refine lv_istore hx hb dQ_type_10 hl (by decide) rfl (fun ls hl => ?_)
  replace hl : lv_has ls 6 [(4, .int 0), (3, .int 0), (2, .int 0), (0, .ref (lc_ad G 80)), (1, .ref (lc_ad G a1))] := hl
  exact bQ_type_12 hx hb hml hr hlocks hown hts hE _ hf (lv_sub hl [3, 4, 2, 1, 0] rfl) hH
theorem dQ_isTwo_0 : decode prog_10_method_13_code 0 = .ok (.iload_n 0, 1) := by decide +kernel
theorem dQ_isTwo_1 : decode prog_10_method_13_code 1 = .ok (.bipush 43, 2) := by decide +kernel
theorem dQ_isTwo_3 : decode prog_10_method_13_code 3 = .ok (.if_icmp .eq 33, 3) := by decide +kernel
theorem dQ_isTwo_6 : decode prog_10_method_13_code 6 = .ok (.iload_n 0, 1) := by decide +kernel
theorem dQ_isTwo_7 : decode prog_10_method_13_code 7 = .ok (.bipush 45, 2) := by decide +kernel
theorem dQ_isTwo_9 : decode prog_10_method_13_code 9 = .ok (.if_icmp .eq 27, 3) := by decide +kernel
theorem dQ_isTwo_12 : decode prog_10_method_13_code 12 = .ok (.iload_n 0, 1) := by decide +kernel
theorem dQ_isTwo_13 : decode prog_10_method_13_code 13 = .ok (.bipush 42, 2) := by decide +kernel
theorem dQ_isTwo_15 : decode prog_10_method_13_code 15 = .ok (.if_icmp .eq 21, 3) := by decide +kernel
theorem dQ_isTwo_18 : decode prog_10_method_13_code 18 = .ok (.iload_n 0, 1) := by decide +kernel
theorem dQ_isTwo_19 : decode prog_10_method_13_code 19 = .ok (.bipush 60, 2) := by decide +kernel
theorem dQ_isTwo_21 : decode prog_10_method_13_code 21 = .ok (.if_icmp .eq 15, 3) := by decide +kernel
theorem dQ_isTwo_24 : decode prog_10_method_13_code 24 = .ok (.iload_n 0, 1) := by decide +kernel
theorem dQ_isTwo_25 : decode prog_10_method_13_code 25 = .ok (.bipush 44, 2) := by decide +kernel
theorem dQ_isTwo_27 : decode prog_10_method_13_code 27 = .ok (.if_icmp .eq 9, 3) := by decide +kernel
theorem dQ_isTwo_30 : decode prog_10_method_13_code 30 = .ok (.iload_n 0, 1) := by decide +kernel
theorem dQ_isTwo_31 : decode prog_10_method_13_code 31 = .ok (.bipush 112, 2) := by decide +kernel
theorem dQ_isTwo_33 : decode prog_10_method_13_code 33 = .ok (.if_icmp .ne 7, 3) := by decide +kernel
theorem dQ_isTwo_36 : decode prog_10_method_13_code 36 = .ok (.iconst 1, 1) := by decide +kernel
theorem dQ_isTwo_37 : decode prog_10_method_13_code 37 = .ok (.goto 4, 3) := by decide +kernel
theorem dQ_isTwo_40 : decode prog_10_method_13_code 40 = .ok (.iconst 0, 1) := by decide +kernel
theorem dQ_isTwo_41 : decode prog_10_method_13_code 41 = .ok (.ireturn, 1) := by decide +kernel
def fQ_isTwo_36 (z : lc_S) : Option ((Int32) × lc_S) :=
  some (1, z)
def fQ_isTwo (a0 : Int32) (z : lc_S) : Option ((Int32) × lc_S) :=
  if a0 = 43 then (fQ_isTwo_36 z) else (if a0 = 45 then (fQ_isTwo_36 z) else (if a0 = 42 then (fQ_isTwo_36 z) else (if a0 = 60 then (fQ_isTwo_36 z) else (if a0 = 44 then (fQ_isTwo_36 z) else (if a0 = 112 then (fQ_isTwo_36 z) else (some (0, z)))))))
set_option maxHeartbeats 4000000 in
set_option maxRecDepth 100000 in
theorem bQ_isTwo_36 {p : Program} {l : Launch} {e : Env} {s : State} {m : MethodId} {args : Array Value} {below : List Frame} {meth : Method} {c : Code} {G : lc_G} (hx : p.tables.exec = Jvm.exec) (hb : c.code = prog_10_method_13_code) (hml : c.maxLocals = 1) (hr : meth.sig.returnType = (some .boolean)) (hlocks : meth.locks = false) (hown : s.vm.findClass "LinearCellsModel" = some m.cls) (hts : ∀ w ∈ lc_ALL, w.before args s = true) (hE : lc_E G s) {r : Int32} {z' : lc_S} : ∀ {z : lc_S} {H : Heap} {locs : List Loc} {ls : Array Slot}, fQ_isTwo_36 z = some (r, z') → lv_has ls 1 [] → lc_H G z s.heap H locs → W p l e (lc_rm 0) s m args below meth c H locs 0 0 (MQ below (lc_Q G (some (.int r)) z') args s 0 0 (lc_A G)) (F0 m 36 ls []) := by
  intro z H locs ls hf hl hH
  rw [fQ_isTwo_36] at hf
  refine lv_iconst (v := 1) hx hb dQ_isTwo_36 (by decide) ?_
  refine lv_goto (tgt := 41) hx hb dQ_isTwo_37 (by decide) ?_
  exact lc_zret hx hb hr hlocks (by decide) hH hf dQ_isTwo_41
set_option maxHeartbeats 4000000 in
set_option maxRecDepth 100000 in
theorem cQ_isTwo (l : Launch) (G : lc_G) {a0 : Int32} {r : Int32} {z z' : lc_S} (hf : fQ_isTwo a0 z = some (r, z')) : lc_M l G yQ_isTwo wQ_isTwo 0 [.int a0] z (some (.int r)) z' := by
  refine lc_M_of (cc := prog_10_method_13_code) (maxL := 1) (ret := (some .boolean)) (own := "LinearCellsModel") (by decide) rfl (fun w h => List.mem_cons_of_mem _ h) (Nat.le_of_ble_eq_true rfl) rfl ?_
  intro p e s m below meth c hx hb hml hr hlocks hown hts hE ls hl hH
  replace hl : lv_has ls 1 [(0, .int a0)] := hl
  rw [fQ_isTwo] at hf
  refine lv_iload_n hx hb dQ_isTwo_0 rfl (lv_at hl 0 rfl) ?_
  refine lv_bipush (v := 43) hx hb dQ_isTwo_1 (by decide) ?_
  refine lv_icmp_eq (tgt := 36) hx hb dQ_isTwo_3 (by decide) (fun hc => ?_) (fun hc => ?_)
  · replace hf := lc_ite_pos hc hf
    exact bQ_isTwo_36 hx hb hml hr hlocks hown hts hE hf (lv_sub hl [] rfl) hH
  · replace hf := lc_ite_neg hc hf
    refine lv_iload_n hx hb dQ_isTwo_6 rfl (lv_at hl 0 rfl) ?_
    refine lv_bipush (v := 45) hx hb dQ_isTwo_7 (by decide) ?_
    refine lv_icmp_eq (tgt := 36) hx hb dQ_isTwo_9 (by decide) (fun hc => ?_) (fun hc => ?_)
    · replace hf := lc_ite_pos hc hf
      exact bQ_isTwo_36 hx hb hml hr hlocks hown hts hE hf (lv_sub hl [] rfl) hH
    · replace hf := lc_ite_neg hc hf
      refine lv_iload_n hx hb dQ_isTwo_12 rfl (lv_at hl 0 rfl) ?_
      refine lv_bipush (v := 42) hx hb dQ_isTwo_13 (by decide) ?_
      refine lv_icmp_eq (tgt := 36) hx hb dQ_isTwo_15 (by decide) (fun hc => ?_) (fun hc => ?_)
      · replace hf := lc_ite_pos hc hf
        exact bQ_isTwo_36 hx hb hml hr hlocks hown hts hE hf (lv_sub hl [] rfl) hH
      · replace hf := lc_ite_neg hc hf
        refine lv_iload_n hx hb dQ_isTwo_18 rfl (lv_at hl 0 rfl) ?_
        refine lv_bipush (v := 60) hx hb dQ_isTwo_19 (by decide) ?_
        refine lv_icmp_eq (tgt := 36) hx hb dQ_isTwo_21 (by decide) (fun hc => ?_) (fun hc => ?_)
        · replace hf := lc_ite_pos hc hf
          exact bQ_isTwo_36 hx hb hml hr hlocks hown hts hE hf (lv_sub hl [] rfl) hH
        · replace hf := lc_ite_neg hc hf
          refine lv_iload_n hx hb dQ_isTwo_24 rfl (lv_at hl 0 rfl) ?_
          refine lv_bipush (v := 44) hx hb dQ_isTwo_25 (by decide) ?_
          refine lv_icmp_eq (tgt := 36) hx hb dQ_isTwo_27 (by decide) (fun hc => ?_) (fun hc => ?_)
          · replace hf := lc_ite_pos hc hf
            exact bQ_isTwo_36 hx hb hml hr hlocks hown hts hE hf (lv_sub hl [] rfl) hH
          · replace hf := lc_ite_neg hc hf
            refine lv_iload_n hx hb dQ_isTwo_30 rfl (lv_at hl 0 rfl) ?_
            refine lv_bipush (v := 112) hx hb dQ_isTwo_31 (by decide) ?_
            refine lv_icmp_ne (tgt := 40) hx hb dQ_isTwo_33 (by decide) (fun hc => ?_) (fun hc => ?_)
            · replace hf := lc_ite_neg hc hf
              refine lv_iconst (v := 0) hx hb dQ_isTwo_40 (by decide) ?_
              exact lc_zret hx hb hr hlocks (by decide) hH hf dQ_isTwo_41
            · replace hf := lc_ite_pos hc hf
              exact bQ_isTwo_36 hx hb hml hr hlocks hown hts hE hf (lv_sub hl [] rfl) hH
theorem dQ_partsOf_0 : decode prog_10_method_14_code 0 = .ok (.iload_n 0, 1) := by decide +kernel
theorem dQ_partsOf_1 : decode prog_10_method_14_code 1 = .ok (.bipush 63, 2) := by decide +kernel
theorem dQ_partsOf_3 : decode prog_10_method_14_code 3 = .ok (.if_icmp .ne 7, 3) := by decide +kernel
theorem dQ_partsOf_6 : decode prog_10_method_14_code 6 = .ok (.iconst 3, 1) := by decide +kernel
theorem dQ_partsOf_7 : decode prog_10_method_14_code 7 = .ok (.goto 55, 3) := by decide +kernel
theorem dQ_partsOf_10 : decode prog_10_method_14_code 10 = .ok (.iload_n 0, 1) := by decide +kernel
theorem dQ_partsOf_11 : decode prog_10_method_14_code 11 = .ok (.invokestatic 176, 3) := by decide +kernel
theorem dQ_partsOf_14 : decode prog_10_method_14_code 14 = .ok (.ifCond .ne 15, 3) := by decide +kernel
theorem dQ_partsOf_17 : decode prog_10_method_14_code 17 = .ok (.iload_n 0, 1) := by decide +kernel
theorem dQ_partsOf_18 : decode prog_10_method_14_code 18 = .ok (.bipush 58, 2) := by decide +kernel
theorem dQ_partsOf_20 : decode prog_10_method_14_code 20 = .ok (.if_icmp .eq 9, 3) := by decide +kernel
theorem dQ_partsOf_23 : decode prog_10_method_14_code 23 = .ok (.iload_n 0, 1) := by decide +kernel
theorem dQ_partsOf_24 : decode prog_10_method_14_code 24 = .ok (.bipush 47, 2) := by decide +kernel
theorem dQ_partsOf_26 : decode prog_10_method_14_code 26 = .ok (.if_icmp .ne 7, 3) := by decide +kernel
theorem dQ_partsOf_29 : decode prog_10_method_14_code 29 = .ok (.iconst 2, 1) := by decide +kernel
theorem dQ_partsOf_30 : decode prog_10_method_14_code 30 = .ok (.goto 32, 3) := by decide +kernel
theorem dQ_partsOf_33 : decode prog_10_method_14_code 33 = .ok (.iload_n 0, 1) := by decide +kernel
theorem dQ_partsOf_34 : decode prog_10_method_14_code 34 = .ok (.bipush 110, 2) := by decide +kernel
theorem dQ_partsOf_36 : decode prog_10_method_14_code 36 = .ok (.if_icmp .eq 21, 3) := by decide +kernel
theorem dQ_partsOf_39 : decode prog_10_method_14_code 39 = .ok (.iload_n 0, 1) := by decide +kernel
theorem dQ_partsOf_40 : decode prog_10_method_14_code 40 = .ok (.bipush 103, 2) := by decide +kernel
theorem dQ_partsOf_42 : decode prog_10_method_14_code 42 = .ok (.if_icmp .eq 15, 3) := by decide +kernel
theorem dQ_partsOf_45 : decode prog_10_method_14_code 45 = .ok (.iload_n 0, 1) := by decide +kernel
theorem dQ_partsOf_46 : decode prog_10_method_14_code 46 = .ok (.bipush 100, 2) := by decide +kernel
theorem dQ_partsOf_48 : decode prog_10_method_14_code 48 = .ok (.if_icmp .eq 9, 3) := by decide +kernel
theorem dQ_partsOf_51 : decode prog_10_method_14_code 51 = .ok (.iload_n 0, 1) := by decide +kernel
theorem dQ_partsOf_52 : decode prog_10_method_14_code 52 = .ok (.bipush 64, 2) := by decide +kernel
theorem dQ_partsOf_54 : decode prog_10_method_14_code 54 = .ok (.if_icmp .ne 7, 3) := by decide +kernel
theorem dQ_partsOf_57 : decode prog_10_method_14_code 57 = .ok (.iconst 1, 1) := by decide +kernel
theorem dQ_partsOf_58 : decode prog_10_method_14_code 58 = .ok (.goto 4, 3) := by decide +kernel
theorem dQ_partsOf_61 : decode prog_10_method_14_code 61 = .ok (.iconst 0, 1) := by decide +kernel
theorem dQ_partsOf_62 : decode prog_10_method_14_code 62 = .ok (.ireturn, 1) := by decide +kernel
def fQ_partsOf_29 (z : lc_S) : Option ((Int32) × lc_S) :=
  some (2, z)
def fQ_partsOf_57 (z : lc_S) : Option ((Int32) × lc_S) :=
  some (1, z)
def fQ_partsOf (a0 : Int32) (z : lc_S) : Option ((Int32) × lc_S) :=
  if a0 = 63 then (some (3, z)) else (lc_bnd (fQ_isTwo a0 z) (fun r11 z11 => if r11 = 0 then (if a0 = 58 then (fQ_partsOf_29 z11) else (if a0 = 47 then (fQ_partsOf_29 z11) else (if a0 = 110 then (fQ_partsOf_57 z11) else (if a0 = 103 then (fQ_partsOf_57 z11) else (if a0 = 100 then (fQ_partsOf_57 z11) else (if a0 = 64 then (fQ_partsOf_57 z11) else (some (0, z11)))))))) else (fQ_partsOf_29 z11)))
set_option maxHeartbeats 4000000 in
set_option maxRecDepth 100000 in
theorem bQ_partsOf_29 {p : Program} {l : Launch} {e : Env} {s : State} {m : MethodId} {args : Array Value} {below : List Frame} {meth : Method} {c : Code} {G : lc_G} (hx : p.tables.exec = Jvm.exec) (hb : c.code = prog_10_method_14_code) (hml : c.maxLocals = 1) (hr : meth.sig.returnType = (some .int)) (hlocks : meth.locks = false) (hown : s.vm.findClass "LinearCellsModel" = some m.cls) (hts : ∀ w ∈ lc_ALL, w.before args s = true) (hE : lc_E G s) {r : Int32} {z' : lc_S} : ∀ {z : lc_S} {H : Heap} {locs : List Loc} {ls : Array Slot}, fQ_partsOf_29 z = some (r, z') → lv_has ls 1 [] → lc_H G z s.heap H locs → W p l e (lc_rm 1) s m args below meth c H locs 0 0 (MQ below (lc_Q G (some (.int r)) z') args s 0 0 (lc_A G)) (F0 m 29 ls []) := by
  intro z H locs ls hf hl hH
  rw [fQ_partsOf_29] at hf
  refine lv_iconst (v := 2) hx hb dQ_partsOf_29 (by decide) ?_
  refine lv_goto (tgt := 62) hx hb dQ_partsOf_30 (by decide) ?_
  exact lc_iret hx hb hr hlocks hH hf dQ_partsOf_62
set_option maxHeartbeats 4000000 in
set_option maxRecDepth 100000 in
theorem bQ_partsOf_57 {p : Program} {l : Launch} {e : Env} {s : State} {m : MethodId} {args : Array Value} {below : List Frame} {meth : Method} {c : Code} {G : lc_G} (hx : p.tables.exec = Jvm.exec) (hb : c.code = prog_10_method_14_code) (hml : c.maxLocals = 1) (hr : meth.sig.returnType = (some .int)) (hlocks : meth.locks = false) (hown : s.vm.findClass "LinearCellsModel" = some m.cls) (hts : ∀ w ∈ lc_ALL, w.before args s = true) (hE : lc_E G s) {r : Int32} {z' : lc_S} : ∀ {z : lc_S} {H : Heap} {locs : List Loc} {ls : Array Slot}, fQ_partsOf_57 z = some (r, z') → lv_has ls 1 [] → lc_H G z s.heap H locs → W p l e (lc_rm 1) s m args below meth c H locs 0 0 (MQ below (lc_Q G (some (.int r)) z') args s 0 0 (lc_A G)) (F0 m 57 ls []) := by
  intro z H locs ls hf hl hH
  rw [fQ_partsOf_57] at hf
  refine lv_iconst (v := 1) hx hb dQ_partsOf_57 (by decide) ?_
  refine lv_goto (tgt := 62) hx hb dQ_partsOf_58 (by decide) ?_
  exact lc_iret hx hb hr hlocks hH hf dQ_partsOf_62
set_option maxHeartbeats 4000000 in
set_option maxRecDepth 100000 in
theorem cQ_partsOf (l : Launch) (G : lc_G) {a0 : Int32} {r : Int32} {z z' : lc_S} (hf : fQ_partsOf a0 z = some (r, z')) : lc_M l G yQ_partsOf wQ_partsOf 1 [.int a0] z (some (.int r)) z' := by
  refine lc_M_of (cc := prog_10_method_14_code) (maxL := 1) (ret := (some .int)) (own := "LinearCellsModel") (by decide) rfl (fun w h => List.mem_cons_of_mem _ h) (Nat.le_of_ble_eq_true rfl) rfl ?_
  intro p e s m below meth c hx hb hml hr hlocks hown hts hE ls hl hH
  replace hl : lv_has ls 1 [(0, .int a0)] := hl
  rw [fQ_partsOf] at hf
  refine lv_iload_n hx hb dQ_partsOf_0 rfl (lv_at hl 0 rfl) ?_
  refine lv_bipush (v := 63) hx hb dQ_partsOf_1 (by decide) ?_
  refine lv_icmp_ne (tgt := 10) hx hb dQ_partsOf_3 (by decide) (fun hc => ?_) (fun hc => ?_)
  · replace hf := lc_ite_neg hc hf
    refine lv_iload_n hx hb dQ_partsOf_10 rfl (lv_at hl 0 rfl) ?_
    obtain ⟨r11, z11, h11, hf⟩ := lc_bnd_some hf
    refine lc_calli (va_runS (As := [.int a0]) (rest := []) ⟨hx, hb, hml, hown, hts⟩ (cQ_isTwo l G h11) (lc_cwS hts ksQ_176 (lc_room (by decide) (by decide))) (lc_preS hE hH _) rfl rfl hl.1 rfl (lv_room (Nat.le_of_ble_eq_true rfl)) dQ_partsOf_11 ⟨Nat.zero_le _, Nat.zero_le _⟩) hH (fun H locs hH => ?_)
    refine lv_if_ne (tgt := 29) hx hb dQ_partsOf_14 (by decide) (fun hc => ?_) (fun hc => ?_)
    · replace hf := lc_ite_neg hc hf
      exact bQ_partsOf_29 hx hb hml hr hlocks hown hts hE hf (lv_sub hl [] rfl) hH
    · replace hf := lc_ite_pos hc hf
      refine lv_iload_n hx hb dQ_partsOf_17 rfl (lv_at hl 0 rfl) ?_
      refine lv_bipush (v := 58) hx hb dQ_partsOf_18 (by decide) ?_
      refine lv_icmp_eq (tgt := 29) hx hb dQ_partsOf_20 (by decide) (fun hc => ?_) (fun hc => ?_)
      · replace hf := lc_ite_pos hc hf
        exact bQ_partsOf_29 hx hb hml hr hlocks hown hts hE hf (lv_sub hl [] rfl) hH
      · replace hf := lc_ite_neg hc hf
        refine lv_iload_n hx hb dQ_partsOf_23 rfl (lv_at hl 0 rfl) ?_
        refine lv_bipush (v := 47) hx hb dQ_partsOf_24 (by decide) ?_
        refine lv_icmp_ne (tgt := 33) hx hb dQ_partsOf_26 (by decide) (fun hc => ?_) (fun hc => ?_)
        · replace hf := lc_ite_neg hc hf
          refine lv_iload_n hx hb dQ_partsOf_33 rfl (lv_at hl 0 rfl) ?_
          refine lv_bipush (v := 110) hx hb dQ_partsOf_34 (by decide) ?_
          refine lv_icmp_eq (tgt := 57) hx hb dQ_partsOf_36 (by decide) (fun hc => ?_) (fun hc => ?_)
          · replace hf := lc_ite_pos hc hf
            exact bQ_partsOf_57 hx hb hml hr hlocks hown hts hE hf (lv_sub hl [] rfl) hH
          · replace hf := lc_ite_neg hc hf
            refine lv_iload_n hx hb dQ_partsOf_39 rfl (lv_at hl 0 rfl) ?_
            refine lv_bipush (v := 103) hx hb dQ_partsOf_40 (by decide) ?_
            refine lv_icmp_eq (tgt := 57) hx hb dQ_partsOf_42 (by decide) (fun hc => ?_) (fun hc => ?_)
            · replace hf := lc_ite_pos hc hf
              exact bQ_partsOf_57 hx hb hml hr hlocks hown hts hE hf (lv_sub hl [] rfl) hH
            · replace hf := lc_ite_neg hc hf
              refine lv_iload_n hx hb dQ_partsOf_45 rfl (lv_at hl 0 rfl) ?_
              refine lv_bipush (v := 100) hx hb dQ_partsOf_46 (by decide) ?_
              refine lv_icmp_eq (tgt := 57) hx hb dQ_partsOf_48 (by decide) (fun hc => ?_) (fun hc => ?_)
              · replace hf := lc_ite_pos hc hf
                exact bQ_partsOf_57 hx hb hml hr hlocks hown hts hE hf (lv_sub hl [] rfl) hH
              · replace hf := lc_ite_neg hc hf
                refine lv_iload_n hx hb dQ_partsOf_51 rfl (lv_at hl 0 rfl) ?_
                refine lv_bipush (v := 64) hx hb dQ_partsOf_52 (by decide) ?_
                refine lv_icmp_ne (tgt := 61) hx hb dQ_partsOf_54 (by decide) (fun hc => ?_) (fun hc => ?_)
                · replace hf := lc_ite_neg hc hf
                  refine lv_iconst (v := 0) hx hb dQ_partsOf_61 (by decide) ?_
                  exact lc_iret hx hb hr hlocks hH hf dQ_partsOf_62
                · replace hf := lc_ite_pos hc hf
                  exact bQ_partsOf_57 hx hb hml hr hlocks hown hts hE hf (lv_sub hl [] rfl) hH
        · replace hf := lc_ite_pos hc hf
          exact bQ_partsOf_29 hx hb hml hr hlocks hown hts hE hf (lv_sub hl [] rfl) hH
  · replace hf := lc_ite_pos hc hf
    refine lv_iconst (v := 3) hx hb dQ_partsOf_6 (by decide) ?_
    refine lv_goto (tgt := 62) hx hb dQ_partsOf_7 (by decide) ?_
    exact lc_iret hx hb hr hlocks hH hf dQ_partsOf_62
theorem dQ_part_0 : decode prog_10_method_15_code 0 = .ok (.aload_n 0, 1) := by decide +kernel
theorem dQ_part_1 : decode prog_10_method_15_code 1 = .ok (.getfield 35, 3) := by decide +kernel
theorem dQ_part_4 : decode prog_10_method_15_code 4 = .ok (.iconst 0, 1) := by decide +kernel
theorem dQ_part_5 : decode prog_10_method_15_code 5 = .ok (.iaload, 1) := by decide +kernel
theorem dQ_part_6 : decode prog_10_method_15_code 6 = .ok (.istore_n 2, 1) := by decide +kernel
theorem dQ_part_7 : decode prog_10_method_15_code 7 = .ok (.aload_n 0, 1) := by decide +kernel
theorem dQ_part_8 : decode prog_10_method_15_code 8 = .ok (.getfield 13, 3) := by decide +kernel
theorem dQ_part_11 : decode prog_10_method_15_code 11 = .ok (.iload_n 2, 1) := by decide +kernel
theorem dQ_part_12 : decode prog_10_method_15_code 12 = .ok (.iload_n 1, 1) := by decide +kernel
theorem dQ_part_13 : decode prog_10_method_15_code 13 = .ok (.iastore, 1) := by decide +kernel
theorem dQ_part_14 : decode prog_10_method_15_code 14 = .ok (.aload_n 0, 1) := by decide +kernel
theorem dQ_part_15 : decode prog_10_method_15_code 15 = .ok (.getfield 16, 3) := by decide +kernel
theorem dQ_part_18 : decode prog_10_method_15_code 18 = .ok (.iload_n 2, 1) := by decide +kernel
theorem dQ_part_19 : decode prog_10_method_15_code 19 = .ok (.iconst 0, 1) := by decide +kernel
theorem dQ_part_20 : decode prog_10_method_15_code 20 = .ok (.iastore, 1) := by decide +kernel
theorem dQ_part_21 : decode prog_10_method_15_code 21 = .ok (.aload_n 0, 1) := by decide +kernel
theorem dQ_part_22 : decode prog_10_method_15_code 22 = .ok (.getfield 28, 3) := by decide +kernel
theorem dQ_part_25 : decode prog_10_method_15_code 25 = .ok (.iload_n 2, 1) := by decide +kernel
theorem dQ_part_26 : decode prog_10_method_15_code 26 = .ok (.iconst (-1), 1) := by decide +kernel
theorem dQ_part_27 : decode prog_10_method_15_code 27 = .ok (.iastore, 1) := by decide +kernel
theorem dQ_part_28 : decode prog_10_method_15_code 28 = .ok (.aload_n 0, 1) := by decide +kernel
theorem dQ_part_29 : decode prog_10_method_15_code 29 = .ok (.getfield 31, 3) := by decide +kernel
theorem dQ_part_32 : decode prog_10_method_15_code 32 = .ok (.iload_n 2, 1) := by decide +kernel
theorem dQ_part_33 : decode prog_10_method_15_code 33 = .ok (.iconst 0, 1) := by decide +kernel
theorem dQ_part_34 : decode prog_10_method_15_code 34 = .ok (.bastore, 1) := by decide +kernel
theorem dQ_part_35 : decode prog_10_method_15_code 35 = .ok (.aload_n 0, 1) := by decide +kernel
theorem dQ_part_36 : decode prog_10_method_15_code 36 = .ok (.getfield 35, 3) := by decide +kernel
theorem dQ_part_39 : decode prog_10_method_15_code 39 = .ok (.iconst 0, 1) := by decide +kernel
theorem dQ_part_40 : decode prog_10_method_15_code 40 = .ok (.dup2, 1) := by decide +kernel
theorem dQ_part_41 : decode prog_10_method_15_code 41 = .ok (.iaload, 1) := by decide +kernel
theorem dQ_part_42 : decode prog_10_method_15_code 42 = .ok (.iconst 1, 1) := by decide +kernel
theorem dQ_part_43 : decode prog_10_method_15_code 43 = .ok (.iadd, 1) := by decide +kernel
theorem dQ_part_44 : decode prog_10_method_15_code 44 = .ok (.iastore, 1) := by decide +kernel
theorem dQ_part_45 : decode prog_10_method_15_code 45 = .ok (.iload_n 2, 1) := by decide +kernel
theorem dQ_part_46 : decode prog_10_method_15_code 46 = .ok (.ireturn, 1) := by decide +kernel
def fQ_part (a1 : Int32) (z : lc_S) : Option ((Int32) × lc_S) :=
  lc_let (lcI z 89 (0 : Int32).toNatClampNeg) (fun x6 => lc_chk (lc_in x6 600) (lc_chk (lc_in x6 600) (lc_chk (lc_in x6 600) (lc_chk (lc_in x6 600) (some (x6, lcUI (lcUI (lcUI (lcUI (lcUI z 82 x6.toNatClampNeg a1) 83 x6.toNatClampNeg 0) 87 x6.toNatClampNeg (-1)) 88 x6.toNatClampNeg 0) 89 (0 : Int32).toNatClampNeg ((lcI (lcUI (lcUI (lcUI (lcUI z 82 x6.toNatClampNeg a1) 83 x6.toNatClampNeg 0) 87 x6.toNatClampNeg (-1)) 88 x6.toNatClampNeg 0) 89 (0 : Int32).toNatClampNeg) + 1)))))))
set_option maxHeartbeats 4000000 in
set_option maxRecDepth 100000 in
theorem cQ_part (l : Launch) (G : lc_G) {a1 : Int32} {r : Int32} {z z' : lc_S} (hf : fQ_part a1 z = some (r, z')) : lc_M l G yQ_part wQ_part 0 [.ref (lc_ad G 80), .int a1] z (some (.int r)) z' := by
  refine lc_M_of (cc := prog_10_method_15_code) (maxL := 3) (ret := (some .int)) (own := "LinearCellsModel") (by decide) rfl (fun w h => List.mem_cons_of_mem _ h) (Nat.le_of_ble_eq_true rfl) rfl ?_
  intro p e s m below meth c hx hb hml hr hlocks hown hts hE ls hl hH
  replace hl : lv_has ls 3 [(0, .ref (lc_ad G 80)), (1, .int a1)] := hl
  rw [fQ_part] at hf
  refine lv_aload_n hx hb dQ_part_0 rfl (lv_at hl 0 rfl) ?_
  refine lc_getf (d := 9) (q := 89) hx hb hts hown hE hH flQ_35 lc_h80 rfl rfl dQ_part_1 ?_
  refine lv_iconst (v := 0) hx hb dQ_part_4 (by decide) ?_
  refine lc_iald hx hb hE hH lc_h89 rfl (by decide) dQ_part_5 ?_
  refine lv_topi (fun x6 e6 => ?_)
  replace hf := lc_let_of e6 hf
  refine lv_istore_n hx hb dQ_part_6 rfl hl (by decide) rfl (fun ls hl => ?_)
  replace hl : lv_has ls 3 [(2, .int x6), (0, .ref (lc_ad G 80)), (1, .int a1)] := hl
  refine lv_aload_n hx hb dQ_part_7 rfl (lv_at hl 1 rfl) ?_
  refine lc_getf (d := 2) (q := 82) hx hb hts hown hE hH flQ_13 lc_h80 rfl rfl dQ_part_8 ?_
  refine lv_iload_n hx hb dQ_part_11 rfl (lv_at hl 0 rfl) ?_
  refine lv_iload_n hx hb dQ_part_12 rfl (lv_at hl 2 rfl) ?_
  obtain ⟨hi13, hf⟩ := lc_chk_some hf
  refine lc_iast hx hb hE hH lc_h82 rfl hi13 dQ_part_13 (fun H locs hH => ?_)
  refine lv_aload_n hx hb dQ_part_14 rfl (lv_at hl 1 rfl) ?_
  refine lc_getf (d := 3) (q := 83) hx hb hts hown hE hH flQ_16 lc_h80 rfl rfl dQ_part_15 ?_
  refine lv_iload_n hx hb dQ_part_18 rfl (lv_at hl 0 rfl) ?_
  refine lv_iconst (v := 0) hx hb dQ_part_19 (by decide) ?_
  obtain ⟨hi20, hf⟩ := lc_chk_some hf
  refine lc_iast hx hb hE hH lc_h83 rfl hi20 dQ_part_20 (fun H locs hH => ?_)
  refine lv_aload_n hx hb dQ_part_21 rfl (lv_at hl 1 rfl) ?_
  refine lc_getf (d := 7) (q := 87) hx hb hts hown hE hH flQ_28 lc_h80 rfl rfl dQ_part_22 ?_
  refine lv_iload_n hx hb dQ_part_25 rfl (lv_at hl 0 rfl) ?_
  refine lv_iconst (v := (-1)) hx hb dQ_part_26 (by decide) ?_
  obtain ⟨hi27, hf⟩ := lc_chk_some hf
  refine lc_iast hx hb hE hH lc_h87 rfl hi27 dQ_part_27 (fun H locs hH => ?_)
  refine lv_aload_n hx hb dQ_part_28 rfl (lv_at hl 1 rfl) ?_
  refine lc_getf (d := 8) (q := 88) hx hb hts hown hE hH flQ_31 lc_h80 rfl rfl dQ_part_29 ?_
  refine lv_iload_n hx hb dQ_part_32 rfl (lv_at hl 0 rfl) ?_
  refine lv_iconst (v := 0) hx hb dQ_part_33 (by decide) ?_
  obtain ⟨hi34, hf⟩ := lc_chk_some hf
  refine lc_zast hx hb hE hH lc_h88 rfl hi34 (by decide) dQ_part_34 (fun H locs hH => ?_)
  refine lv_aload_n hx hb dQ_part_35 rfl (lv_at hl 1 rfl) ?_
  refine lc_getf (d := 9) (q := 89) hx hb hts hown hE hH flQ_35 lc_h80 rfl rfl dQ_part_36 ?_
  refine lv_iconst (v := 0) hx hb dQ_part_39 (by decide) ?_
  refine lv_dup2_11 hx hb dQ_part_40 rfl rfl ?_
  refine lc_iald hx hb hE hH lc_h89 rfl (by decide) dQ_part_41 ?_
  refine lv_iconst (v := 1) hx hb dQ_part_42 (by decide) ?_
  refine lv_iadd hx hb dQ_part_43 ?_
  refine lc_iast hx hb hE hH lc_h89 rfl (by decide) dQ_part_44 (fun H locs hH => ?_)
  refine lv_iload_n hx hb dQ_part_45 rfl (lv_at hl 0 rfl) ?_
  exact lc_iret hx hb hr hlocks hH hf dQ_part_46
theorem dQ_bind_0 : decode prog_10_method_16_code 0 = .ok (.aload_n 0, 1) := by decide +kernel
theorem dQ_bind_1 : decode prog_10_method_16_code 1 = .ok (.getfield 50, 3) := by decide +kernel
theorem dQ_bind_4 : decode prog_10_method_16_code 4 = .ok (.aload_n 0, 1) := by decide +kernel
theorem dQ_bind_5 : decode prog_10_method_16_code 5 = .ok (.getfield 179, 3) := by decide +kernel
theorem dQ_bind_8 : decode prog_10_method_16_code 8 = .ok (.iload_n 1, 1) := by decide +kernel
theorem dQ_bind_9 : decode prog_10_method_16_code 9 = .ok (.iastore, 1) := by decide +kernel
theorem dQ_bind_10 : decode prog_10_method_16_code 10 = .ok (.aload_n 0, 1) := by decide +kernel
theorem dQ_bind_11 : decode prog_10_method_16_code 11 = .ok (.getfield 53, 3) := by decide +kernel
theorem dQ_bind_14 : decode prog_10_method_16_code 14 = .ok (.aload_n 0, 1) := by decide +kernel
theorem dQ_bind_15 : decode prog_10_method_16_code 15 = .ok (.getfield 179, 3) := by decide +kernel
theorem dQ_bind_18 : decode prog_10_method_16_code 18 = .ok (.iload_n 2, 1) := by decide +kernel
theorem dQ_bind_19 : decode prog_10_method_16_code 19 = .ok (.iastore, 1) := by decide +kernel
theorem dQ_bind_20 : decode prog_10_method_16_code 20 = .ok (.aload_n 0, 1) := by decide +kernel
theorem dQ_bind_21 : decode prog_10_method_16_code 21 = .ok (.getfield 56, 3) := by decide +kernel
theorem dQ_bind_24 : decode prog_10_method_16_code 24 = .ok (.aload_n 0, 1) := by decide +kernel
theorem dQ_bind_25 : decode prog_10_method_16_code 25 = .ok (.getfield 179, 3) := by decide +kernel
theorem dQ_bind_28 : decode prog_10_method_16_code 28 = .ok (.iload_n 3, 1) := by decide +kernel
theorem dQ_bind_29 : decode prog_10_method_16_code 29 = .ok (.bastore, 1) := by decide +kernel
theorem dQ_bind_30 : decode prog_10_method_16_code 30 = .ok (.aload_n 0, 1) := by decide +kernel
theorem dQ_bind_31 : decode prog_10_method_16_code 31 = .ok (.dup, 1) := by decide +kernel
theorem dQ_bind_32 : decode prog_10_method_16_code 32 = .ok (.getfield 179, 3) := by decide +kernel
theorem dQ_bind_35 : decode prog_10_method_16_code 35 = .ok (.iconst 1, 1) := by decide +kernel
theorem dQ_bind_36 : decode prog_10_method_16_code 36 = .ok (.iadd, 1) := by decide +kernel
theorem dQ_bind_37 : decode prog_10_method_16_code 37 = .ok (.putfield 179, 3) := by decide +kernel
theorem dQ_bind_40 : decode prog_10_method_16_code 40 = .ok (.return_, 1) := by decide +kernel
def fQ_bind (a1 : Int32) (a2 : Int32) (a3 : Int32) (z : lc_S) : Option ((Unit) × lc_S) :=
  lc_chk (lc_in (lcI z 80 19) 64) (lc_chk (lc_in (lcI (lcUI z 94 (lcI z 80 19).toNatClampNeg a1) 80 19) 64) (lc_chk (lc_in (lcI (lcUI (lcUI z 94 (lcI z 80 19).toNatClampNeg a1) 95 (lcI (lcUI z 94 (lcI z 80 19).toNatClampNeg a1) 80 19).toNatClampNeg a2) 80 19) 64) (lc_chk (vp_nar .boolean a3 = a3) (some ((), lcUI (lcUI (lcUI (lcUI z 94 (lcI z 80 19).toNatClampNeg a1) 95 (lcI (lcUI z 94 (lcI z 80 19).toNatClampNeg a1) 80 19).toNatClampNeg a2) 96 (lcI (lcUI (lcUI z 94 (lcI z 80 19).toNatClampNeg a1) 95 (lcI (lcUI z 94 (lcI z 80 19).toNatClampNeg a1) 80 19).toNatClampNeg a2) 80 19).toNatClampNeg a3) 80 19 ((lcI (lcUI (lcUI (lcUI z 94 (lcI z 80 19).toNatClampNeg a1) 95 (lcI (lcUI z 94 (lcI z 80 19).toNatClampNeg a1) 80 19).toNatClampNeg a2) 96 (lcI (lcUI (lcUI z 94 (lcI z 80 19).toNatClampNeg a1) 95 (lcI (lcUI z 94 (lcI z 80 19).toNatClampNeg a1) 80 19).toNatClampNeg a2) 80 19).toNatClampNeg a3) 80 19) + 1))))))
set_option maxHeartbeats 4000000 in
set_option maxRecDepth 100000 in
theorem cQ_bind (l : Launch) (G : lc_G) {a1 : Int32} {a2 : Int32} {a3 : Int32} {r : Unit} {z z' : lc_S} (hf : fQ_bind a1 a2 a3 z = some (r, z')) : lc_M l G yQ_bind wQ_bind 0 [.ref (lc_ad G 80), .int a1, .int a2, .int a3] z none z' := by
  refine lc_M_of (cc := prog_10_method_16_code) (maxL := 4) (ret := none) (own := "LinearCellsModel") (by decide) rfl (fun w h => List.mem_cons_of_mem _ h) (Nat.le_of_ble_eq_true rfl) rfl ?_
  intro p e s m below meth c hx hb hml hr hlocks hown hts hE ls hl hH
  replace hl : lv_has ls 4 [(0, .ref (lc_ad G 80)), (1, .int a1), (2, .int a2), (3, .int a3)] := hl
  rw [fQ_bind] at hf
  refine lv_aload_n hx hb dQ_bind_0 rfl (lv_at hl 0 rfl) ?_
  refine lc_getf (d := 14) (q := 94) hx hb hts hown hE hH flQ_50 lc_h80 rfl rfl dQ_bind_1 ?_
  refine lv_aload_n hx hb dQ_bind_4 rfl (lv_at hl 0 rfl) ?_
  refine lc_geti hx hb hts hown hE hH flQ_179 lc_h80 rfl dQ_bind_5 ?_
  refine lv_iload_n hx hb dQ_bind_8 rfl (lv_at hl 1 rfl) ?_
  obtain ⟨hi9, hf⟩ := lc_chk_some hf
  refine lc_iast hx hb hE hH lc_h94 rfl hi9 dQ_bind_9 (fun H locs hH => ?_)
  refine lv_aload_n hx hb dQ_bind_10 rfl (lv_at hl 0 rfl) ?_
  refine lc_getf (d := 15) (q := 95) hx hb hts hown hE hH flQ_53 lc_h80 rfl rfl dQ_bind_11 ?_
  refine lv_aload_n hx hb dQ_bind_14 rfl (lv_at hl 0 rfl) ?_
  refine lc_geti hx hb hts hown hE hH flQ_179 lc_h80 rfl dQ_bind_15 ?_
  refine lv_iload_n hx hb dQ_bind_18 rfl (lv_at hl 2 rfl) ?_
  obtain ⟨hi19, hf⟩ := lc_chk_some hf
  refine lc_iast hx hb hE hH lc_h95 rfl hi19 dQ_bind_19 (fun H locs hH => ?_)
  refine lv_aload_n hx hb dQ_bind_20 rfl (lv_at hl 0 rfl) ?_
  refine lc_getf (d := 16) (q := 96) hx hb hts hown hE hH flQ_56 lc_h80 rfl rfl dQ_bind_21 ?_
  refine lv_aload_n hx hb dQ_bind_24 rfl (lv_at hl 0 rfl) ?_
  refine lc_geti hx hb hts hown hE hH flQ_179 lc_h80 rfl dQ_bind_25 ?_
  refine lv_iload_n hx hb dQ_bind_28 rfl (lv_at hl 3 rfl) ?_
  obtain ⟨hi29, hf⟩ := lc_chk_some hf
  obtain ⟨hn29, hf⟩ := lc_chk_some hf
  refine lc_zast hx hb hE hH lc_h96 rfl hi29 hn29 dQ_bind_29 (fun H locs hH => ?_)
  refine lv_aload_n hx hb dQ_bind_30 rfl (lv_at hl 0 rfl) ?_
  refine lv_dup hx hb dQ_bind_31 rfl ?_
  refine lc_geti hx hb hts hown hE hH flQ_179 lc_h80 rfl dQ_bind_32 ?_
  refine lv_iconst (v := 1) hx hb dQ_bind_35 (by decide) ?_
  refine lv_iadd hx hb dQ_bind_36 ?_
  refine lc_puti hx hb hts hown hE hH fpQ_179 lc_h80 rfl rfl rfl dQ_bind_37 (fun H locs hH => ?_)
  exact lc_vret hx hb hr hlocks hH hf dQ_bind_40
theorem dQ_variable_0 : decode prog_10_method_19_code 0 = .ok (.aload_n 0, 1) := by decide +kernel
theorem dQ_variable_1 : decode prog_10_method_19_code 1 = .ok (.bipush 120, 2) := by decide +kernel
theorem dQ_variable_3 : decode prog_10_method_19_code 3 = .ok (.invokevirtual 206, 3) := by decide +kernel
theorem dQ_variable_6 : decode prog_10_method_19_code 6 = .ok (.istore_n 2, 1) := by decide +kernel
theorem dQ_variable_7 : decode prog_10_method_19_code 7 = .ok (.aload_n 0, 1) := by decide +kernel
theorem dQ_variable_8 : decode prog_10_method_19_code 8 = .ok (.getfield 179, 3) := by decide +kernel
theorem dQ_variable_11 : decode prog_10_method_19_code 11 = .ok (.iconst 1, 1) := by decide +kernel
theorem dQ_variable_12 : decode prog_10_method_19_code 12 = .ok (.isub, 1) := by decide +kernel
theorem dQ_variable_13 : decode prog_10_method_19_code 13 = .ok (.istore_n 3, 1) := by decide +kernel
theorem dQ_variable_14 : decode prog_10_method_19_code 14 = .ok (.iload_n 3, 1) := by decide +kernel
theorem dQ_variable_15 : decode prog_10_method_19_code 15 = .ok (.ifCond .lt 19, 3) := by decide +kernel
theorem dQ_variable_18 : decode prog_10_method_19_code 18 = .ok (.aload_n 0, 1) := by decide +kernel
theorem dQ_variable_19 : decode prog_10_method_19_code 19 = .ok (.getfield 50, 3) := by decide +kernel
theorem dQ_variable_22 : decode prog_10_method_19_code 22 = .ok (.iload_n 3, 1) := by decide +kernel
theorem dQ_variable_23 : decode prog_10_method_19_code 23 = .ok (.iaload, 1) := by decide +kernel
theorem dQ_variable_24 : decode prog_10_method_19_code 24 = .ok (.iload_n 1, 1) := by decide +kernel
theorem dQ_variable_25 : decode prog_10_method_19_code 25 = .ok (.if_icmp .eq 9, 3) := by decide +kernel
theorem dQ_variable_28 : decode prog_10_method_19_code 28 = .ok (.iinc 3 (-1), 3) := by decide +kernel
theorem dQ_variable_31 : decode prog_10_method_19_code 31 = .ok (.goto (-17), 3) := by decide +kernel
theorem dQ_variable_34 : decode prog_10_method_19_code 34 = .ok (.aload_n 0, 1) := by decide +kernel
theorem dQ_variable_35 : decode prog_10_method_19_code 35 = .ok (.aload_n 0, 1) := by decide +kernel
theorem dQ_variable_36 : decode prog_10_method_19_code 36 = .ok (.getfield 182, 3) := by decide +kernel
theorem dQ_variable_39 : decode prog_10_method_19_code 39 = .ok (.ifCond .ne 7, 3) := by decide +kernel
theorem dQ_variable_42 : decode prog_10_method_19_code 42 = .ok (.iload_n 3, 1) := by decide +kernel
theorem dQ_variable_43 : decode prog_10_method_19_code 43 = .ok (.ifCond .ge 7, 3) := by decide +kernel
theorem dQ_variable_46 : decode prog_10_method_19_code 46 = .ok (.iconst 1, 1) := by decide +kernel
theorem dQ_variable_47 : decode prog_10_method_19_code 47 = .ok (.goto 4, 3) := by decide +kernel
theorem dQ_variable_50 : decode prog_10_method_19_code 50 = .ok (.iconst 0, 1) := by decide +kernel
theorem dQ_variable_51 : decode prog_10_method_19_code 51 = .ok (.putfield 182, 3) := by decide +kernel
theorem dQ_variable_54 : decode prog_10_method_19_code 54 = .ok (.iload_n 3, 1) := by decide +kernel
theorem dQ_variable_55 : decode prog_10_method_19_code 55 = .ok (.ifCond .ge 5, 3) := by decide +kernel
theorem dQ_variable_58 : decode prog_10_method_19_code 58 = .ok (.iload_n 2, 1) := by decide +kernel
theorem dQ_variable_59 : decode prog_10_method_19_code 59 = .ok (.ireturn, 1) := by decide +kernel
theorem dQ_variable_60 : decode prog_10_method_19_code 60 = .ok (.aload_n 0, 1) := by decide +kernel
theorem dQ_variable_61 : decode prog_10_method_19_code 61 = .ok (.getfield 28, 3) := by decide +kernel
theorem dQ_variable_64 : decode prog_10_method_19_code 64 = .ok (.iload_n 2, 1) := by decide +kernel
theorem dQ_variable_65 : decode prog_10_method_19_code 65 = .ok (.aload_n 0, 1) := by decide +kernel
theorem dQ_variable_66 : decode prog_10_method_19_code 66 = .ok (.getfield 53, 3) := by decide +kernel
theorem dQ_variable_69 : decode prog_10_method_19_code 69 = .ok (.iload_n 3, 1) := by decide +kernel
theorem dQ_variable_70 : decode prog_10_method_19_code 70 = .ok (.iaload, 1) := by decide +kernel
theorem dQ_variable_71 : decode prog_10_method_19_code 71 = .ok (.iastore, 1) := by decide +kernel
theorem dQ_variable_72 : decode prog_10_method_19_code 72 = .ok (.aload_n 0, 1) := by decide +kernel
theorem dQ_variable_73 : decode prog_10_method_19_code 73 = .ok (.getfield 31, 3) := by decide +kernel
theorem dQ_variable_76 : decode prog_10_method_19_code 76 = .ok (.iload_n 2, 1) := by decide +kernel
theorem dQ_variable_77 : decode prog_10_method_19_code 77 = .ok (.aload_n 0, 1) := by decide +kernel
theorem dQ_variable_78 : decode prog_10_method_19_code 78 = .ok (.getfield 56, 3) := by decide +kernel
theorem dQ_variable_81 : decode prog_10_method_19_code 81 = .ok (.iload_n 3, 1) := by decide +kernel
theorem dQ_variable_82 : decode prog_10_method_19_code 82 = .ok (.baload, 1) := by decide +kernel
theorem dQ_variable_83 : decode prog_10_method_19_code 83 = .ok (.bastore, 1) := by decide +kernel
theorem dQ_variable_84 : decode prog_10_method_19_code 84 = .ok (.iload_n 2, 1) := by decide +kernel
theorem dQ_variable_85 : decode prog_10_method_19_code 85 = .ok (.ireturn, 1) := by decide +kernel
def fQ_variable_51 (x2 : Int32) (x3 : Int32) (t1 : Int32) (z : lc_S) : Option ((Int32) × lc_S) :=
  lc_chk (lc_zok t1) (if 0 ≤ x3 then (lc_chk (lc_in x3 64) (lc_chk (lc_in x2 600) (lc_chk (lc_in x3 64) (lc_chk (lc_in x2 600) (lc_chk (vp_nar .boolean (lcI (lcUI (lcUI z 80 15 t1) 87 x2.toNatClampNeg (lcI (lcUI z 80 15 t1) 95 x3.toNatClampNeg)) 96 x3.toNatClampNeg) = (lcI (lcUI (lcUI z 80 15 t1) 87 x2.toNatClampNeg (lcI (lcUI z 80 15 t1) 95 x3.toNatClampNeg)) 96 x3.toNatClampNeg)) (some (x2, lcUI (lcUI (lcUI z 80 15 t1) 87 x2.toNatClampNeg (lcI (lcUI z 80 15 t1) 95 x3.toNatClampNeg)) 88 x2.toNatClampNeg (lcI (lcUI (lcUI z 80 15 t1) 87 x2.toNatClampNeg (lcI (lcUI z 80 15 t1) 95 x3.toNatClampNeg)) 96 x3.toNatClampNeg)))))))) else (some (x2, lcUI z 80 15 t1)))
def fQ_variable_46 (x2 : Int32) (x3 : Int32) (z : lc_S) : Option ((Int32) × lc_S) :=
  fQ_variable_51 x2 x3 1 z
def fQ_variable_34 (x2 : Int32) (x3 : Int32) (z : lc_S) : Option ((Int32) × lc_S) :=
  if (lcI z 80 15) = 0 then (if 0 ≤ x3 then (fQ_variable_51 x2 x3 0 z) else (fQ_variable_46 x2 x3 z)) else (fQ_variable_46 x2 x3 z)
def fQ_variable_14 : Nat → Int32 → Int32 → Int32 → lc_S → Option ((Int32) × lc_S)
  | 0, _, _, _, _ => none
  | n + 1, x1, x2, x3, z => if x3 < 0 then (fQ_variable_34 x2 x3 z) else (lc_chk (lc_in x3 64) (if (lcI z 94 x3.toNatClampNeg) = x1 then (fQ_variable_34 x2 x3 z) else (lc_let (x3 + (-1)) (fun x28 => fQ_variable_14 n x1 x2 x28 z))))
def fQ_variable (a1 : Int32) (z : lc_S) : Option ((Int32) × lc_S) :=
  lc_bnd (fQ_part 120 z) (fun r3 z3 => lc_let ((lcI z3 80 19) - 1) (fun x13 => fQ_variable_14 lc_FU a1 r3 x13 z3))
set_option maxHeartbeats 4000000 in
set_option maxRecDepth 100000 in
theorem bQ_variable_51 {p : Program} {l : Launch} {e : Env} {s : State} {m : MethodId} {args : Array Value} {below : List Frame} {meth : Method} {c : Code} {G : lc_G} (hx : p.tables.exec = Jvm.exec) (hb : c.code = prog_10_method_19_code) (hml : c.maxLocals = 4) (hr : meth.sig.returnType = (some .int)) (hlocks : meth.locks = false) (hown : s.vm.findClass "LinearCellsModel" = some m.cls) (hts : ∀ w ∈ lc_ALL, w.before args s = true) (hE : lc_E G s) {r : Int32} {z' : lc_S} : ∀ {x2 : Int32} {x3 : Int32} {t1 : Int32} {z : lc_S} {H : Heap} {locs : List Loc} {ls : Array Slot}, fQ_variable_51 x2 x3 t1 z = some (r, z') → lv_has ls 4 [(0, .ref (lc_ad G 80)), (2, .int x2), (3, .int x3)] → lc_H G z s.heap H locs → W p l e (lc_rm 1) s m args below meth c H locs 0 0 (MQ below (lc_Q G (some (.int r)) z') args s 0 0 (lc_A G)) (F0 m 51 ls [.int t1, .ref (lc_ad G 80)]) := by
  intro x2 x3 t1 z H locs ls hf hl hH
  rw [fQ_variable_51] at hf
  obtain ⟨hz51, hf⟩ := lc_chk_some hf
  refine lc_puti hx hb hts hown hE hH fpQ_182 lc_h80 rfl (lc_zn hz51) (lc_zf hz51) dQ_variable_51 (fun H locs hH => ?_)
  refine lv_iload_n hx hb dQ_variable_54 rfl (lv_at hl 2 rfl) ?_
  refine lv_if_ge (tgt := 60) hx hb dQ_variable_55 (by decide) (fun hc => ?_) (fun hc => ?_)
  · replace hf := lc_ite_pos hc hf
    refine lv_aload_n hx hb dQ_variable_60 rfl (lv_at hl 0 rfl) ?_
    refine lc_getf (d := 7) (q := 87) hx hb hts hown hE hH flQ_28 lc_h80 rfl rfl dQ_variable_61 ?_
    refine lv_iload_n hx hb dQ_variable_64 rfl (lv_at hl 1 rfl) ?_
    refine lv_aload_n hx hb dQ_variable_65 rfl (lv_at hl 0 rfl) ?_
    refine lc_getf (d := 15) (q := 95) hx hb hts hown hE hH flQ_53 lc_h80 rfl rfl dQ_variable_66 ?_
    refine lv_iload_n hx hb dQ_variable_69 rfl (lv_at hl 2 rfl) ?_
    obtain ⟨hi70, hf⟩ := lc_chk_some hf
    refine lc_iald hx hb hE hH lc_h95 rfl hi70 dQ_variable_70 ?_
    obtain ⟨hi71, hf⟩ := lc_chk_some hf
    refine lc_iast hx hb hE hH lc_h87 rfl hi71 dQ_variable_71 (fun H locs hH => ?_)
    refine lv_aload_n hx hb dQ_variable_72 rfl (lv_at hl 0 rfl) ?_
    refine lc_getf (d := 8) (q := 88) hx hb hts hown hE hH flQ_31 lc_h80 rfl rfl dQ_variable_73 ?_
    refine lv_iload_n hx hb dQ_variable_76 rfl (lv_at hl 1 rfl) ?_
    refine lv_aload_n hx hb dQ_variable_77 rfl (lv_at hl 0 rfl) ?_
    refine lc_getf (d := 16) (q := 96) hx hb hts hown hE hH flQ_56 lc_h80 rfl rfl dQ_variable_78 ?_
    refine lv_iload_n hx hb dQ_variable_81 rfl (lv_at hl 2 rfl) ?_
    obtain ⟨hi82, hf⟩ := lc_chk_some hf
    refine lc_zald hx hb hE hH lc_h96 rfl hi82 dQ_variable_82 ?_
    obtain ⟨hi83, hf⟩ := lc_chk_some hf
    obtain ⟨hn83, hf⟩ := lc_chk_some hf
    refine lc_zast hx hb hE hH lc_h88 rfl hi83 hn83 dQ_variable_83 (fun H locs hH => ?_)
    refine lv_iload_n hx hb dQ_variable_84 rfl (lv_at hl 1 rfl) ?_
    exact lc_iret hx hb hr hlocks hH hf dQ_variable_85
  · replace hf := lc_ite_neg hc hf
    refine lv_iload_n hx hb dQ_variable_58 rfl (lv_at hl 1 rfl) ?_
    exact lc_iret hx hb hr hlocks hH hf dQ_variable_59
set_option maxHeartbeats 4000000 in
set_option maxRecDepth 100000 in
theorem bQ_variable_46 {p : Program} {l : Launch} {e : Env} {s : State} {m : MethodId} {args : Array Value} {below : List Frame} {meth : Method} {c : Code} {G : lc_G} (hx : p.tables.exec = Jvm.exec) (hb : c.code = prog_10_method_19_code) (hml : c.maxLocals = 4) (hr : meth.sig.returnType = (some .int)) (hlocks : meth.locks = false) (hown : s.vm.findClass "LinearCellsModel" = some m.cls) (hts : ∀ w ∈ lc_ALL, w.before args s = true) (hE : lc_E G s) {r : Int32} {z' : lc_S} : ∀ {x2 : Int32} {x3 : Int32} {z : lc_S} {H : Heap} {locs : List Loc} {ls : Array Slot}, fQ_variable_46 x2 x3 z = some (r, z') → lv_has ls 4 [(0, .ref (lc_ad G 80)), (2, .int x2), (3, .int x3)] → lc_H G z s.heap H locs → W p l e (lc_rm 1) s m args below meth c H locs 0 0 (MQ below (lc_Q G (some (.int r)) z') args s 0 0 (lc_A G)) (F0 m 46 ls [.ref (lc_ad G 80)]) := by
  intro x2 x3 z H locs ls hf hl hH
  rw [fQ_variable_46] at hf
  refine lv_iconst (v := 1) hx hb dQ_variable_46 (by decide) ?_
  refine lv_goto (tgt := 51) hx hb dQ_variable_47 (by decide) ?_
  exact bQ_variable_51 hx hb hml hr hlocks hown hts hE hf (lv_sub hl [0, 1, 2] rfl) hH
set_option maxHeartbeats 4000000 in
set_option maxRecDepth 100000 in
theorem bQ_variable_34 {p : Program} {l : Launch} {e : Env} {s : State} {m : MethodId} {args : Array Value} {below : List Frame} {meth : Method} {c : Code} {G : lc_G} (hx : p.tables.exec = Jvm.exec) (hb : c.code = prog_10_method_19_code) (hml : c.maxLocals = 4) (hr : meth.sig.returnType = (some .int)) (hlocks : meth.locks = false) (hown : s.vm.findClass "LinearCellsModel" = some m.cls) (hts : ∀ w ∈ lc_ALL, w.before args s = true) (hE : lc_E G s) {r : Int32} {z' : lc_S} : ∀ {x2 : Int32} {x3 : Int32} {z : lc_S} {H : Heap} {locs : List Loc} {ls : Array Slot}, fQ_variable_34 x2 x3 z = some (r, z') → lv_has ls 4 [(0, .ref (lc_ad G 80)), (2, .int x2), (3, .int x3)] → lc_H G z s.heap H locs → W p l e (lc_rm 1) s m args below meth c H locs 0 0 (MQ below (lc_Q G (some (.int r)) z') args s 0 0 (lc_A G)) (F0 m 34 ls []) := by
  intro x2 x3 z H locs ls hf hl hH
  rw [fQ_variable_34] at hf
  refine lv_aload_n hx hb dQ_variable_34 rfl (lv_at hl 0 rfl) ?_
  refine lv_aload_n hx hb dQ_variable_35 rfl (lv_at hl 0 rfl) ?_
  refine lc_geti hx hb hts hown hE hH flQ_182 lc_h80 rfl dQ_variable_36 ?_
  refine lv_if_ne (tgt := 46) hx hb dQ_variable_39 (by decide) (fun hc => ?_) (fun hc => ?_)
  · replace hf := lc_ite_neg hc hf
    exact bQ_variable_46 hx hb hml hr hlocks hown hts hE hf (lv_sub hl [0, 1, 2] rfl) hH
  · replace hf := lc_ite_pos hc hf
    refine lv_iload_n hx hb dQ_variable_42 rfl (lv_at hl 2 rfl) ?_
    refine lv_if_ge (tgt := 50) hx hb dQ_variable_43 (by decide) (fun hc => ?_) (fun hc => ?_)
    · replace hf := lc_ite_pos hc hf
      refine lv_iconst (v := 0) hx hb dQ_variable_50 (by decide) ?_
      exact bQ_variable_51 hx hb hml hr hlocks hown hts hE hf (lv_sub hl [0, 1, 2] rfl) hH
    · replace hf := lc_ite_neg hc hf
      exact bQ_variable_46 hx hb hml hr hlocks hown hts hE hf (lv_sub hl [0, 1, 2] rfl) hH
set_option maxHeartbeats 4000000 in
set_option maxRecDepth 100000 in
theorem bQ_variable_14 {p : Program} {l : Launch} {e : Env} {s : State} {m : MethodId} {args : Array Value} {below : List Frame} {meth : Method} {c : Code} {G : lc_G} (hx : p.tables.exec = Jvm.exec) (hb : c.code = prog_10_method_19_code) (hml : c.maxLocals = 4) (hr : meth.sig.returnType = (some .int)) (hlocks : meth.locks = false) (hown : s.vm.findClass "LinearCellsModel" = some m.cls) (hts : ∀ w ∈ lc_ALL, w.before args s = true) (hE : lc_E G s) {r : Int32} {z' : lc_S} : ∀ (n : Nat) {x1 : Int32} {x2 : Int32} {x3 : Int32} {z : lc_S} {H : Heap} {locs : List Loc} {ls : Array Slot}, fQ_variable_14 n x1 x2 x3 z = some (r, z') → lv_has ls 4 [(0, .ref (lc_ad G 80)), (1, .int x1), (2, .int x2), (3, .int x3)] → lc_H G z s.heap H locs → W p l e (lc_rm 1) s m args below meth c H locs 0 0 (MQ below (lc_Q G (some (.int r)) z') args s 0 0 (lc_A G)) (F0 m 14 ls []) := by
  intro n
  induction n with
  | zero =>
    intro x1 x2 x3 z H locs ls hf hl hH
    exact absurd (show (none : Option ((Int32) × lc_S)) = some (r, z') from hf) (fun h => by cases h)
  | succ n ih =>
    intro x1 x2 x3 z H locs ls hf hl hH
    rw [fQ_variable_14] at hf
    refine lv_iload_n hx hb dQ_variable_14 rfl (lv_at hl 3 rfl) ?_
    refine lv_if_lt (tgt := 34) hx hb dQ_variable_15 (by decide) (fun hc => ?_) (fun hc => ?_)
    · replace hf := lc_ite_pos hc hf
      exact bQ_variable_34 hx hb hml hr hlocks hown hts hE hf (lv_sub hl [0, 2, 3] rfl) hH
    · replace hf := lc_ite_neg hc hf
      refine lv_aload_n hx hb dQ_variable_18 rfl (lv_at hl 0 rfl) ?_
      refine lc_getf (d := 14) (q := 94) hx hb hts hown hE hH flQ_50 lc_h80 rfl rfl dQ_variable_19 ?_
      refine lv_iload_n hx hb dQ_variable_22 rfl (lv_at hl 3 rfl) ?_
      obtain ⟨hi23, hf⟩ := lc_chk_some hf
      refine lc_iald hx hb hE hH lc_h94 rfl hi23 dQ_variable_23 ?_
      refine lv_iload_n hx hb dQ_variable_24 rfl (lv_at hl 1 rfl) ?_
      refine lv_icmp_eq (tgt := 34) hx hb dQ_variable_25 (by decide) (fun hc => ?_) (fun hc => ?_)
      · replace hf := lc_ite_pos hc hf
        exact bQ_variable_34 hx hb hml hr hlocks hown hts hE hf (lv_sub hl [0, 2, 3] rfl) hH
      · replace hf := lc_ite_neg hc hf
        obtain ⟨x28, e28⟩ : ∃ x : Int32, x = x3 + (-1) := ⟨_, rfl⟩
        replace hf := lc_let_of e28 hf
        refine lv_iinc (k := 3) (v := x28) hx hb dQ_variable_28 hl rfl ((lc_incv _ (by decide)).trans e28.symm) (by decide) rfl (fun ls hl => ?_)
        replace hl : lv_has ls 4 [(3, .int x28), (0, .ref (lc_ad G 80)), (1, .int x1), (2, .int x2)] := hl
        refine lv_goto (tgt := 14) hx hb dQ_variable_31 (by decide) ?_
        exact ih hf (lv_sub hl [1, 2, 3, 0] rfl) hH
set_option maxHeartbeats 4000000 in
set_option maxRecDepth 100000 in
theorem cQ_variable (l : Launch) (G : lc_G) {a1 : Int32} {r : Int32} {z z' : lc_S} (hf : fQ_variable a1 z = some (r, z')) : lc_M l G yQ_variable wQ_variable 1 [.ref (lc_ad G 80), .int a1] z (some (.int r)) z' := by
  refine lc_M_of (cc := prog_10_method_19_code) (maxL := 4) (ret := (some .int)) (own := "LinearCellsModel") (by decide) rfl (fun w h => List.mem_cons_of_mem _ h) (Nat.le_of_ble_eq_true rfl) rfl ?_
  intro p e s m below meth c hx hb hml hr hlocks hown hts hE ls hl hH
  replace hl : lv_has ls 4 [(0, .ref (lc_ad G 80)), (1, .int a1)] := hl
  rw [fQ_variable] at hf
  refine lv_aload_n hx hb dQ_variable_0 rfl (lv_at hl 0 rfl) ?_
  refine lv_bipush (v := 120) hx hb dQ_variable_1 (by decide) ?_
  obtain ⟨r3, z3, h3, hf⟩ := lc_bnd_some hf
  refine lc_calli (va_runV (As := [.int 120]) (rest := []) ⟨hx, hb, hml, hown, hts⟩ (cQ_part l G h3) (lc_cwV hts kvQ_206 (lc_room (by decide) (by decide))) (lc_preV hE hH lc_h80 rfl _) rfl rfl hl.1 rfl (lv_room (Nat.le_of_ble_eq_true rfl)) dQ_variable_3 ⟨Nat.zero_le _, Nat.zero_le _⟩) hH (fun H locs hH => ?_)
  refine lv_istore_n hx hb dQ_variable_6 rfl hl (by decide) rfl (fun ls hl => ?_)
  replace hl : lv_has ls 4 [(2, .int r3), (0, .ref (lc_ad G 80)), (1, .int a1)] := hl
  refine lv_aload_n hx hb dQ_variable_7 rfl (lv_at hl 1 rfl) ?_
  refine lc_geti hx hb hts hown hE hH flQ_179 lc_h80 rfl dQ_variable_8 ?_
  refine lv_iconst (v := 1) hx hb dQ_variable_11 (by decide) ?_
  refine lv_isub hx hb dQ_variable_12 ?_
  refine lv_topi (fun x13 e13 => ?_)
  replace hf := lc_let_of e13 hf
  refine lv_istore_n hx hb dQ_variable_13 rfl hl (by decide) rfl (fun ls hl => ?_)
  replace hl : lv_has ls 4 [(3, .int x13), (2, .int r3), (0, .ref (lc_ad G 80)), (1, .int a1)] := hl
  exact bQ_variable_14 hx hb hml hr hlocks hown hts hE _ hf (lv_sub hl [2, 3, 1, 0] rfl) hH
