theorem dQ_two_0 : decode prog_10_method_46_code 0 = .ok (.iload_n 1, 1) := by decide +kernel
theorem dQ_two_1 : decode prog_10_method_46_code 1 = .ok (.bipush 44, 2) := by decide +kernel
theorem dQ_two_3 : decode prog_10_method_46_code 3 = .ok (.if_icmp .ne 11, 3) := by decide +kernel
theorem dQ_two_6 : decode prog_10_method_46_code 6 = .ok (.aload_n 0, 1) := by decide +kernel
theorem dQ_two_7 : decode prog_10_method_46_code 7 = .ok (.lload_n 2, 1) := by decide +kernel
theorem dQ_two_8 : decode prog_10_method_46_code 8 = .ok (.lload 4, 2) := by decide +kernel
theorem dQ_two_10 : decode prog_10_method_46_code 10 = .ok (.invokevirtual 336, 3) := by decide +kernel
theorem dQ_two_13 : decode prog_10_method_46_code 13 = .ok (.return_, 1) := by decide +kernel
theorem dQ_two_14 : decode prog_10_method_46_code 14 = .ok (.iload_n 1, 1) := by decide +kernel
theorem dQ_two_15 : decode prog_10_method_46_code 15 = .ok (.bipush 112, 2) := by decide +kernel
theorem dQ_two_17 : decode prog_10_method_46_code 17 = .ok (.if_icmp .ne 13, 3) := by decide +kernel
theorem dQ_two_20 : decode prog_10_method_46_code 20 = .ok (.lload_n 2, 1) := by decide +kernel
theorem dQ_two_21 : decode prog_10_method_46_code 21 = .ok (.invokestatic 340, 3) := by decide +kernel
theorem dQ_two_24 : decode prog_10_method_46_code 24 = .ok (.ifCond .eq 25, 3) := by decide +kernel
theorem dQ_two_27 : decode prog_10_method_46_code 27 = .ok (.goto 10, 3) := by decide +kernel
theorem dQ_two_30 : decode prog_10_method_46_code 30 = .ok (.lload_n 2, 1) := by decide +kernel
theorem dQ_two_31 : decode prog_10_method_46_code 31 = .ok (.invokestatic 328, 3) := by decide +kernel
theorem dQ_two_34 : decode prog_10_method_46_code 34 = .ok (.ifCond .eq 15, 3) := by decide +kernel
theorem dQ_two_37 : decode prog_10_method_46_code 37 = .ok (.lload 4, 2) := by decide +kernel
theorem dQ_two_39 : decode prog_10_method_46_code 39 = .ok (.invokestatic 328, 3) := by decide +kernel
theorem dQ_two_42 : decode prog_10_method_46_code 42 = .ok (.ifCond .eq 7, 3) := by decide +kernel
theorem dQ_two_45 : decode prog_10_method_46_code 45 = .ok (.iconst 1, 1) := by decide +kernel
theorem dQ_two_46 : decode prog_10_method_46_code 46 = .ok (.goto 4, 3) := by decide +kernel
theorem dQ_two_49 : decode prog_10_method_46_code 49 = .ok (.iconst 0, 1) := by decide +kernel
theorem dQ_two_50 : decode prog_10_method_46_code 50 = .ok (.istore 6, 2) := by decide +kernel
theorem dQ_two_52 : decode prog_10_method_46_code 52 = .ok (.iload 6, 2) := by decide +kernel
theorem dQ_two_54 : decode prog_10_method_46_code 54 = .ok (.ifCond .ne 9, 3) := by decide +kernel
theorem dQ_two_57 : decode prog_10_method_46_code 57 = .ok (.aload_n 0, 1) := by decide +kernel
theorem dQ_two_58 : decode prog_10_method_46_code 58 = .ok (.iconst 4, 1) := by decide +kernel
theorem dQ_two_59 : decode prog_10_method_46_code 59 = .ok (.invokevirtual 265, 3) := by decide +kernel
theorem dQ_two_62 : decode prog_10_method_46_code 62 = .ok (.return_, 1) := by decide +kernel
theorem dQ_two_63 : decode prog_10_method_46_code 63 = .ok (.lload_n 2, 1) := by decide +kernel
theorem dQ_two_64 : decode prog_10_method_46_code 64 = .ok (.l2i, 1) := by decide +kernel
theorem dQ_two_65 : decode prog_10_method_46_code 65 = .ok (.istore 7, 2) := by decide +kernel
theorem dQ_two_67 : decode prog_10_method_46_code 67 = .ok (.lload 4, 2) := by decide +kernel
theorem dQ_two_69 : decode prog_10_method_46_code 69 = .ok (.l2i, 1) := by decide +kernel
theorem dQ_two_70 : decode prog_10_method_46_code 70 = .ok (.istore 8, 2) := by decide +kernel
theorem dQ_two_72 : decode prog_10_method_46_code 72 = .ok (.iload_n 1, 1) := by decide +kernel
theorem dQ_two_73 : decode prog_10_method_46_code 73 = .ok (.bipush 112, 2) := by decide +kernel
theorem dQ_two_75 : decode prog_10_method_46_code 75 = .ok (.if_icmp .ne 43, 3) := by decide +kernel
theorem dQ_two_78 : decode prog_10_method_46_code 78 = .ok (.aload_n 0, 1) := by decide +kernel
theorem dQ_two_79 : decode prog_10_method_46_code 79 = .ok (.getfield 114, 3) := by decide +kernel
theorem dQ_two_82 : decode prog_10_method_46_code 82 = .ok (.iload 7, 2) := by decide +kernel
theorem dQ_two_84 : decode prog_10_method_46_code 84 = .ok (.baload, 1) := by decide +kernel
theorem dQ_two_85 : decode prog_10_method_46_code 85 = .ok (.ifCond .ne 11, 3) := by decide +kernel
theorem dQ_two_88 : decode prog_10_method_46_code 88 = .ok (.aload_n 0, 1) := by decide +kernel
theorem dQ_two_89 : decode prog_10_method_46_code 89 = .ok (.iconst 1, 1) := by decide +kernel
theorem dQ_two_90 : decode prog_10_method_46_code 90 = .ok (.invokevirtual 265, 3) := by decide +kernel
theorem dQ_two_93 : decode prog_10_method_46_code 93 = .ok (.goto 12, 3) := by decide +kernel
theorem dQ_two_96 : decode prog_10_method_46_code 96 = .ok (.aload_n 0, 1) := by decide +kernel
theorem dQ_two_97 : decode prog_10_method_46_code 97 = .ok (.getfield 117, 3) := by decide +kernel
theorem dQ_two_100 : decode prog_10_method_46_code 100 = .ok (.iload 7, 2) := by decide +kernel
theorem dQ_two_102 : decode prog_10_method_46_code 102 = .ok (.iload 8, 2) := by decide +kernel
theorem dQ_two_104 : decode prog_10_method_46_code 104 = .ok (.iastore, 1) := by decide +kernel
theorem dQ_two_105 : decode prog_10_method_46_code 105 = .ok (.aload_n 0, 1) := by decide +kernel
theorem dQ_two_106 : decode prog_10_method_46_code 106 = .ok (.getfield 259, 3) := by decide +kernel
theorem dQ_two_109 : decode prog_10_method_46_code 109 = .ok (.ifCond .ne 8, 3) := by decide +kernel
theorem dQ_two_112 : decode prog_10_method_46_code 112 = .ok (.aload_n 0, 1) := by decide +kernel
theorem dQ_two_113 : decode prog_10_method_46_code 113 = .ok (.lload_n 2, 1) := by decide +kernel
theorem dQ_two_114 : decode prog_10_method_46_code 114 = .ok (.invokevirtual 305, 3) := by decide +kernel
theorem dQ_two_117 : decode prog_10_method_46_code 117 = .ok (.return_, 1) := by decide +kernel
theorem dQ_two_118 : decode prog_10_method_46_code 118 = .ok (.aload_n 0, 1) := by decide +kernel
theorem dQ_two_119 : decode prog_10_method_46_code 119 = .ok (.iload_n 1, 1) := by decide +kernel
theorem dQ_two_120 : decode prog_10_method_46_code 120 = .ok (.bipush 43, 2) := by decide +kernel
theorem dQ_two_122 : decode prog_10_method_46_code 122 = .ok (.if_icmp .ne 12, 3) := by decide +kernel
theorem dQ_two_125 : decode prog_10_method_46_code 125 = .ok (.iload 7, 2) := by decide +kernel
theorem dQ_two_127 : decode prog_10_method_46_code 127 = .ok (.iload 8, 2) := by decide +kernel
theorem dQ_two_129 : decode prog_10_method_46_code 129 = .ok (.iadd, 1) := by decide +kernel
theorem dQ_two_130 : decode prog_10_method_46_code 130 = .ok (.i2l, 1) := by decide +kernel
theorem dQ_two_131 : decode prog_10_method_46_code 131 = .ok (.goto 45, 3) := by decide +kernel
theorem dQ_two_134 : decode prog_10_method_46_code 134 = .ok (.iload_n 1, 1) := by decide +kernel
theorem dQ_two_135 : decode prog_10_method_46_code 135 = .ok (.bipush 45, 2) := by decide +kernel
theorem dQ_two_137 : decode prog_10_method_46_code 137 = .ok (.if_icmp .ne 12, 3) := by decide +kernel
theorem dQ_two_140 : decode prog_10_method_46_code 140 = .ok (.iload 7, 2) := by decide +kernel
theorem dQ_two_142 : decode prog_10_method_46_code 142 = .ok (.iload 8, 2) := by decide +kernel
theorem dQ_two_144 : decode prog_10_method_46_code 144 = .ok (.isub, 1) := by decide +kernel
theorem dQ_two_145 : decode prog_10_method_46_code 145 = .ok (.i2l, 1) := by decide +kernel
theorem dQ_two_146 : decode prog_10_method_46_code 146 = .ok (.goto 30, 3) := by decide +kernel
theorem dQ_two_149 : decode prog_10_method_46_code 149 = .ok (.iload_n 1, 1) := by decide +kernel
theorem dQ_two_150 : decode prog_10_method_46_code 150 = .ok (.bipush 42, 2) := by decide +kernel
theorem dQ_two_152 : decode prog_10_method_46_code 152 = .ok (.if_icmp .ne 12, 3) := by decide +kernel
theorem dQ_two_155 : decode prog_10_method_46_code 155 = .ok (.iload 7, 2) := by decide +kernel
theorem dQ_two_157 : decode prog_10_method_46_code 157 = .ok (.iload 8, 2) := by decide +kernel
theorem dQ_two_159 : decode prog_10_method_46_code 159 = .ok (.imul, 1) := by decide +kernel
theorem dQ_two_160 : decode prog_10_method_46_code 160 = .ok (.i2l, 1) := by decide +kernel
theorem dQ_two_161 : decode prog_10_method_46_code 161 = .ok (.goto 15, 3) := by decide +kernel
theorem dQ_two_164 : decode prog_10_method_46_code 164 = .ok (.iload 7, 2) := by decide +kernel
theorem dQ_two_166 : decode prog_10_method_46_code 166 = .ok (.iload 8, 2) := by decide +kernel
theorem dQ_two_168 : decode prog_10_method_46_code 168 = .ok (.if_icmp .ge 7, 3) := by decide +kernel
theorem dQ_two_171 : decode prog_10_method_46_code 171 = .ok (.lconst 1, 1) := by decide +kernel
theorem dQ_two_172 : decode prog_10_method_46_code 172 = .ok (.goto 4, 3) := by decide +kernel
theorem dQ_two_175 : decode prog_10_method_46_code 175 = .ok (.lconst 0, 1) := by decide +kernel
theorem dQ_two_176 : decode prog_10_method_46_code 176 = .ok (.invokestatic 286, 3) := by decide +kernel
theorem dQ_two_179 : decode prog_10_method_46_code 179 = .ok (.invokevirtual 305, 3) := by decide +kernel
theorem dQ_two_182 : decode prog_10_method_46_code 182 = .ok (.return_, 1) := by decide +kernel
def fQ_two_105 (x2 : Int64) (z : lc_S) : Option ((Unit) × lc_S) :=
  if (lcI z 80 45) = 0 then (lc_bnd (fQ_answer x2 z) (fun r114 z114 => some ((), z114))) else (some ((), z))
def fQ_two_176 (t1 : Int64) (z : lc_S) : Option ((Unit) × lc_S) :=
  lc_bnd (fQ_plain t1 z) (fun r176 z176 => lc_bnd (fQ_answer r176 z176) (fun r179 z179 => some ((), z179)))
def fQ_two_50 (x1 : Int32) (x2 : Int64) (x4 : Int64) (t0 : Int32) (z : lc_S) : Option ((Unit) × lc_S) :=
  if t0 = 0 then (lc_bnd (fQ_stop 4 z) (fun r59 z59 => some ((), z59))) else (lc_let x2.toInt32 (fun x65 => lc_let x4.toInt32 (fun x70 => if x1 = 112 then (lc_chk (lc_in x65 12) (if (lcI z 115 x65.toNatClampNeg) = 0 then (lc_bnd (fQ_stop 1 z) (fun r90 z90 => fQ_two_105 x2 z90)) else (lc_chk (lc_in x65 12) (fQ_two_105 x2 (lcUI z 116 x65.toNatClampNeg x70))))) else (if x1 = 43 then (fQ_two_176 ((x65 + x70).toInt64) z) else (if x1 = 45 then (fQ_two_176 ((x65 - x70).toInt64) z) else (if x1 = 42 then (fQ_two_176 ((x65 * x70).toInt64) z) else (if x70 ≤ x65 then (fQ_two_176 0 z) else (fQ_two_176 1 z))))))))
def fQ_two_49 (x1 : Int32) (x2 : Int64) (x4 : Int64) (z : lc_S) : Option ((Unit) × lc_S) :=
  fQ_two_50 x1 x2 x4 0 z
def fQ_two_37 (x1 : Int32) (x2 : Int64) (x4 : Int64) (z : lc_S) : Option ((Unit) × lc_S) :=
  lc_bnd (fQ_isNumber x4 z) (fun r39 z39 => if r39 = 0 then (fQ_two_49 x1 x2 x4 z39) else (fQ_two_50 x1 x2 x4 1 z39))
def fQ_two (a1 : Int32) (a2 : Int64) (a4 : Int64) (z : lc_S) : Option ((Unit) × lc_S) :=
  if a1 = 44 then (lc_bnd (fQ_pairUp a2 a4 z) (fun r10 z10 => some ((), z10))) else (if a1 = 112 then (lc_bnd (fQ_isCell a2 z) (fun r21 z21 => if r21 = 0 then (fQ_two_49 a1 a2 a4 z21) else (fQ_two_37 a1 a2 a4 z21))) else (lc_bnd (fQ_isNumber a2 z) (fun r31 z31 => if r31 = 0 then (fQ_two_49 a1 a2 a4 z31) else (fQ_two_37 a1 a2 a4 z31))))
set_option maxHeartbeats 4000000 in
set_option maxRecDepth 100000 in
theorem bQ_two_105 {p : Program} {l : Launch} {e : Env} {s : State} {m : MethodId} {args : Array Value} {below : List Frame} {meth : Method} {c : Code} {G : lc_G} (hx : p.tables.exec = Jvm.exec) (hb : c.code = prog_10_method_46_code) (hml : c.maxLocals = 9) (hr : meth.sig.returnType = none) (hlocks : meth.locks = false) (hown : s.vm.findClass "LinearCellsModel" = some m.cls) (hts : ∀ w ∈ lc_ALL, w.before args s = true) (hE : lc_E G s) {r : Unit} {z' : lc_S} : ∀ {x2 : Int64} {z : lc_S} {H : Heap} {locs : List Loc} {ls : Array Slot}, fQ_two_105 x2 z = some (r, z') → lv_has ls 9 [(0, .ref (lc_ad G 80)), (2, .long x2)] → lc_H G z s.heap H locs → W p l e (lc_rm 2) s m args below meth c H locs 0 0 (MQ below (lc_Q G none z') args s 0 0 (lc_A G)) (F0 m 105 ls []) := by
  intro x2 z H locs ls hf hl hH
  rw [fQ_two_105] at hf
  refine lv_aload_n hx hb dQ_two_105 rfl (lv_at hl 0 rfl) ?_
  refine lc_geti hx hb hts hown hE hH flQ_259 lc_h80 rfl dQ_two_106 ?_
  refine lv_if_ne (tgt := 117) hx hb dQ_two_109 (by decide) (fun hc => ?_) (fun hc => ?_)
  · replace hf := lc_ite_neg hc hf
    exact lc_vret hx hb hr hlocks hH hf dQ_two_117
  · replace hf := lc_ite_pos hc hf
    refine lv_aload_n hx hb dQ_two_112 rfl (lv_at hl 0 rfl) ?_
    refine lv_lload_n hx hb dQ_two_113 rfl (lv_at hl 1 rfl) ?_
    obtain ⟨r114, z114, h114, hf⟩ := lc_bnd_some hf
    refine lc_callv (va_runV (As := [.long x2]) (rest := []) ⟨hx, hb, hml, hown, hts⟩ (cQ_answer l G h114) (lc_cwV hts kvQ_305 (lc_room (by decide) (by decide))) (lc_preV hE hH lc_h80 rfl _) rfl rfl hl.1 rfl (lv_room (Nat.le_of_ble_eq_true rfl)) dQ_two_114 ⟨Nat.zero_le _, Nat.zero_le _⟩) hH (fun H locs hH => ?_)
    exact lc_vret hx hb hr hlocks hH hf dQ_two_117
set_option maxHeartbeats 4000000 in
set_option maxRecDepth 100000 in
theorem bQ_two_176 {p : Program} {l : Launch} {e : Env} {s : State} {m : MethodId} {args : Array Value} {below : List Frame} {meth : Method} {c : Code} {G : lc_G} (hx : p.tables.exec = Jvm.exec) (hb : c.code = prog_10_method_46_code) (hml : c.maxLocals = 9) (hr : meth.sig.returnType = none) (hlocks : meth.locks = false) (hown : s.vm.findClass "LinearCellsModel" = some m.cls) (hts : ∀ w ∈ lc_ALL, w.before args s = true) (hE : lc_E G s) {r : Unit} {z' : lc_S} : ∀ {t1 : Int64} {z : lc_S} {H : Heap} {locs : List Loc} {ls : Array Slot}, fQ_two_176 t1 z = some (r, z') → lv_has ls 9 [] → lc_H G z s.heap H locs → W p l e (lc_rm 2) s m args below meth c H locs 0 0 (MQ below (lc_Q G none z') args s 0 0 (lc_A G)) (F0 m 176 ls [.long t1, .ref (lc_ad G 80)]) := by
  intro t1 z H locs ls hf hl hH
  rw [fQ_two_176] at hf
  obtain ⟨r176, z176, h176, hf⟩ := lc_bnd_some hf
  refine lc_calll (va_runS (As := [.long t1]) (rest := [.ref (lc_ad G 80)]) ⟨hx, hb, hml, hown, hts⟩ (cQ_plain l G h176) (lc_cwS hts ksQ_286 (lc_room (by decide) (by decide))) (lc_preS hE hH _) rfl rfl hl.1 rfl (lv_room (Nat.le_of_ble_eq_true rfl)) dQ_two_176 ⟨Nat.zero_le _, Nat.zero_le _⟩) hH (fun H locs hH => ?_)
  obtain ⟨r179, z179, h179, hf⟩ := lc_bnd_some hf
  refine lc_callv (va_runV (As := [.long r176]) (rest := []) ⟨hx, hb, hml, hown, hts⟩ (cQ_answer l G h179) (lc_cwV hts kvQ_305 (lc_room (by decide) (by decide))) (lc_preV hE hH lc_h80 rfl _) rfl rfl hl.1 rfl (lv_room (Nat.le_of_ble_eq_true rfl)) dQ_two_179 ⟨Nat.zero_le _, Nat.zero_le _⟩) hH (fun H locs hH => ?_)
  exact lc_vret hx hb hr hlocks hH hf dQ_two_182
set_option maxHeartbeats 4000000 in
set_option maxRecDepth 100000 in
theorem bQ_two_50 {p : Program} {l : Launch} {e : Env} {s : State} {m : MethodId} {args : Array Value} {below : List Frame} {meth : Method} {c : Code} {G : lc_G} (hx : p.tables.exec = Jvm.exec) (hb : c.code = prog_10_method_46_code) (hml : c.maxLocals = 9) (hr : meth.sig.returnType = none) (hlocks : meth.locks = false) (hown : s.vm.findClass "LinearCellsModel" = some m.cls) (hts : ∀ w ∈ lc_ALL, w.before args s = true) (hE : lc_E G s) {r : Unit} {z' : lc_S} : ∀ {x1 : Int32} {x2 : Int64} {x4 : Int64} {t0 : Int32} {z : lc_S} {H : Heap} {locs : List Loc} {ls : Array Slot}, fQ_two_50 x1 x2 x4 t0 z = some (r, z') → lv_has ls 9 [(0, .ref (lc_ad G 80)), (1, .int x1), (2, .long x2), (4, .long x4)] → lc_H G z s.heap H locs → W p l e (lc_rm 2) s m args below meth c H locs 0 0 (MQ below (lc_Q G none z') args s 0 0 (lc_A G)) (F0 m 50 ls [.int t0]) := by
  intro x1 x2 x4 t0 z H locs ls hf hl hH
  rw [fQ_two_50] at hf
  refine lv_istore hx hb dQ_two_50 hl (by decide) rfl (fun ls hl => ?_)
  replace hl : lv_has ls 9 [(6, .int t0), (0, .ref (lc_ad G 80)), (1, .int x1), (2, .long x2), (4, .long x4)] := hl
  refine lv_iload hx hb dQ_two_52 (lv_at hl 0 rfl) ?_
  refine lv_if_ne (tgt := 63) hx hb dQ_two_54 (by decide) (fun hc => ?_) (fun hc => ?_)
  · replace hf := lc_ite_neg hc hf
    refine lv_lload_n hx hb dQ_two_63 rfl (lv_at hl 3 rfl) ?_
    refine lv_l2i hx hb dQ_two_64 rfl ?_
    refine lv_topi (fun x65 e65 => ?_)
    replace hf := lc_let_of e65 hf
    refine lv_istore hx hb dQ_two_65 hl (by decide) rfl (fun ls hl => ?_)
    replace hl : lv_has ls 9 [(7, .int x65), (6, .int t0), (0, .ref (lc_ad G 80)), (1, .int x1), (2, .long x2), (4, .long x4)] := hl
    refine lv_lload hx hb dQ_two_67 (lv_at hl 5 rfl) ?_
    refine lv_l2i hx hb dQ_two_69 rfl ?_
    refine lv_topi (fun x70 e70 => ?_)
    replace hf := lc_let_of e70 hf
    refine lv_istore hx hb dQ_two_70 hl (by decide) rfl (fun ls hl => ?_)
    replace hl : lv_has ls 9 [(8, .int x70), (7, .int x65), (6, .int t0), (0, .ref (lc_ad G 80)), (1, .int x1), (2, .long x2), (4, .long x4)] := hl
    refine lv_iload_n hx hb dQ_two_72 rfl (lv_at hl 4 rfl) ?_
    refine lv_bipush (v := 112) hx hb dQ_two_73 (by decide) ?_
    refine lv_icmp_ne (tgt := 118) hx hb dQ_two_75 (by decide) (fun hc => ?_) (fun hc => ?_)
    · replace hf := lc_ite_neg hc hf
      refine lv_aload_n hx hb dQ_two_118 rfl (lv_at hl 3 rfl) ?_
      refine lv_iload_n hx hb dQ_two_119 rfl (lv_at hl 4 rfl) ?_
      refine lv_bipush (v := 43) hx hb dQ_two_120 (by decide) ?_
      refine lv_icmp_ne (tgt := 134) hx hb dQ_two_122 (by decide) (fun hc => ?_) (fun hc => ?_)
      · replace hf := lc_ite_neg hc hf
        refine lv_iload_n hx hb dQ_two_134 rfl (lv_at hl 4 rfl) ?_
        refine lv_bipush (v := 45) hx hb dQ_two_135 (by decide) ?_
        refine lv_icmp_ne (tgt := 149) hx hb dQ_two_137 (by decide) (fun hc => ?_) (fun hc => ?_)
        · replace hf := lc_ite_neg hc hf
          refine lv_iload_n hx hb dQ_two_149 rfl (lv_at hl 4 rfl) ?_
          refine lv_bipush (v := 42) hx hb dQ_two_150 (by decide) ?_
          refine lv_icmp_ne (tgt := 164) hx hb dQ_two_152 (by decide) (fun hc => ?_) (fun hc => ?_)
          · replace hf := lc_ite_neg hc hf
            refine lv_iload hx hb dQ_two_164 (lv_at hl 1 rfl) ?_
            refine lv_iload hx hb dQ_two_166 (lv_at hl 0 rfl) ?_
            refine lv_icmp_ge (tgt := 175) hx hb dQ_two_168 (by decide) (fun hc => ?_) (fun hc => ?_)
            · replace hf := lc_ite_pos hc hf
              refine lv_lconst (v := 0) hx hb dQ_two_175 (by decide) ?_
              exact bQ_two_176 hx hb hml hr hlocks hown hts hE hf (lv_sub hl [] rfl) hH
            · replace hf := lc_ite_neg hc hf
              refine lv_lconst (v := 1) hx hb dQ_two_171 (by decide) ?_
              refine lv_goto (tgt := 176) hx hb dQ_two_172 (by decide) ?_
              exact bQ_two_176 hx hb hml hr hlocks hown hts hE hf (lv_sub hl [] rfl) hH
          · replace hf := lc_ite_pos hc hf
            refine lv_iload hx hb dQ_two_155 (lv_at hl 1 rfl) ?_
            refine lv_iload hx hb dQ_two_157 (lv_at hl 0 rfl) ?_
            refine lv_imul hx hb dQ_two_159 ?_
            refine lv_i2l hx hb dQ_two_160 rfl ?_
            refine lv_goto (tgt := 176) hx hb dQ_two_161 (by decide) ?_
            exact bQ_two_176 hx hb hml hr hlocks hown hts hE hf (lv_sub hl [] rfl) hH
        · replace hf := lc_ite_pos hc hf
          refine lv_iload hx hb dQ_two_140 (lv_at hl 1 rfl) ?_
          refine lv_iload hx hb dQ_two_142 (lv_at hl 0 rfl) ?_
          refine lv_isub hx hb dQ_two_144 ?_
          refine lv_i2l hx hb dQ_two_145 rfl ?_
          refine lv_goto (tgt := 176) hx hb dQ_two_146 (by decide) ?_
          exact bQ_two_176 hx hb hml hr hlocks hown hts hE hf (lv_sub hl [] rfl) hH
      · replace hf := lc_ite_pos hc hf
        refine lv_iload hx hb dQ_two_125 (lv_at hl 1 rfl) ?_
        refine lv_iload hx hb dQ_two_127 (lv_at hl 0 rfl) ?_
        refine lv_iadd hx hb dQ_two_129 ?_
        refine lv_i2l hx hb dQ_two_130 rfl ?_
        refine lv_goto (tgt := 176) hx hb dQ_two_131 (by decide) ?_
        exact bQ_two_176 hx hb hml hr hlocks hown hts hE hf (lv_sub hl [] rfl) hH
    · replace hf := lc_ite_pos hc hf
      refine lv_aload_n hx hb dQ_two_78 rfl (lv_at hl 3 rfl) ?_
      refine lc_getf (d := 35) (q := 115) hx hb hts hown hE hH flQ_114 lc_h80 rfl rfl dQ_two_79 ?_
      refine lv_iload hx hb dQ_two_82 (lv_at hl 1 rfl) ?_
      obtain ⟨hi84, hf⟩ := lc_chk_some hf
      refine lc_zald hx hb hE hH lc_h115 rfl hi84 dQ_two_84 ?_
      refine lv_if_ne (tgt := 96) hx hb dQ_two_85 (by decide) (fun hc => ?_) (fun hc => ?_)
      · replace hf := lc_ite_neg hc hf
        refine lv_aload_n hx hb dQ_two_96 rfl (lv_at hl 3 rfl) ?_
        refine lc_getf (d := 36) (q := 116) hx hb hts hown hE hH flQ_117 lc_h80 rfl rfl dQ_two_97 ?_
        refine lv_iload hx hb dQ_two_100 (lv_at hl 1 rfl) ?_
        refine lv_iload hx hb dQ_two_102 (lv_at hl 0 rfl) ?_
        obtain ⟨hi104, hf⟩ := lc_chk_some hf
        refine lc_iast hx hb hE hH lc_h116 rfl hi104 dQ_two_104 (fun H locs hH => ?_)
        exact bQ_two_105 hx hb hml hr hlocks hown hts hE hf (lv_sub hl [3, 5] rfl) hH
      · replace hf := lc_ite_pos hc hf
        refine lv_aload_n hx hb dQ_two_88 rfl (lv_at hl 3 rfl) ?_
        refine lv_iconst (v := 1) hx hb dQ_two_89 (by decide) ?_
        obtain ⟨r90, z90, h90, hf⟩ := lc_bnd_some hf
        refine lc_callv (va_runV (As := [.int 1]) (rest := []) ⟨hx, hb, hml, hown, hts⟩ (cQ_stop l G h90) (lc_cwV hts kvQ_265 (lc_room (by decide) (by decide))) (lc_preV hE hH lc_h80 rfl _) rfl rfl hl.1 rfl (lv_room (Nat.le_of_ble_eq_true rfl)) dQ_two_90 ⟨Nat.zero_le _, Nat.zero_le _⟩) hH (fun H locs hH => ?_)
        refine lv_goto (tgt := 105) hx hb dQ_two_93 (by decide) ?_
        exact bQ_two_105 hx hb hml hr hlocks hown hts hE hf (lv_sub hl [3, 5] rfl) hH
  · replace hf := lc_ite_pos hc hf
    refine lv_aload_n hx hb dQ_two_57 rfl (lv_at hl 1 rfl) ?_
    refine lv_iconst (v := 4) hx hb dQ_two_58 (by decide) ?_
    obtain ⟨r59, z59, h59, hf⟩ := lc_bnd_some hf
    refine lc_callv (va_runV (As := [.int 4]) (rest := []) ⟨hx, hb, hml, hown, hts⟩ (cQ_stop l G h59) (lc_cwV hts kvQ_265 (lc_room (by decide) (by decide))) (lc_preV hE hH lc_h80 rfl _) rfl rfl hl.1 rfl (lv_room (Nat.le_of_ble_eq_true rfl)) dQ_two_59 ⟨Nat.zero_le _, Nat.zero_le _⟩) hH (fun H locs hH => ?_)
    exact lc_vret hx hb hr hlocks hH hf dQ_two_62
set_option maxHeartbeats 4000000 in
set_option maxRecDepth 100000 in
theorem bQ_two_49 {p : Program} {l : Launch} {e : Env} {s : State} {m : MethodId} {args : Array Value} {below : List Frame} {meth : Method} {c : Code} {G : lc_G} (hx : p.tables.exec = Jvm.exec) (hb : c.code = prog_10_method_46_code) (hml : c.maxLocals = 9) (hr : meth.sig.returnType = none) (hlocks : meth.locks = false) (hown : s.vm.findClass "LinearCellsModel" = some m.cls) (hts : ∀ w ∈ lc_ALL, w.before args s = true) (hE : lc_E G s) {r : Unit} {z' : lc_S} : ∀ {x1 : Int32} {x2 : Int64} {x4 : Int64} {z : lc_S} {H : Heap} {locs : List Loc} {ls : Array Slot}, fQ_two_49 x1 x2 x4 z = some (r, z') → lv_has ls 9 [(0, .ref (lc_ad G 80)), (1, .int x1), (2, .long x2), (4, .long x4)] → lc_H G z s.heap H locs → W p l e (lc_rm 2) s m args below meth c H locs 0 0 (MQ below (lc_Q G none z') args s 0 0 (lc_A G)) (F0 m 49 ls []) := by
  intro x1 x2 x4 z H locs ls hf hl hH
  rw [fQ_two_49] at hf
  refine lv_iconst (v := 0) hx hb dQ_two_49 (by decide) ?_
  exact bQ_two_50 hx hb hml hr hlocks hown hts hE hf (lv_sub hl [0, 1, 2, 3] rfl) hH
set_option maxHeartbeats 4000000 in
set_option maxRecDepth 100000 in
theorem bQ_two_37 {p : Program} {l : Launch} {e : Env} {s : State} {m : MethodId} {args : Array Value} {below : List Frame} {meth : Method} {c : Code} {G : lc_G} (hx : p.tables.exec = Jvm.exec) (hb : c.code = prog_10_method_46_code) (hml : c.maxLocals = 9) (hr : meth.sig.returnType = none) (hlocks : meth.locks = false) (hown : s.vm.findClass "LinearCellsModel" = some m.cls) (hts : ∀ w ∈ lc_ALL, w.before args s = true) (hE : lc_E G s) {r : Unit} {z' : lc_S} : ∀ {x1 : Int32} {x2 : Int64} {x4 : Int64} {z : lc_S} {H : Heap} {locs : List Loc} {ls : Array Slot}, fQ_two_37 x1 x2 x4 z = some (r, z') → lv_has ls 9 [(0, .ref (lc_ad G 80)), (1, .int x1), (2, .long x2), (4, .long x4)] → lc_H G z s.heap H locs → W p l e (lc_rm 2) s m args below meth c H locs 0 0 (MQ below (lc_Q G none z') args s 0 0 (lc_A G)) (F0 m 37 ls []) := by
  intro x1 x2 x4 z H locs ls hf hl hH
  rw [fQ_two_37] at hf
  refine lv_lload hx hb dQ_two_37 (lv_at hl 3 rfl) ?_
  obtain ⟨r39, z39, h39, hf⟩ := lc_bnd_some hf
  refine lc_calli (va_runS (As := [.long x4]) (rest := []) ⟨hx, hb, hml, hown, hts⟩ (cQ_isNumber l G h39) (lc_cwS hts ksQ_328 (lc_room (by decide) (by decide))) (lc_preS hE hH _) rfl rfl hl.1 rfl (lv_room (Nat.le_of_ble_eq_true rfl)) dQ_two_39 ⟨Nat.zero_le _, Nat.zero_le _⟩) hH (fun H locs hH => ?_)
  refine lv_if_eq (tgt := 49) hx hb dQ_two_42 (by decide) (fun hc => ?_) (fun hc => ?_)
  · replace hf := lc_ite_pos hc hf
    exact bQ_two_49 hx hb hml hr hlocks hown hts hE hf (lv_sub hl [0, 1, 2, 3] rfl) hH
  · replace hf := lc_ite_neg hc hf
    refine lv_iconst (v := 1) hx hb dQ_two_45 (by decide) ?_
    refine lv_goto (tgt := 50) hx hb dQ_two_46 (by decide) ?_
    exact bQ_two_50 hx hb hml hr hlocks hown hts hE hf (lv_sub hl [0, 1, 2, 3] rfl) hH
set_option maxHeartbeats 4000000 in
set_option maxRecDepth 100000 in
theorem cQ_two (l : Launch) (G : lc_G) {a1 : Int32} {a2 : Int64} {a4 : Int64} {r : Unit} {z z' : lc_S} (hf : fQ_two a1 a2 a4 z = some (r, z')) : lc_M l G yQ_two wQ_two 2 [.ref (lc_ad G 80), .int a1, .long a2, .long a4] z none z' := by
  refine lc_M_of (cc := prog_10_method_46_code) (maxL := 9) (ret := none) (own := "LinearCellsModel") (by decide) rfl (fun w h => List.mem_cons_of_mem _ h) (Nat.le_of_ble_eq_true rfl) rfl ?_
  intro p e s m below meth c hx hb hml hr hlocks hown hts hE ls hl hH
  replace hl : lv_has ls 9 [(0, .ref (lc_ad G 80)), (1, .int a1), (2, .long a2), (4, .long a4)] := hl
  rw [fQ_two] at hf
  refine lv_iload_n hx hb dQ_two_0 rfl (lv_at hl 1 rfl) ?_
  refine lv_bipush (v := 44) hx hb dQ_two_1 (by decide) ?_
  refine lv_icmp_ne (tgt := 14) hx hb dQ_two_3 (by decide) (fun hc => ?_) (fun hc => ?_)
  · replace hf := lc_ite_neg hc hf
    refine lv_iload_n hx hb dQ_two_14 rfl (lv_at hl 1 rfl) ?_
    refine lv_bipush (v := 112) hx hb dQ_two_15 (by decide) ?_
    refine lv_icmp_ne (tgt := 30) hx hb dQ_two_17 (by decide) (fun hc => ?_) (fun hc => ?_)
    · replace hf := lc_ite_neg hc hf
      refine lv_lload_n hx hb dQ_two_30 rfl (lv_at hl 2 rfl) ?_
      obtain ⟨r31, z31, h31, hf⟩ := lc_bnd_some hf
      refine lc_calli (va_runS (As := [.long a2]) (rest := []) ⟨hx, hb, hml, hown, hts⟩ (cQ_isNumber l G h31) (lc_cwS hts ksQ_328 (lc_room (by decide) (by decide))) (lc_preS hE hH _) rfl rfl hl.1 rfl (lv_room (Nat.le_of_ble_eq_true rfl)) dQ_two_31 ⟨Nat.zero_le _, Nat.zero_le _⟩) hH (fun H locs hH => ?_)
      refine lv_if_eq (tgt := 49) hx hb dQ_two_34 (by decide) (fun hc => ?_) (fun hc => ?_)
      · replace hf := lc_ite_pos hc hf
        exact bQ_two_49 hx hb hml hr hlocks hown hts hE hf (lv_sub hl [0, 1, 2, 3] rfl) hH
      · replace hf := lc_ite_neg hc hf
        exact bQ_two_37 hx hb hml hr hlocks hown hts hE hf (lv_sub hl [0, 1, 2, 3] rfl) hH
    · replace hf := lc_ite_pos hc hf
      refine lv_lload_n hx hb dQ_two_20 rfl (lv_at hl 2 rfl) ?_
      obtain ⟨r21, z21, h21, hf⟩ := lc_bnd_some hf
      refine lc_calli (va_runS (As := [.long a2]) (rest := []) ⟨hx, hb, hml, hown, hts⟩ (cQ_isCell l G h21) (lc_cwS hts ksQ_340 (lc_room (by decide) (by decide))) (lc_preS hE hH _) rfl rfl hl.1 rfl (lv_room (Nat.le_of_ble_eq_true rfl)) dQ_two_21 ⟨Nat.zero_le _, Nat.zero_le _⟩) hH (fun H locs hH => ?_)
      refine lv_if_eq (tgt := 49) hx hb dQ_two_24 (by decide) (fun hc => ?_) (fun hc => ?_)
      · replace hf := lc_ite_pos hc hf
        exact bQ_two_49 hx hb hml hr hlocks hown hts hE hf (lv_sub hl [0, 1, 2, 3] rfl) hH
      · replace hf := lc_ite_neg hc hf
        refine lv_goto (tgt := 37) hx hb dQ_two_27 (by decide) ?_
        exact bQ_two_37 hx hb hml hr hlocks hown hts hE hf (lv_sub hl [0, 1, 2, 3] rfl) hH
  · replace hf := lc_ite_pos hc hf
    refine lv_aload_n hx hb dQ_two_6 rfl (lv_at hl 0 rfl) ?_
    refine lv_lload_n hx hb dQ_two_7 rfl (lv_at hl 2 rfl) ?_
    refine lv_lload hx hb dQ_two_8 (lv_at hl 3 rfl) ?_
    obtain ⟨r10, z10, h10, hf⟩ := lc_bnd_some hf
    refine lc_callv (va_runV (As := [.long a2, .long a4]) (rest := []) ⟨hx, hb, hml, hown, hts⟩ (cQ_pairUp l G h10) (lc_cwV hts kvQ_336 (lc_room (by decide) (by decide))) (lc_preV hE hH lc_h80 rfl _) rfl rfl hl.1 rfl (lv_room (Nat.le_of_ble_eq_true rfl)) dQ_two_10 ⟨Nat.zero_le _, Nat.zero_le _⟩) hH (fun H locs hH => ?_)
    exact lc_vret hx hb hr hlocks hH hf dQ_two_13
theorem dQ_one_0 : decode prog_10_method_47_code 0 = .ok (.iload_n 1, 1) := by decide +kernel
theorem dQ_one_1 : decode prog_10_method_47_code 1 = .ok (.bipush 110, 2) := by decide +kernel
theorem dQ_one_3 : decode prog_10_method_47_code 3 = .ok (.if_icmp .ne 13, 3) := by decide +kernel
theorem dQ_one_6 : decode prog_10_method_47_code 6 = .ok (.lload_n 2, 1) := by decide +kernel
theorem dQ_one_7 : decode prog_10_method_47_code 7 = .ok (.invokestatic 328, 3) := by decide +kernel
theorem dQ_one_10 : decode prog_10_method_47_code 10 = .ok (.ifCond .ne 19, 3) := by decide +kernel
theorem dQ_one_13 : decode prog_10_method_47_code 13 = .ok (.goto 10, 3) := by decide +kernel
theorem dQ_one_16 : decode prog_10_method_47_code 16 = .ok (.lload_n 2, 1) := by decide +kernel
theorem dQ_one_17 : decode prog_10_method_47_code 17 = .ok (.invokestatic 340, 3) := by decide +kernel
theorem dQ_one_20 : decode prog_10_method_47_code 20 = .ok (.ifCond .ne 9, 3) := by decide +kernel
theorem dQ_one_23 : decode prog_10_method_47_code 23 = .ok (.aload_n 0, 1) := by decide +kernel
theorem dQ_one_24 : decode prog_10_method_47_code 24 = .ok (.iconst 4, 1) := by decide +kernel
theorem dQ_one_25 : decode prog_10_method_47_code 25 = .ok (.invokevirtual 265, 3) := by decide +kernel
theorem dQ_one_28 : decode prog_10_method_47_code 28 = .ok (.return_, 1) := by decide +kernel
theorem dQ_one_29 : decode prog_10_method_47_code 29 = .ok (.lload_n 2, 1) := by decide +kernel
theorem dQ_one_30 : decode prog_10_method_47_code 30 = .ok (.l2i, 1) := by decide +kernel
theorem dQ_one_31 : decode prog_10_method_47_code 31 = .ok (.istore 4, 2) := by decide +kernel
theorem dQ_one_33 : decode prog_10_method_47_code 33 = .ok (.iload_n 1, 1) := by decide +kernel
theorem dQ_one_34 : decode prog_10_method_47_code 34 = .ok (.bipush 110, 2) := by decide +kernel
theorem dQ_one_36 : decode prog_10_method_47_code 36 = .ok (.if_icmp .ne 83, 3) := by decide +kernel
theorem dQ_one_39 : decode prog_10_method_47_code 39 = .ok (.iconst 0, 1) := by decide +kernel
theorem dQ_one_40 : decode prog_10_method_47_code 40 = .ok (.istore 5, 2) := by decide +kernel
theorem dQ_one_42 : decode prog_10_method_47_code 42 = .ok (.iload 5, 2) := by decide +kernel
theorem dQ_one_44 : decode prog_10_method_47_code 44 = .ok (.bipush 12, 2) := by decide +kernel
theorem dQ_one_46 : decode prog_10_method_47_code 46 = .ok (.if_icmp .ge 19, 3) := by decide +kernel
theorem dQ_one_49 : decode prog_10_method_47_code 49 = .ok (.aload_n 0, 1) := by decide +kernel
theorem dQ_one_50 : decode prog_10_method_47_code 50 = .ok (.getfield 114, 3) := by decide +kernel
theorem dQ_one_53 : decode prog_10_method_47_code 53 = .ok (.iload 5, 2) := by decide +kernel
theorem dQ_one_55 : decode prog_10_method_47_code 55 = .ok (.baload, 1) := by decide +kernel
theorem dQ_one_56 : decode prog_10_method_47_code 56 = .ok (.ifCond .eq 9, 3) := by decide +kernel
theorem dQ_one_59 : decode prog_10_method_47_code 59 = .ok (.iinc 5 1, 3) := by decide +kernel
theorem dQ_one_62 : decode prog_10_method_47_code 62 = .ok (.goto (-20), 3) := by decide +kernel
theorem dQ_one_65 : decode prog_10_method_47_code 65 = .ok (.iload 5, 2) := by decide +kernel
theorem dQ_one_67 : decode prog_10_method_47_code 67 = .ok (.bipush 12, 2) := by decide +kernel
theorem dQ_one_69 : decode prog_10_method_47_code 69 = .ok (.if_icmp .ne 9, 3) := by decide +kernel
theorem dQ_one_72 : decode prog_10_method_47_code 72 = .ok (.aload_n 0, 1) := by decide +kernel
theorem dQ_one_73 : decode prog_10_method_47_code 73 = .ok (.iconst 2, 1) := by decide +kernel
theorem dQ_one_74 : decode prog_10_method_47_code 74 = .ok (.invokevirtual 265, 3) := by decide +kernel
theorem dQ_one_77 : decode prog_10_method_47_code 77 = .ok (.return_, 1) := by decide +kernel
theorem dQ_one_78 : decode prog_10_method_47_code 78 = .ok (.aload_n 0, 1) := by decide +kernel
theorem dQ_one_79 : decode prog_10_method_47_code 79 = .ok (.getfield 114, 3) := by decide +kernel
theorem dQ_one_82 : decode prog_10_method_47_code 82 = .ok (.iload 5, 2) := by decide +kernel
theorem dQ_one_84 : decode prog_10_method_47_code 84 = .ok (.iconst 1, 1) := by decide +kernel
theorem dQ_one_85 : decode prog_10_method_47_code 85 = .ok (.bastore, 1) := by decide +kernel
theorem dQ_one_86 : decode prog_10_method_47_code 86 = .ok (.aload_n 0, 1) := by decide +kernel
theorem dQ_one_87 : decode prog_10_method_47_code 87 = .ok (.getfield 117, 3) := by decide +kernel
theorem dQ_one_90 : decode prog_10_method_47_code 90 = .ok (.iload 5, 2) := by decide +kernel
theorem dQ_one_92 : decode prog_10_method_47_code 92 = .ok (.iload 4, 2) := by decide +kernel
theorem dQ_one_94 : decode prog_10_method_47_code 94 = .ok (.iastore, 1) := by decide +kernel
theorem dQ_one_95 : decode prog_10_method_47_code 95 = .ok (.aload_n 0, 1) := by decide +kernel
theorem dQ_one_96 : decode prog_10_method_47_code 96 = .ok (.dup, 1) := by decide +kernel
theorem dQ_one_97 : decode prog_10_method_47_code 97 = .ok (.getfield 277, 3) := by decide +kernel
theorem dQ_one_100 : decode prog_10_method_47_code 100 = .ok (.iconst 1, 1) := by decide +kernel
theorem dQ_one_101 : decode prog_10_method_47_code 101 = .ok (.iadd, 1) := by decide +kernel
theorem dQ_one_102 : decode prog_10_method_47_code 102 = .ok (.putfield 277, 3) := by decide +kernel
theorem dQ_one_105 : decode prog_10_method_47_code 105 = .ok (.aload_n 0, 1) := by decide +kernel
theorem dQ_one_106 : decode prog_10_method_47_code 106 = .ok (.ldc2_w 334, 3) := by decide +kernel
theorem dQ_one_109 : decode prog_10_method_47_code 109 = .ok (.iload 5, 2) := by decide +kernel
theorem dQ_one_111 : decode prog_10_method_47_code 111 = .ok (.i2l, 1) := by decide +kernel
theorem dQ_one_112 : decode prog_10_method_47_code 112 = .ok (.ladd, 1) := by decide +kernel
theorem dQ_one_113 : decode prog_10_method_47_code 113 = .ok (.invokevirtual 305, 3) := by decide +kernel
theorem dQ_one_116 : decode prog_10_method_47_code 116 = .ok (.goto 79, 3) := by decide +kernel
theorem dQ_one_119 : decode prog_10_method_47_code 119 = .ok (.aload_n 0, 1) := by decide +kernel
theorem dQ_one_120 : decode prog_10_method_47_code 120 = .ok (.getfield 114, 3) := by decide +kernel
theorem dQ_one_123 : decode prog_10_method_47_code 123 = .ok (.iload 4, 2) := by decide +kernel
theorem dQ_one_125 : decode prog_10_method_47_code 125 = .ok (.baload, 1) := by decide +kernel
theorem dQ_one_126 : decode prog_10_method_47_code 126 = .ok (.ifCond .ne 11, 3) := by decide +kernel
theorem dQ_one_129 : decode prog_10_method_47_code 129 = .ok (.aload_n 0, 1) := by decide +kernel
theorem dQ_one_130 : decode prog_10_method_47_code 130 = .ok (.iconst 1, 1) := by decide +kernel
theorem dQ_one_131 : decode prog_10_method_47_code 131 = .ok (.invokevirtual 265, 3) := by decide +kernel
theorem dQ_one_134 : decode prog_10_method_47_code 134 = .ok (.goto 61, 3) := by decide +kernel
theorem dQ_one_137 : decode prog_10_method_47_code 137 = .ok (.iload_n 1, 1) := by decide +kernel
theorem dQ_one_138 : decode prog_10_method_47_code 138 = .ok (.bipush 103, 2) := by decide +kernel
theorem dQ_one_140 : decode prog_10_method_47_code 140 = .ok (.if_icmp .ne 22, 3) := by decide +kernel
theorem dQ_one_143 : decode prog_10_method_47_code 143 = .ok (.aload_n 0, 1) := by decide +kernel
theorem dQ_one_144 : decode prog_10_method_47_code 144 = .ok (.aload_n 0, 1) := by decide +kernel
theorem dQ_one_145 : decode prog_10_method_47_code 145 = .ok (.getfield 117, 3) := by decide +kernel
theorem dQ_one_148 : decode prog_10_method_47_code 148 = .ok (.iload 4, 2) := by decide +kernel
theorem dQ_one_150 : decode prog_10_method_47_code 150 = .ok (.iaload, 1) := by decide +kernel
theorem dQ_one_151 : decode prog_10_method_47_code 151 = .ok (.i2l, 1) := by decide +kernel
theorem dQ_one_152 : decode prog_10_method_47_code 152 = .ok (.invokestatic 286, 3) := by decide +kernel
theorem dQ_one_155 : decode prog_10_method_47_code 155 = .ok (.lload_n 2, 1) := by decide +kernel
theorem dQ_one_156 : decode prog_10_method_47_code 156 = .ok (.invokevirtual 336, 3) := by decide +kernel
theorem dQ_one_159 : decode prog_10_method_47_code 159 = .ok (.goto 36, 3) := by decide +kernel
theorem dQ_one_162 : decode prog_10_method_47_code 162 = .ok (.aload_n 0, 1) := by decide +kernel
theorem dQ_one_163 : decode prog_10_method_47_code 163 = .ok (.getfield 114, 3) := by decide +kernel
theorem dQ_one_166 : decode prog_10_method_47_code 166 = .ok (.iload 4, 2) := by decide +kernel
theorem dQ_one_168 : decode prog_10_method_47_code 168 = .ok (.iconst 0, 1) := by decide +kernel
theorem dQ_one_169 : decode prog_10_method_47_code 169 = .ok (.bastore, 1) := by decide +kernel
theorem dQ_one_170 : decode prog_10_method_47_code 170 = .ok (.aload_n 0, 1) := by decide +kernel
theorem dQ_one_171 : decode prog_10_method_47_code 171 = .ok (.dup, 1) := by decide +kernel
theorem dQ_one_172 : decode prog_10_method_47_code 172 = .ok (.getfield 280, 3) := by decide +kernel
theorem dQ_one_175 : decode prog_10_method_47_code 175 = .ok (.iconst 1, 1) := by decide +kernel
theorem dQ_one_176 : decode prog_10_method_47_code 176 = .ok (.iadd, 1) := by decide +kernel
theorem dQ_one_177 : decode prog_10_method_47_code 177 = .ok (.putfield 280, 3) := by decide +kernel
theorem dQ_one_180 : decode prog_10_method_47_code 180 = .ok (.aload_n 0, 1) := by decide +kernel
theorem dQ_one_181 : decode prog_10_method_47_code 181 = .ok (.aload_n 0, 1) := by decide +kernel
theorem dQ_one_182 : decode prog_10_method_47_code 182 = .ok (.getfield 117, 3) := by decide +kernel
theorem dQ_one_185 : decode prog_10_method_47_code 185 = .ok (.iload 4, 2) := by decide +kernel
theorem dQ_one_187 : decode prog_10_method_47_code 187 = .ok (.iaload, 1) := by decide +kernel
theorem dQ_one_188 : decode prog_10_method_47_code 188 = .ok (.i2l, 1) := by decide +kernel
theorem dQ_one_189 : decode prog_10_method_47_code 189 = .ok (.invokestatic 286, 3) := by decide +kernel
theorem dQ_one_192 : decode prog_10_method_47_code 192 = .ok (.invokevirtual 305, 3) := by decide +kernel
theorem dQ_one_195 : decode prog_10_method_47_code 195 = .ok (.return_, 1) := by decide +kernel
def fQ_one_23 (z : lc_S) : Option ((Unit) × lc_S) :=
  lc_bnd (fQ_stop 4 z) (fun r25 z25 => some ((), z25))
def fQ_one_65 (x4 : Int32) (x5 : Int32) (z : lc_S) : Option ((Unit) × lc_S) :=
  if x5 = 12 then (lc_bnd (fQ_stop 2 z) (fun r74 z74 => some ((), z74))) else (lc_chk (lc_in x5 12) (lc_chk (lc_in x5 12) (lc_bnd (fQ_answer (4294967296 + x5.toInt64) (lcUI (lcUI (lcUI z 115 x5.toNatClampNeg 1) 116 x5.toNatClampNeg x4) 80 49 ((lcI (lcUI (lcUI z 115 x5.toNatClampNeg 1) 116 x5.toNatClampNeg x4) 80 49) + 1))) (fun r113 z113 => some ((), z113)))))
def fQ_one_42 : Nat → Int32 → Int32 → lc_S → Option ((Unit) × lc_S)
  | 0, _, _, _ => none
  | n + 1, x4, x5, z => if 12 ≤ x5 then (fQ_one_65 x4 x5 z) else (lc_chk (lc_in x5 12) (if (lcI z 115 x5.toNatClampNeg) = 0 then (fQ_one_65 x4 x5 z) else (lc_let (x5 + 1) (fun x59 => fQ_one_42 n x4 x59 z))))
def fQ_one_29 (x1 : Int32) (x2 : Int64) (z : lc_S) : Option ((Unit) × lc_S) :=
  lc_let x2.toInt32 (fun x31 => if x1 = 110 then (fQ_one_42 lc_FU x31 0 z) else (lc_chk (lc_in x31 12) (if (lcI z 115 x31.toNatClampNeg) = 0 then (lc_bnd (fQ_stop 1 z) (fun r131 z131 => some ((), z131))) else (if x1 = 103 then (lc_chk (lc_in x31 12) (lc_bnd (fQ_plain ((lcI z 116 x31.toNatClampNeg).toInt64) z) (fun r152 z152 => lc_bnd (fQ_pairUp r152 x2 z152) (fun r156 z156 => some ((), z156))))) else (lc_chk (lc_in x31 12) (lc_chk (lc_in x31 12) (lc_bnd (fQ_plain ((lcI (lcUI (lcUI z 115 x31.toNatClampNeg 0) 80 50 ((lcI (lcUI z 115 x31.toNatClampNeg 0) 80 50) + 1)) 116 x31.toNatClampNeg).toInt64) (lcUI (lcUI z 115 x31.toNatClampNeg 0) 80 50 ((lcI (lcUI z 115 x31.toNatClampNeg 0) 80 50) + 1))) (fun r189 z189 => lc_bnd (fQ_answer r189 z189) (fun r192 z192 => some ((), z192))))))))))
def fQ_one (a1 : Int32) (a2 : Int64) (z : lc_S) : Option ((Unit) × lc_S) :=
  if a1 = 110 then (lc_bnd (fQ_isNumber a2 z) (fun r7 z7 => if r7 = 0 then (fQ_one_23 z7) else (fQ_one_29 a1 a2 z7))) else (lc_bnd (fQ_isCell a2 z) (fun r17 z17 => if r17 = 0 then (fQ_one_23 z17) else (fQ_one_29 a1 a2 z17)))
set_option maxHeartbeats 4000000 in
set_option maxRecDepth 100000 in
theorem bQ_one_23 {p : Program} {l : Launch} {e : Env} {s : State} {m : MethodId} {args : Array Value} {below : List Frame} {meth : Method} {c : Code} {G : lc_G} (hx : p.tables.exec = Jvm.exec) (hb : c.code = prog_10_method_47_code) (hml : c.maxLocals = 6) (hr : meth.sig.returnType = none) (hlocks : meth.locks = false) (hown : s.vm.findClass "LinearCellsModel" = some m.cls) (hts : ∀ w ∈ lc_ALL, w.before args s = true) (hE : lc_E G s) {r : Unit} {z' : lc_S} : ∀ {z : lc_S} {H : Heap} {locs : List Loc} {ls : Array Slot}, fQ_one_23 z = some (r, z') → lv_has ls 6 [(0, .ref (lc_ad G 80))] → lc_H G z s.heap H locs → W p l e (lc_rm 2) s m args below meth c H locs 0 0 (MQ below (lc_Q G none z') args s 0 0 (lc_A G)) (F0 m 23 ls []) := by
  intro z H locs ls hf hl hH
  rw [fQ_one_23] at hf
  refine lv_aload_n hx hb dQ_one_23 rfl (lv_at hl 0 rfl) ?_
  refine lv_iconst (v := 4) hx hb dQ_one_24 (by decide) ?_
  obtain ⟨r25, z25, h25, hf⟩ := lc_bnd_some hf
  refine lc_callv (va_runV (As := [.int 4]) (rest := []) ⟨hx, hb, hml, hown, hts⟩ (cQ_stop l G h25) (lc_cwV hts kvQ_265 (lc_room (by decide) (by decide))) (lc_preV hE hH lc_h80 rfl _) rfl rfl hl.1 rfl (lv_room (Nat.le_of_ble_eq_true rfl)) dQ_one_25 ⟨Nat.zero_le _, Nat.zero_le _⟩) hH (fun H locs hH => ?_)
  exact lc_vret hx hb hr hlocks hH hf dQ_one_28
set_option maxHeartbeats 4000000 in
set_option maxRecDepth 100000 in
theorem bQ_one_65 {p : Program} {l : Launch} {e : Env} {s : State} {m : MethodId} {args : Array Value} {below : List Frame} {meth : Method} {c : Code} {G : lc_G} (hx : p.tables.exec = Jvm.exec) (hb : c.code = prog_10_method_47_code) (hml : c.maxLocals = 6) (hr : meth.sig.returnType = none) (hlocks : meth.locks = false) (hown : s.vm.findClass "LinearCellsModel" = some m.cls) (hts : ∀ w ∈ lc_ALL, w.before args s = true) (hE : lc_E G s) {r : Unit} {z' : lc_S} : ∀ {x4 : Int32} {x5 : Int32} {z : lc_S} {H : Heap} {locs : List Loc} {ls : Array Slot}, fQ_one_65 x4 x5 z = some (r, z') → lv_has ls 6 [(0, .ref (lc_ad G 80)), (4, .int x4), (5, .int x5)] → lc_H G z s.heap H locs → W p l e (lc_rm 2) s m args below meth c H locs 0 0 (MQ below (lc_Q G none z') args s 0 0 (lc_A G)) (F0 m 65 ls []) := by
  intro x4 x5 z H locs ls hf hl hH
  rw [fQ_one_65] at hf
  refine lv_iload hx hb dQ_one_65 (lv_at hl 2 rfl) ?_
  refine lv_bipush (v := 12) hx hb dQ_one_67 (by decide) ?_
  refine lv_icmp_ne (tgt := 78) hx hb dQ_one_69 (by decide) (fun hc => ?_) (fun hc => ?_)
  · replace hf := lc_ite_neg hc hf
    refine lv_aload_n hx hb dQ_one_78 rfl (lv_at hl 0 rfl) ?_
    refine lc_getf (d := 35) (q := 115) hx hb hts hown hE hH flQ_114 lc_h80 rfl rfl dQ_one_79 ?_
    refine lv_iload hx hb dQ_one_82 (lv_at hl 2 rfl) ?_
    refine lv_iconst (v := 1) hx hb dQ_one_84 (by decide) ?_
    obtain ⟨hi85, hf⟩ := lc_chk_some hf
    refine lc_zast hx hb hE hH lc_h115 rfl hi85 (by decide) dQ_one_85 (fun H locs hH => ?_)
    refine lv_aload_n hx hb dQ_one_86 rfl (lv_at hl 0 rfl) ?_
    refine lc_getf (d := 36) (q := 116) hx hb hts hown hE hH flQ_117 lc_h80 rfl rfl dQ_one_87 ?_
    refine lv_iload hx hb dQ_one_90 (lv_at hl 2 rfl) ?_
    refine lv_iload hx hb dQ_one_92 (lv_at hl 1 rfl) ?_
    obtain ⟨hi94, hf⟩ := lc_chk_some hf
    refine lc_iast hx hb hE hH lc_h116 rfl hi94 dQ_one_94 (fun H locs hH => ?_)
    refine lv_aload_n hx hb dQ_one_95 rfl (lv_at hl 0 rfl) ?_
    refine lv_dup hx hb dQ_one_96 rfl ?_
    refine lc_geti hx hb hts hown hE hH flQ_277 lc_h80 rfl dQ_one_97 ?_
    refine lv_iconst (v := 1) hx hb dQ_one_100 (by decide) ?_
    refine lv_iadd hx hb dQ_one_101 ?_
    refine lc_puti hx hb hts hown hE hH fpQ_277 lc_h80 rfl rfl rfl dQ_one_102 (fun H locs hH => ?_)
    refine lv_aload_n hx hb dQ_one_105 rfl (lv_at hl 0 rfl) ?_
    refine lv_ldc2 hx hb hown (hts _ kcQ_334) dQ_one_106 ?_
    refine lv_iload hx hb dQ_one_109 (lv_at hl 2 rfl) ?_
    refine lv_i2l hx hb dQ_one_111 rfl ?_
    refine lv_ladd hx hb dQ_one_112 ?_
    obtain ⟨r113, z113, h113, hf⟩ := lc_bnd_some hf
    refine lc_callv (va_runV (As := [.long (4294967296 + x5.toInt64)]) (rest := []) ⟨hx, hb, hml, hown, hts⟩ (cQ_answer l G h113) (lc_cwV hts kvQ_305 (lc_room (by decide) (by decide))) (lc_preV hE hH lc_h80 rfl _) rfl rfl hl.1 rfl (lv_room (Nat.le_of_ble_eq_true rfl)) dQ_one_113 ⟨Nat.zero_le _, Nat.zero_le _⟩) hH (fun H locs hH => ?_)
    refine lv_goto (tgt := 195) hx hb dQ_one_116 (by decide) ?_
    exact lc_vret hx hb hr hlocks hH hf dQ_one_195
  · replace hf := lc_ite_pos hc hf
    refine lv_aload_n hx hb dQ_one_72 rfl (lv_at hl 0 rfl) ?_
    refine lv_iconst (v := 2) hx hb dQ_one_73 (by decide) ?_
    obtain ⟨r74, z74, h74, hf⟩ := lc_bnd_some hf
    refine lc_callv (va_runV (As := [.int 2]) (rest := []) ⟨hx, hb, hml, hown, hts⟩ (cQ_stop l G h74) (lc_cwV hts kvQ_265 (lc_room (by decide) (by decide))) (lc_preV hE hH lc_h80 rfl _) rfl rfl hl.1 rfl (lv_room (Nat.le_of_ble_eq_true rfl)) dQ_one_74 ⟨Nat.zero_le _, Nat.zero_le _⟩) hH (fun H locs hH => ?_)
    exact lc_vret hx hb hr hlocks hH hf dQ_one_77
set_option maxHeartbeats 4000000 in
set_option maxRecDepth 100000 in
theorem bQ_one_42 {p : Program} {l : Launch} {e : Env} {s : State} {m : MethodId} {args : Array Value} {below : List Frame} {meth : Method} {c : Code} {G : lc_G} (hx : p.tables.exec = Jvm.exec) (hb : c.code = prog_10_method_47_code) (hml : c.maxLocals = 6) (hr : meth.sig.returnType = none) (hlocks : meth.locks = false) (hown : s.vm.findClass "LinearCellsModel" = some m.cls) (hts : ∀ w ∈ lc_ALL, w.before args s = true) (hE : lc_E G s) {r : Unit} {z' : lc_S} : ∀ (n : Nat) {x4 : Int32} {x5 : Int32} {z : lc_S} {H : Heap} {locs : List Loc} {ls : Array Slot}, fQ_one_42 n x4 x5 z = some (r, z') → lv_has ls 6 [(0, .ref (lc_ad G 80)), (4, .int x4), (5, .int x5)] → lc_H G z s.heap H locs → W p l e (lc_rm 2) s m args below meth c H locs 0 0 (MQ below (lc_Q G none z') args s 0 0 (lc_A G)) (F0 m 42 ls []) := by
  intro n
  induction n with
  | zero =>
    intro x4 x5 z H locs ls hf hl hH
    exact absurd (show (none : Option ((Unit) × lc_S)) = some (r, z') from hf) (fun h => by cases h)
  | succ n ih =>
    intro x4 x5 z H locs ls hf hl hH
    rw [fQ_one_42] at hf
    refine lv_iload hx hb dQ_one_42 (lv_at hl 2 rfl) ?_
    refine lv_bipush (v := 12) hx hb dQ_one_44 (by decide) ?_
    refine lv_icmp_ge (tgt := 65) hx hb dQ_one_46 (by decide) (fun hc => ?_) (fun hc => ?_)
    · replace hf := lc_ite_pos hc hf
      exact bQ_one_65 hx hb hml hr hlocks hown hts hE hf (lv_sub hl [0, 1, 2] rfl) hH
    · replace hf := lc_ite_neg hc hf
      refine lv_aload_n hx hb dQ_one_49 rfl (lv_at hl 0 rfl) ?_
      refine lc_getf (d := 35) (q := 115) hx hb hts hown hE hH flQ_114 lc_h80 rfl rfl dQ_one_50 ?_
      refine lv_iload hx hb dQ_one_53 (lv_at hl 2 rfl) ?_
      obtain ⟨hi55, hf⟩ := lc_chk_some hf
      refine lc_zald hx hb hE hH lc_h115 rfl hi55 dQ_one_55 ?_
      refine lv_if_eq (tgt := 65) hx hb dQ_one_56 (by decide) (fun hc => ?_) (fun hc => ?_)
      · replace hf := lc_ite_pos hc hf
        exact bQ_one_65 hx hb hml hr hlocks hown hts hE hf (lv_sub hl [0, 1, 2] rfl) hH
      · replace hf := lc_ite_neg hc hf
        obtain ⟨x59, e59⟩ : ∃ x : Int32, x = x5 + 1 := ⟨_, rfl⟩
        replace hf := lc_let_of e59 hf
        refine lv_iinc (k := 2) (v := x59) hx hb dQ_one_59 hl rfl ((lc_incv _ (by decide)).trans e59.symm) (by decide) rfl (fun ls hl => ?_)
        replace hl : lv_has ls 6 [(5, .int x59), (0, .ref (lc_ad G 80)), (4, .int x4)] := hl
        refine lv_goto (tgt := 42) hx hb dQ_one_62 (by decide) ?_
        exact ih hf (lv_sub hl [1, 2, 0] rfl) hH
set_option maxHeartbeats 4000000 in
set_option maxRecDepth 100000 in
theorem bQ_one_29 {p : Program} {l : Launch} {e : Env} {s : State} {m : MethodId} {args : Array Value} {below : List Frame} {meth : Method} {c : Code} {G : lc_G} (hx : p.tables.exec = Jvm.exec) (hb : c.code = prog_10_method_47_code) (hml : c.maxLocals = 6) (hr : meth.sig.returnType = none) (hlocks : meth.locks = false) (hown : s.vm.findClass "LinearCellsModel" = some m.cls) (hts : ∀ w ∈ lc_ALL, w.before args s = true) (hE : lc_E G s) {r : Unit} {z' : lc_S} : ∀ {x1 : Int32} {x2 : Int64} {z : lc_S} {H : Heap} {locs : List Loc} {ls : Array Slot}, fQ_one_29 x1 x2 z = some (r, z') → lv_has ls 6 [(0, .ref (lc_ad G 80)), (1, .int x1), (2, .long x2)] → lc_H G z s.heap H locs → W p l e (lc_rm 2) s m args below meth c H locs 0 0 (MQ below (lc_Q G none z') args s 0 0 (lc_A G)) (F0 m 29 ls []) := by
  intro x1 x2 z H locs ls hf hl hH
  rw [fQ_one_29] at hf
  refine lv_lload_n hx hb dQ_one_29 rfl (lv_at hl 2 rfl) ?_
  refine lv_l2i hx hb dQ_one_30 rfl ?_
  refine lv_topi (fun x31 e31 => ?_)
  replace hf := lc_let_of e31 hf
  refine lv_istore hx hb dQ_one_31 hl (by decide) rfl (fun ls hl => ?_)
  replace hl : lv_has ls 6 [(4, .int x31), (0, .ref (lc_ad G 80)), (1, .int x1), (2, .long x2)] := hl
  refine lv_iload_n hx hb dQ_one_33 rfl (lv_at hl 2 rfl) ?_
  refine lv_bipush (v := 110) hx hb dQ_one_34 (by decide) ?_
  refine lv_icmp_ne (tgt := 119) hx hb dQ_one_36 (by decide) (fun hc => ?_) (fun hc => ?_)
  · replace hf := lc_ite_neg hc hf
    refine lv_aload_n hx hb dQ_one_119 rfl (lv_at hl 1 rfl) ?_
    refine lc_getf (d := 35) (q := 115) hx hb hts hown hE hH flQ_114 lc_h80 rfl rfl dQ_one_120 ?_
    refine lv_iload hx hb dQ_one_123 (lv_at hl 0 rfl) ?_
    obtain ⟨hi125, hf⟩ := lc_chk_some hf
    refine lc_zald hx hb hE hH lc_h115 rfl hi125 dQ_one_125 ?_
    refine lv_if_ne (tgt := 137) hx hb dQ_one_126 (by decide) (fun hc => ?_) (fun hc => ?_)
    · replace hf := lc_ite_neg hc hf
      refine lv_iload_n hx hb dQ_one_137 rfl (lv_at hl 2 rfl) ?_
      refine lv_bipush (v := 103) hx hb dQ_one_138 (by decide) ?_
      refine lv_icmp_ne (tgt := 162) hx hb dQ_one_140 (by decide) (fun hc => ?_) (fun hc => ?_)
      · replace hf := lc_ite_neg hc hf
        refine lv_aload_n hx hb dQ_one_162 rfl (lv_at hl 1 rfl) ?_
        refine lc_getf (d := 35) (q := 115) hx hb hts hown hE hH flQ_114 lc_h80 rfl rfl dQ_one_163 ?_
        refine lv_iload hx hb dQ_one_166 (lv_at hl 0 rfl) ?_
        refine lv_iconst (v := 0) hx hb dQ_one_168 (by decide) ?_
        obtain ⟨hi169, hf⟩ := lc_chk_some hf
        refine lc_zast hx hb hE hH lc_h115 rfl hi169 (by decide) dQ_one_169 (fun H locs hH => ?_)
        refine lv_aload_n hx hb dQ_one_170 rfl (lv_at hl 1 rfl) ?_
        refine lv_dup hx hb dQ_one_171 rfl ?_
        refine lc_geti hx hb hts hown hE hH flQ_280 lc_h80 rfl dQ_one_172 ?_
        refine lv_iconst (v := 1) hx hb dQ_one_175 (by decide) ?_
        refine lv_iadd hx hb dQ_one_176 ?_
        refine lc_puti hx hb hts hown hE hH fpQ_280 lc_h80 rfl rfl rfl dQ_one_177 (fun H locs hH => ?_)
        refine lv_aload_n hx hb dQ_one_180 rfl (lv_at hl 1 rfl) ?_
        refine lv_aload_n hx hb dQ_one_181 rfl (lv_at hl 1 rfl) ?_
        refine lc_getf (d := 36) (q := 116) hx hb hts hown hE hH flQ_117 lc_h80 rfl rfl dQ_one_182 ?_
        refine lv_iload hx hb dQ_one_185 (lv_at hl 0 rfl) ?_
        obtain ⟨hi187, hf⟩ := lc_chk_some hf
        refine lc_iald hx hb hE hH lc_h116 rfl hi187 dQ_one_187 ?_
        refine lv_i2l hx hb dQ_one_188 rfl ?_
        obtain ⟨r189, z189, h189, hf⟩ := lc_bnd_some hf
        refine lc_calll (va_runS (As := [.long ((lcI (lcUI (lcUI z 115 x31.toNatClampNeg 0) 80 50 ((lcI (lcUI z 115 x31.toNatClampNeg 0) 80 50) + 1)) 116 x31.toNatClampNeg).toInt64)]) (rest := [.ref (lc_ad G 80)]) ⟨hx, hb, hml, hown, hts⟩ (cQ_plain l G h189) (lc_cwS hts ksQ_286 (lc_room (by decide) (by decide))) (lc_preS hE hH _) rfl rfl hl.1 rfl (lv_room (Nat.le_of_ble_eq_true rfl)) dQ_one_189 ⟨Nat.zero_le _, Nat.zero_le _⟩) hH (fun H locs hH => ?_)
        obtain ⟨r192, z192, h192, hf⟩ := lc_bnd_some hf
        refine lc_callv (va_runV (As := [.long r189]) (rest := []) ⟨hx, hb, hml, hown, hts⟩ (cQ_answer l G h192) (lc_cwV hts kvQ_305 (lc_room (by decide) (by decide))) (lc_preV hE hH lc_h80 rfl _) rfl rfl hl.1 rfl (lv_room (Nat.le_of_ble_eq_true rfl)) dQ_one_192 ⟨Nat.zero_le _, Nat.zero_le _⟩) hH (fun H locs hH => ?_)
        exact lc_vret hx hb hr hlocks hH hf dQ_one_195
      · replace hf := lc_ite_pos hc hf
        refine lv_aload_n hx hb dQ_one_143 rfl (lv_at hl 1 rfl) ?_
        refine lv_aload_n hx hb dQ_one_144 rfl (lv_at hl 1 rfl) ?_
        refine lc_getf (d := 36) (q := 116) hx hb hts hown hE hH flQ_117 lc_h80 rfl rfl dQ_one_145 ?_
        refine lv_iload hx hb dQ_one_148 (lv_at hl 0 rfl) ?_
        obtain ⟨hi150, hf⟩ := lc_chk_some hf
        refine lc_iald hx hb hE hH lc_h116 rfl hi150 dQ_one_150 ?_
        refine lv_i2l hx hb dQ_one_151 rfl ?_
        obtain ⟨r152, z152, h152, hf⟩ := lc_bnd_some hf
        refine lc_calll (va_runS (As := [.long ((lcI z 116 x31.toNatClampNeg).toInt64)]) (rest := [.ref (lc_ad G 80)]) ⟨hx, hb, hml, hown, hts⟩ (cQ_plain l G h152) (lc_cwS hts ksQ_286 (lc_room (by decide) (by decide))) (lc_preS hE hH _) rfl rfl hl.1 rfl (lv_room (Nat.le_of_ble_eq_true rfl)) dQ_one_152 ⟨Nat.zero_le _, Nat.zero_le _⟩) hH (fun H locs hH => ?_)
        refine lv_lload_n hx hb dQ_one_155 rfl (lv_at hl 3 rfl) ?_
        obtain ⟨r156, z156, h156, hf⟩ := lc_bnd_some hf
        refine lc_callv (va_runV (As := [.long r152, .long x2]) (rest := []) ⟨hx, hb, hml, hown, hts⟩ (cQ_pairUp l G h156) (lc_cwV hts kvQ_336 (lc_room (by decide) (by decide))) (lc_preV hE hH lc_h80 rfl _) rfl rfl hl.1 rfl (lv_room (Nat.le_of_ble_eq_true rfl)) dQ_one_156 ⟨Nat.zero_le _, Nat.zero_le _⟩) hH (fun H locs hH => ?_)
        refine lv_goto (tgt := 195) hx hb dQ_one_159 (by decide) ?_
        exact lc_vret hx hb hr hlocks hH hf dQ_one_195
    · replace hf := lc_ite_pos hc hf
      refine lv_aload_n hx hb dQ_one_129 rfl (lv_at hl 1 rfl) ?_
      refine lv_iconst (v := 1) hx hb dQ_one_130 (by decide) ?_
      obtain ⟨r131, z131, h131, hf⟩ := lc_bnd_some hf
      refine lc_callv (va_runV (As := [.int 1]) (rest := []) ⟨hx, hb, hml, hown, hts⟩ (cQ_stop l G h131) (lc_cwV hts kvQ_265 (lc_room (by decide) (by decide))) (lc_preV hE hH lc_h80 rfl _) rfl rfl hl.1 rfl (lv_room (Nat.le_of_ble_eq_true rfl)) dQ_one_131 ⟨Nat.zero_le _, Nat.zero_le _⟩) hH (fun H locs hH => ?_)
      refine lv_goto (tgt := 195) hx hb dQ_one_134 (by decide) ?_
      exact lc_vret hx hb hr hlocks hH hf dQ_one_195
  · replace hf := lc_ite_pos hc hf
    refine lv_iconst (v := 0) hx hb dQ_one_39 (by decide) ?_
    refine lv_istore hx hb dQ_one_40 hl (by decide) rfl (fun ls hl => ?_)
    replace hl : lv_has ls 6 [(5, .int 0), (4, .int x31), (0, .ref (lc_ad G 80)), (1, .int x1), (2, .long x2)] := hl
    exact bQ_one_42 hx hb hml hr hlocks hown hts hE _ hf (lv_sub hl [2, 1, 0] rfl) hH
set_option maxHeartbeats 4000000 in
set_option maxRecDepth 100000 in
theorem cQ_one (l : Launch) (G : lc_G) {a1 : Int32} {a2 : Int64} {r : Unit} {z z' : lc_S} (hf : fQ_one a1 a2 z = some (r, z')) : lc_M l G yQ_one wQ_one 2 [.ref (lc_ad G 80), .int a1, .long a2] z none z' := by
  refine lc_M_of (cc := prog_10_method_47_code) (maxL := 6) (ret := none) (own := "LinearCellsModel") (by decide) rfl (fun w h => List.mem_cons_of_mem _ h) (Nat.le_of_ble_eq_true rfl) rfl ?_
  intro p e s m below meth c hx hb hml hr hlocks hown hts hE ls hl hH
  replace hl : lv_has ls 6 [(0, .ref (lc_ad G 80)), (1, .int a1), (2, .long a2)] := hl
  rw [fQ_one] at hf
  refine lv_iload_n hx hb dQ_one_0 rfl (lv_at hl 1 rfl) ?_
  refine lv_bipush (v := 110) hx hb dQ_one_1 (by decide) ?_
  refine lv_icmp_ne (tgt := 16) hx hb dQ_one_3 (by decide) (fun hc => ?_) (fun hc => ?_)
  · replace hf := lc_ite_neg hc hf
    refine lv_lload_n hx hb dQ_one_16 rfl (lv_at hl 2 rfl) ?_
    obtain ⟨r17, z17, h17, hf⟩ := lc_bnd_some hf
    refine lc_calli (va_runS (As := [.long a2]) (rest := []) ⟨hx, hb, hml, hown, hts⟩ (cQ_isCell l G h17) (lc_cwS hts ksQ_340 (lc_room (by decide) (by decide))) (lc_preS hE hH _) rfl rfl hl.1 rfl (lv_room (Nat.le_of_ble_eq_true rfl)) dQ_one_17 ⟨Nat.zero_le _, Nat.zero_le _⟩) hH (fun H locs hH => ?_)
    refine lv_if_ne (tgt := 29) hx hb dQ_one_20 (by decide) (fun hc => ?_) (fun hc => ?_)
    · replace hf := lc_ite_neg hc hf
      exact bQ_one_29 hx hb hml hr hlocks hown hts hE hf (lv_sub hl [0, 1, 2] rfl) hH
    · replace hf := lc_ite_pos hc hf
      exact bQ_one_23 hx hb hml hr hlocks hown hts hE hf (lv_sub hl [0] rfl) hH
  · replace hf := lc_ite_pos hc hf
    refine lv_lload_n hx hb dQ_one_6 rfl (lv_at hl 2 rfl) ?_
    obtain ⟨r7, z7, h7, hf⟩ := lc_bnd_some hf
    refine lc_calli (va_runS (As := [.long a2]) (rest := []) ⟨hx, hb, hml, hown, hts⟩ (cQ_isNumber l G h7) (lc_cwS hts ksQ_328 (lc_room (by decide) (by decide))) (lc_preS hE hH _) rfl rfl hl.1 rfl (lv_room (Nat.le_of_ble_eq_true rfl)) dQ_one_7 ⟨Nat.zero_le _, Nat.zero_le _⟩) hH (fun H locs hH => ?_)
    refine lv_if_ne (tgt := 29) hx hb dQ_one_10 (by decide) (fun hc => ?_) (fun hc => ?_)
    · replace hf := lc_ite_neg hc hf
      exact bQ_one_29 hx hb hml hr hlocks hown hts hE hf (lv_sub hl [0, 1, 2] rfl) hH
    · replace hf := lc_ite_pos hc hf
      refine lv_goto (tgt := 23) hx hb dQ_one_13 (by decide) ?_
      exact bQ_one_23 hx hb hml hr hlocks hown hts hE hf (lv_sub hl [0] rfl) hH
