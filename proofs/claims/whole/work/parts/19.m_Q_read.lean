theorem dQ_read_0 : decode prog_10_method_17_code 0 = .ok (.aload_n 0, 1) := by decide +kernel
theorem dQ_read_1 : decode prog_10_method_17_code 1 = .ok (.iconst 0, 1) := by decide +kernel
theorem dQ_read_2 : decode prog_10_method_17_code 2 = .ok (.putfield 148, 3) := by decide +kernel
theorem dQ_read_5 : decode prog_10_method_17_code 5 = .ok (.aload_n 0, 1) := by decide +kernel
theorem dQ_read_6 : decode prog_10_method_17_code 6 = .ok (.iconst 0, 1) := by decide +kernel
theorem dQ_read_7 : decode prog_10_method_17_code 7 = .ok (.putfield 155, 3) := by decide +kernel
theorem dQ_read_10 : decode prog_10_method_17_code 10 = .ok (.aload_n 0, 1) := by decide +kernel
theorem dQ_read_11 : decode prog_10_method_17_code 11 = .ok (.iconst 0, 1) := by decide +kernel
theorem dQ_read_12 : decode prog_10_method_17_code 12 = .ok (.putfield 182, 3) := by decide +kernel
theorem dQ_read_15 : decode prog_10_method_17_code 15 = .ok (.aload_n 0, 1) := by decide +kernel
theorem dQ_read_16 : decode prog_10_method_17_code 16 = .ok (.iconst 0, 1) := by decide +kernel
theorem dQ_read_17 : decode prog_10_method_17_code 17 = .ok (.putfield 185, 3) := by decide +kernel
theorem dQ_read_20 : decode prog_10_method_17_code 20 = .ok (.aload_n 0, 1) := by decide +kernel
theorem dQ_read_21 : decode prog_10_method_17_code 21 = .ok (.iconst 0, 1) := by decide +kernel
theorem dQ_read_22 : decode prog_10_method_17_code 22 = .ok (.putfield 179, 3) := by decide +kernel
theorem dQ_read_25 : decode prog_10_method_17_code 25 = .ok (.aload_n 0, 1) := by decide +kernel
theorem dQ_read_26 : decode prog_10_method_17_code 26 = .ok (.getfield 35, 3) := by decide +kernel
theorem dQ_read_29 : decode prog_10_method_17_code 29 = .ok (.iconst 0, 1) := by decide +kernel
theorem dQ_read_30 : decode prog_10_method_17_code 30 = .ok (.iconst 0, 1) := by decide +kernel
theorem dQ_read_31 : decode prog_10_method_17_code 31 = .ok (.iastore, 1) := by decide +kernel
theorem dQ_read_32 : decode prog_10_method_17_code 32 = .ok (.aload_n 0, 1) := by decide +kernel
theorem dQ_read_33 : decode prog_10_method_17_code 33 = .ok (.aload_n 0, 1) := by decide +kernel
theorem dQ_read_34 : decode prog_10_method_17_code 34 = .ok (.invokevirtual 188, 3) := by decide +kernel
theorem dQ_read_37 : decode prog_10_method_17_code 37 = .ok (.iconst (-1), 1) := by decide +kernel
theorem dQ_read_38 : decode prog_10_method_17_code 38 = .ok (.iconst 0, 1) := by decide +kernel
theorem dQ_read_39 : decode prog_10_method_17_code 39 = .ok (.invokevirtual 191, 3) := by decide +kernel
theorem dQ_read_42 : decode prog_10_method_17_code 42 = .ok (.aload_n 0, 1) := by decide +kernel
theorem dQ_read_43 : decode prog_10_method_17_code 43 = .ok (.aload_n 0, 1) := by decide +kernel
theorem dQ_read_44 : decode prog_10_method_17_code 44 = .ok (.getfield 126, 3) := by decide +kernel
theorem dQ_read_47 : decode prog_10_method_17_code 47 = .ok (.invokevirtual 195, 3) := by decide +kernel
theorem dQ_read_50 : decode prog_10_method_17_code 50 = .ok (.iconst 0, 1) := by decide +kernel
theorem dQ_read_51 : decode prog_10_method_17_code 51 = .ok (.istore_n 1, 1) := by decide +kernel
theorem dQ_read_52 : decode prog_10_method_17_code 52 = .ok (.iload_n 1, 1) := by decide +kernel
theorem dQ_read_53 : decode prog_10_method_17_code 53 = .ok (.bipush 120, 2) := by decide +kernel
theorem dQ_read_55 : decode prog_10_method_17_code 55 = .ok (.if_icmp .ge 21, 3) := by decide +kernel
theorem dQ_read_58 : decode prog_10_method_17_code 58 = .ok (.aload_n 0, 1) := by decide +kernel
theorem dQ_read_59 : decode prog_10_method_17_code 59 = .ok (.getfield 38, 3) := by decide +kernel
theorem dQ_read_62 : decode prog_10_method_17_code 62 = .ok (.iload_n 1, 1) := by decide +kernel
theorem dQ_read_63 : decode prog_10_method_17_code 63 = .ok (.aload_n 0, 1) := by decide +kernel
theorem dQ_read_64 : decode prog_10_method_17_code 64 = .ok (.getfield 126, 3) := by decide +kernel
theorem dQ_read_67 : decode prog_10_method_17_code 67 = .ok (.iload_n 1, 1) := by decide +kernel
theorem dQ_read_68 : decode prog_10_method_17_code 68 = .ok (.iaload, 1) := by decide +kernel
theorem dQ_read_69 : decode prog_10_method_17_code 69 = .ok (.iastore, 1) := by decide +kernel
theorem dQ_read_70 : decode prog_10_method_17_code 70 = .ok (.iinc 1 1, 3) := by decide +kernel
theorem dQ_read_73 : decode prog_10_method_17_code 73 = .ok (.goto (-21), 3) := by decide +kernel
theorem dQ_read_76 : decode prog_10_method_17_code 76 = .ok (.aload_n 0, 1) := by decide +kernel
theorem dQ_read_77 : decode prog_10_method_17_code 77 = .ok (.getfield 155, 3) := by decide +kernel
theorem dQ_read_80 : decode prog_10_method_17_code 80 = .ok (.ifCond .ne 11, 3) := by decide +kernel
theorem dQ_read_83 : decode prog_10_method_17_code 83 = .ok (.aload_n 0, 1) := by decide +kernel
theorem dQ_read_84 : decode prog_10_method_17_code 84 = .ok (.aload_n 0, 1) := by decide +kernel
theorem dQ_read_85 : decode prog_10_method_17_code 85 = .ok (.getfield 126, 3) := by decide +kernel
theorem dQ_read_88 : decode prog_10_method_17_code 88 = .ok (.invokevirtual 195, 3) := by decide +kernel
theorem dQ_read_91 : decode prog_10_method_17_code 91 = .ok (.iconst 0, 1) := by decide +kernel
theorem dQ_read_92 : decode prog_10_method_17_code 92 = .ok (.istore_n 1, 1) := by decide +kernel
theorem dQ_read_93 : decode prog_10_method_17_code 93 = .ok (.iload_n 1, 1) := by decide +kernel
theorem dQ_read_94 : decode prog_10_method_17_code 94 = .ok (.bipush 120, 2) := by decide +kernel
theorem dQ_read_96 : decode prog_10_method_17_code 96 = .ok (.if_icmp .ge 21, 3) := by decide +kernel
theorem dQ_read_99 : decode prog_10_method_17_code 99 = .ok (.aload_n 0, 1) := by decide +kernel
theorem dQ_read_100 : decode prog_10_method_17_code 100 = .ok (.getfield 41, 3) := by decide +kernel
theorem dQ_read_103 : decode prog_10_method_17_code 103 = .ok (.iload_n 1, 1) := by decide +kernel
theorem dQ_read_104 : decode prog_10_method_17_code 104 = .ok (.aload_n 0, 1) := by decide +kernel
theorem dQ_read_105 : decode prog_10_method_17_code 105 = .ok (.getfield 126, 3) := by decide +kernel
theorem dQ_read_108 : decode prog_10_method_17_code 108 = .ok (.iload_n 1, 1) := by decide +kernel
theorem dQ_read_109 : decode prog_10_method_17_code 109 = .ok (.iaload, 1) := by decide +kernel
theorem dQ_read_110 : decode prog_10_method_17_code 110 = .ok (.iastore, 1) := by decide +kernel
theorem dQ_read_111 : decode prog_10_method_17_code 111 = .ok (.iinc 1 1, 3) := by decide +kernel
theorem dQ_read_114 : decode prog_10_method_17_code 114 = .ok (.goto (-21), 3) := by decide +kernel
theorem dQ_read_117 : decode prog_10_method_17_code 117 = .ok (.iconst (-1), 1) := by decide +kernel
theorem dQ_read_118 : decode prog_10_method_17_code 118 = .ok (.istore_n 1, 1) := by decide +kernel
theorem dQ_read_119 : decode prog_10_method_17_code 119 = .ok (.aload_n 0, 1) := by decide +kernel
theorem dQ_read_120 : decode prog_10_method_17_code 120 = .ok (.getfield 155, 3) := by decide +kernel
theorem dQ_read_123 : decode prog_10_method_17_code 123 = .ok (.ifCond .ne 34, 3) := by decide +kernel
theorem dQ_read_126 : decode prog_10_method_17_code 126 = .ok (.iload_n 1, 1) := by decide +kernel
theorem dQ_read_127 : decode prog_10_method_17_code 127 = .ok (.ifCond .lt 10, 3) := by decide +kernel
theorem dQ_read_130 : decode prog_10_method_17_code 130 = .ok (.aload_n 0, 1) := by decide +kernel
theorem dQ_read_131 : decode prog_10_method_17_code 131 = .ok (.getfield 185, 3) := by decide +kernel
theorem dQ_read_134 : decode prog_10_method_17_code 134 = .ok (.ifCond .le 23, 3) := by decide +kernel
theorem dQ_read_137 : decode prog_10_method_17_code 137 = .ok (.iload_n 1, 1) := by decide +kernel
theorem dQ_read_138 : decode prog_10_method_17_code 138 = .ok (.ifCond .ge 10, 3) := by decide +kernel
theorem dQ_read_141 : decode prog_10_method_17_code 141 = .ok (.aload_n 0, 1) := by decide +kernel
theorem dQ_read_142 : decode prog_10_method_17_code 142 = .ok (.invokevirtual 199, 3) := by decide +kernel
theorem dQ_read_145 : decode prog_10_method_17_code 145 = .ok (.goto 8, 3) := by decide +kernel
theorem dQ_read_148 : decode prog_10_method_17_code 148 = .ok (.aload_n 0, 1) := by decide +kernel
theorem dQ_read_149 : decode prog_10_method_17_code 149 = .ok (.iload_n 1, 1) := by decide +kernel
theorem dQ_read_150 : decode prog_10_method_17_code 150 = .ok (.invokevirtual 202, 3) := by decide +kernel
theorem dQ_read_153 : decode prog_10_method_17_code 153 = .ok (.istore_n 1, 1) := by decide +kernel
theorem dQ_read_154 : decode prog_10_method_17_code 154 = .ok (.goto (-35), 3) := by decide +kernel
theorem dQ_read_157 : decode prog_10_method_17_code 157 = .ok (.aload_n 0, 1) := by decide +kernel
theorem dQ_read_158 : decode prog_10_method_17_code 158 = .ok (.aload_n 0, 1) := by decide +kernel
theorem dQ_read_159 : decode prog_10_method_17_code 159 = .ok (.getfield 155, 3) := by decide +kernel
theorem dQ_read_162 : decode prog_10_method_17_code 162 = .ok (.ifCond .ne 10, 3) := by decide +kernel
theorem dQ_read_165 : decode prog_10_method_17_code 165 = .ok (.aload_n 0, 1) := by decide +kernel
theorem dQ_read_166 : decode prog_10_method_17_code 166 = .ok (.invokevirtual 151, 3) := by decide +kernel
theorem dQ_read_169 : decode prog_10_method_17_code 169 = .ok (.ifCond .eq 7, 3) := by decide +kernel
theorem dQ_read_172 : decode prog_10_method_17_code 172 = .ok (.iconst 1, 1) := by decide +kernel
theorem dQ_read_173 : decode prog_10_method_17_code 173 = .ok (.goto 4, 3) := by decide +kernel
theorem dQ_read_176 : decode prog_10_method_17_code 176 = .ok (.iconst 0, 1) := by decide +kernel
theorem dQ_read_177 : decode prog_10_method_17_code 177 = .ok (.putfield 155, 3) := by decide +kernel
theorem dQ_read_180 : decode prog_10_method_17_code 180 = .ok (.return_, 1) := by decide +kernel
def fQ_read_153 (k119 : Int32 → lc_S → Option ((Unit) × lc_S)) (t0 : Int32) (z : lc_S) : Option ((Unit) × lc_S) :=
  k119 t0 z
def fQ_read_137 (k119 : Int32 → lc_S → Option ((Unit) × lc_S)) (x1 : Int32) (z : lc_S) : Option ((Unit) × lc_S) :=
  if 0 ≤ x1 then (lc_bnd (fQ_attach x1 z) (fun r150 z150 => fQ_read_153 k119 r150 z150)) else (lc_bnd (fQ_begin z) (fun r142 z142 => fQ_read_153 k119 r142 z142))
def fQ_read_177 (t1 : Int32) (z : lc_S) : Option ((Unit) × lc_S) :=
  lc_chk (lc_zok t1) (some ((), lcUI z 80 14 t1))
def fQ_read_172 (z : lc_S) : Option ((Unit) × lc_S) :=
  fQ_read_177 1 z
def fQ_read_157 (z : lc_S) : Option ((Unit) × lc_S) :=
  if (lcI z 80 14) = 0 then (lc_bnd (fQ_peek z) (fun r166 z166 => if r166 = 0 then (fQ_read_177 0 z166) else (fQ_read_172 z166))) else (fQ_read_172 z)
def fQ_read_119 : Nat → Int32 → lc_S → Option ((Unit) × lc_S)
  | 0, _, _ => none
  | n + 1, x1, z => if (lcI z 80 14) = 0 then (if x1 < 0 then (fQ_read_137 (fQ_read_119 n) x1 z) else (if (lcI z 80 16) ≤ 0 then (fQ_read_157 z) else (fQ_read_137 (fQ_read_119 n) x1 z))) else (fQ_read_157 z)
def fQ_read_93 : Nat → Int32 → lc_S → Option ((Unit) × lc_S)
  | 0, _, _ => none
  | n + 1, x1, z => if 120 ≤ x1 then (fQ_read_119 lc_FU (-1) z) else (lc_chk (lc_in x1 130) (lc_chk (lc_in x1 600) (lc_let (x1 + 1) (fun x111 => fQ_read_93 n x111 (lcUI z 91 x1.toNatClampNeg (lcI z 119 x1.toNatClampNeg))))))
def fQ_read_91 (z : lc_S) : Option ((Unit) × lc_S) :=
  fQ_read_93 lc_FU 0 z
def fQ_read_52 : Nat → Int32 → lc_S → Option ((Unit) × lc_S)
  | 0, _, _ => none
  | n + 1, x1, z => if 120 ≤ x1 then (if (lcI z 80 14) = 0 then (lc_bnd (fQ_type 119 z) (fun r88 z88 => fQ_read_91 z88)) else (fQ_read_91 z)) else (lc_chk (lc_in x1 130) (lc_chk (lc_in x1 600) (lc_let (x1 + 1) (fun x70 => fQ_read_52 n x70 (lcUI z 90 x1.toNatClampNeg (lcI z 119 x1.toNatClampNeg))))))
def fQ_read (z : lc_S) : Option ((Unit) × lc_S) :=
  lc_bnd (fQ_letter (lcUI (lcUI (lcUI (lcUI (lcUI (lcUI z 80 13 0) 80 14 0) 80 15 0) 80 16 0) 80 19 0) 89 (0 : Int32).toNatClampNeg 0)) (fun r34 z34 => lc_bnd (fQ_bind r34 (-1) 0 z34) (fun r39 z39 => lc_bnd (fQ_type 119 z39) (fun r47 z47 => fQ_read_52 lc_FU 0 z47)))
set_option maxHeartbeats 4000000 in
set_option maxRecDepth 100000 in
theorem bQ_read_153 {p : Program} {l : Launch} {e : Env} {s : State} {m : MethodId} {args : Array Value} {below : List Frame} {meth : Method} {c : Code} {G : lc_G} (hx : p.tables.exec = Jvm.exec) (hb : c.code = prog_10_method_17_code) (hml : c.maxLocals = 2) (hr : meth.sig.returnType = none) (hlocks : meth.locks = false) (hown : s.vm.findClass "LinearCellsModel" = some m.cls) (hts : ∀ w ∈ lc_ALL, w.before args s = true) (hE : lc_E G s) {k119 : Int32 → lc_S → Option ((Unit) × lc_S)} {r : Unit} {z' : lc_S} (hk119 : ∀ {x1 : Int32} {z : lc_S} {H : Heap} {locs : List Loc} {ls : Array Slot}, k119 x1 z = some (r, z') → lv_has ls 2 [(0, .ref (lc_ad G 80)), (1, .int x1)] → lc_H G z s.heap H locs → W p l e (lc_rm 4) s m args below meth c H locs 0 0 (MQ below (lc_Q G none z') args s 0 0 (lc_A G)) (F0 m 119 ls [])) : ∀ {t0 : Int32} {z : lc_S} {H : Heap} {locs : List Loc} {ls : Array Slot}, fQ_read_153 k119 t0 z = some (r, z') → lv_has ls 2 [(0, .ref (lc_ad G 80))] → lc_H G z s.heap H locs → W p l e (lc_rm 4) s m args below meth c H locs 0 0 (MQ below (lc_Q G none z') args s 0 0 (lc_A G)) (F0 m 153 ls [.int t0]) := by
  intro t0 z H locs ls hf hl hH
  rw [fQ_read_153] at hf
  refine lv_istore_n hx hb dQ_read_153 rfl hl (by decide) rfl (fun ls hl => ?_)
  replace hl : lv_has ls 2 [(1, .int t0), (0, .ref (lc_ad G 80))] := hl
  refine lv_goto (tgt := 119) hx hb dQ_read_154 (by decide) ?_
  exact hk119 hf (lv_sub hl [1, 0] rfl) hH
set_option maxHeartbeats 4000000 in
set_option maxRecDepth 100000 in
theorem bQ_read_137 {p : Program} {l : Launch} {e : Env} {s : State} {m : MethodId} {args : Array Value} {below : List Frame} {meth : Method} {c : Code} {G : lc_G} (hx : p.tables.exec = Jvm.exec) (hb : c.code = prog_10_method_17_code) (hml : c.maxLocals = 2) (hr : meth.sig.returnType = none) (hlocks : meth.locks = false) (hown : s.vm.findClass "LinearCellsModel" = some m.cls) (hts : ∀ w ∈ lc_ALL, w.before args s = true) (hE : lc_E G s) {k119 : Int32 → lc_S → Option ((Unit) × lc_S)} {r : Unit} {z' : lc_S} (hk119 : ∀ {x1 : Int32} {z : lc_S} {H : Heap} {locs : List Loc} {ls : Array Slot}, k119 x1 z = some (r, z') → lv_has ls 2 [(0, .ref (lc_ad G 80)), (1, .int x1)] → lc_H G z s.heap H locs → W p l e (lc_rm 4) s m args below meth c H locs 0 0 (MQ below (lc_Q G none z') args s 0 0 (lc_A G)) (F0 m 119 ls [])) : ∀ {x1 : Int32} {z : lc_S} {H : Heap} {locs : List Loc} {ls : Array Slot}, fQ_read_137 k119 x1 z = some (r, z') → lv_has ls 2 [(0, .ref (lc_ad G 80)), (1, .int x1)] → lc_H G z s.heap H locs → W p l e (lc_rm 4) s m args below meth c H locs 0 0 (MQ below (lc_Q G none z') args s 0 0 (lc_A G)) (F0 m 137 ls []) := by
  intro x1 z H locs ls hf hl hH
  rw [fQ_read_137] at hf
  refine lv_iload_n hx hb dQ_read_137 rfl (lv_at hl 1 rfl) ?_
  refine lv_if_ge (tgt := 148) hx hb dQ_read_138 (by decide) (fun hc => ?_) (fun hc => ?_)
  · replace hf := lc_ite_pos hc hf
    refine lv_aload_n hx hb dQ_read_148 rfl (lv_at hl 0 rfl) ?_
    refine lv_iload_n hx hb dQ_read_149 rfl (lv_at hl 1 rfl) ?_
    obtain ⟨r150, z150, h150, hf⟩ := lc_bnd_some hf
    refine lc_calli (va_runV (As := [.int x1]) (rest := []) ⟨hx, hb, hml, hown, hts⟩ (cQ_attach l G h150) (lc_cwV hts kvQ_202 (lc_room (by decide) (by decide))) (lc_preV hE hH lc_h80 rfl _) rfl rfl hl.1 rfl (lv_room (Nat.le_of_ble_eq_true rfl)) dQ_read_150 ⟨Nat.zero_le _, Nat.zero_le _⟩) hH (fun H locs hH => ?_)
    exact bQ_read_153 hx hb hml hr hlocks hown hts hE (fun hf hl hH => hk119 hf hl hH) hf (lv_sub hl [0] rfl) hH
  · replace hf := lc_ite_neg hc hf
    refine lv_aload_n hx hb dQ_read_141 rfl (lv_at hl 0 rfl) ?_
    obtain ⟨r142, z142, h142, hf⟩ := lc_bnd_some hf
    refine lc_calli (va_runV (As := []) (rest := []) ⟨hx, hb, hml, hown, hts⟩ (cQ_begin l G h142) (lc_cwV hts kvQ_199 (lc_room (by decide) (by decide))) (lc_preV hE hH lc_h80 rfl _) rfl rfl hl.1 rfl (lv_room (Nat.le_of_ble_eq_true rfl)) dQ_read_142 ⟨Nat.zero_le _, Nat.zero_le _⟩) hH (fun H locs hH => ?_)
    refine lv_goto (tgt := 153) hx hb dQ_read_145 (by decide) ?_
    exact bQ_read_153 hx hb hml hr hlocks hown hts hE (fun hf hl hH => hk119 hf hl hH) hf (lv_sub hl [0] rfl) hH
set_option maxHeartbeats 4000000 in
set_option maxRecDepth 100000 in
theorem bQ_read_177 {p : Program} {l : Launch} {e : Env} {s : State} {m : MethodId} {args : Array Value} {below : List Frame} {meth : Method} {c : Code} {G : lc_G} (hx : p.tables.exec = Jvm.exec) (hb : c.code = prog_10_method_17_code) (hml : c.maxLocals = 2) (hr : meth.sig.returnType = none) (hlocks : meth.locks = false) (hown : s.vm.findClass "LinearCellsModel" = some m.cls) (hts : ∀ w ∈ lc_ALL, w.before args s = true) (hE : lc_E G s) {r : Unit} {z' : lc_S} : ∀ {t1 : Int32} {z : lc_S} {H : Heap} {locs : List Loc} {ls : Array Slot}, fQ_read_177 t1 z = some (r, z') → lv_has ls 2 [] → lc_H G z s.heap H locs → W p l e (lc_rm 4) s m args below meth c H locs 0 0 (MQ below (lc_Q G none z') args s 0 0 (lc_A G)) (F0 m 177 ls [.int t1, .ref (lc_ad G 80)]) := by
  intro t1 z H locs ls hf hl hH
  rw [fQ_read_177] at hf
  obtain ⟨hz177, hf⟩ := lc_chk_some hf
  refine lc_puti hx hb hts hown hE hH fpQ_155 lc_h80 rfl (lc_zn hz177) (lc_zf hz177) dQ_read_177 (fun H locs hH => ?_)
  exact lc_vret hx hb hr hlocks hH hf dQ_read_180
set_option maxHeartbeats 4000000 in
set_option maxRecDepth 100000 in
theorem bQ_read_172 {p : Program} {l : Launch} {e : Env} {s : State} {m : MethodId} {args : Array Value} {below : List Frame} {meth : Method} {c : Code} {G : lc_G} (hx : p.tables.exec = Jvm.exec) (hb : c.code = prog_10_method_17_code) (hml : c.maxLocals = 2) (hr : meth.sig.returnType = none) (hlocks : meth.locks = false) (hown : s.vm.findClass "LinearCellsModel" = some m.cls) (hts : ∀ w ∈ lc_ALL, w.before args s = true) (hE : lc_E G s) {r : Unit} {z' : lc_S} : ∀ {z : lc_S} {H : Heap} {locs : List Loc} {ls : Array Slot}, fQ_read_172 z = some (r, z') → lv_has ls 2 [] → lc_H G z s.heap H locs → W p l e (lc_rm 4) s m args below meth c H locs 0 0 (MQ below (lc_Q G none z') args s 0 0 (lc_A G)) (F0 m 172 ls [.ref (lc_ad G 80)]) := by
  intro z H locs ls hf hl hH
  rw [fQ_read_172] at hf
  refine lv_iconst (v := 1) hx hb dQ_read_172 (by decide) ?_
  refine lv_goto (tgt := 177) hx hb dQ_read_173 (by decide) ?_
  exact bQ_read_177 hx hb hml hr hlocks hown hts hE hf (lv_sub hl [] rfl) hH
set_option maxHeartbeats 4000000 in
set_option maxRecDepth 100000 in
theorem bQ_read_157 {p : Program} {l : Launch} {e : Env} {s : State} {m : MethodId} {args : Array Value} {below : List Frame} {meth : Method} {c : Code} {G : lc_G} (hx : p.tables.exec = Jvm.exec) (hb : c.code = prog_10_method_17_code) (hml : c.maxLocals = 2) (hr : meth.sig.returnType = none) (hlocks : meth.locks = false) (hown : s.vm.findClass "LinearCellsModel" = some m.cls) (hts : ∀ w ∈ lc_ALL, w.before args s = true) (hE : lc_E G s) {r : Unit} {z' : lc_S} : ∀ {z : lc_S} {H : Heap} {locs : List Loc} {ls : Array Slot}, fQ_read_157 z = some (r, z') → lv_has ls 2 [(0, .ref (lc_ad G 80))] → lc_H G z s.heap H locs → W p l e (lc_rm 4) s m args below meth c H locs 0 0 (MQ below (lc_Q G none z') args s 0 0 (lc_A G)) (F0 m 157 ls []) := by
  intro z H locs ls hf hl hH
  rw [fQ_read_157] at hf
  refine lv_aload_n hx hb dQ_read_157 rfl (lv_at hl 0 rfl) ?_
  refine lv_aload_n hx hb dQ_read_158 rfl (lv_at hl 0 rfl) ?_
  refine lc_geti hx hb hts hown hE hH flQ_155 lc_h80 rfl dQ_read_159 ?_
  refine lv_if_ne (tgt := 172) hx hb dQ_read_162 (by decide) (fun hc => ?_) (fun hc => ?_)
  · replace hf := lc_ite_neg hc hf
    exact bQ_read_172 hx hb hml hr hlocks hown hts hE hf (lv_sub hl [] rfl) hH
  · replace hf := lc_ite_pos hc hf
    refine lv_aload_n hx hb dQ_read_165 rfl (lv_at hl 0 rfl) ?_
    obtain ⟨r166, z166, h166, hf⟩ := lc_bnd_some hf
    refine lc_calli (va_runV (As := []) (rest := [.ref (lc_ad G 80)]) ⟨hx, hb, hml, hown, hts⟩ (cQ_peek l G h166) (lc_cwV hts kvQ_151 (lc_room (by decide) (by decide))) (lc_preV hE hH lc_h80 rfl _) rfl rfl hl.1 rfl (lv_room (Nat.le_of_ble_eq_true rfl)) dQ_read_166 ⟨Nat.zero_le _, Nat.zero_le _⟩) hH (fun H locs hH => ?_)
    refine lv_if_eq (tgt := 176) hx hb dQ_read_169 (by decide) (fun hc => ?_) (fun hc => ?_)
    · replace hf := lc_ite_pos hc hf
      refine lv_iconst (v := 0) hx hb dQ_read_176 (by decide) ?_
      exact bQ_read_177 hx hb hml hr hlocks hown hts hE hf (lv_sub hl [] rfl) hH
    · replace hf := lc_ite_neg hc hf
      exact bQ_read_172 hx hb hml hr hlocks hown hts hE hf (lv_sub hl [] rfl) hH
set_option maxHeartbeats 4000000 in
set_option maxRecDepth 100000 in
theorem bQ_read_119 {p : Program} {l : Launch} {e : Env} {s : State} {m : MethodId} {args : Array Value} {below : List Frame} {meth : Method} {c : Code} {G : lc_G} (hx : p.tables.exec = Jvm.exec) (hb : c.code = prog_10_method_17_code) (hml : c.maxLocals = 2) (hr : meth.sig.returnType = none) (hlocks : meth.locks = false) (hown : s.vm.findClass "LinearCellsModel" = some m.cls) (hts : ∀ w ∈ lc_ALL, w.before args s = true) (hE : lc_E G s) {r : Unit} {z' : lc_S} : ∀ (n : Nat) {x1 : Int32} {z : lc_S} {H : Heap} {locs : List Loc} {ls : Array Slot}, fQ_read_119 n x1 z = some (r, z') → lv_has ls 2 [(0, .ref (lc_ad G 80)), (1, .int x1)] → lc_H G z s.heap H locs → W p l e (lc_rm 4) s m args below meth c H locs 0 0 (MQ below (lc_Q G none z') args s 0 0 (lc_A G)) (F0 m 119 ls []) := by
  intro n
  induction n with
  | zero =>
    intro x1 z H locs ls hf hl hH
    exact absurd (show (none : Option ((Unit) × lc_S)) = some (r, z') from hf) (fun h => by cases h)
  | succ n ih =>
    intro x1 z H locs ls hf hl hH
    rw [fQ_read_119] at hf
    refine lv_aload_n hx hb dQ_read_119 rfl (lv_at hl 0 rfl) ?_
    refine lc_geti hx hb hts hown hE hH flQ_155 lc_h80 rfl dQ_read_120 ?_
    refine lv_if_ne (tgt := 157) hx hb dQ_read_123 (by decide) (fun hc => ?_) (fun hc => ?_)
    · replace hf := lc_ite_neg hc hf
      exact bQ_read_157 hx hb hml hr hlocks hown hts hE hf (lv_sub hl [0] rfl) hH
    · replace hf := lc_ite_pos hc hf
      refine lv_iload_n hx hb dQ_read_126 rfl (lv_at hl 1 rfl) ?_
      refine lv_if_lt (tgt := 137) hx hb dQ_read_127 (by decide) (fun hc => ?_) (fun hc => ?_)
      · replace hf := lc_ite_pos hc hf
        exact bQ_read_137 hx hb hml hr hlocks hown hts hE (fun hf hl hH => ih hf hl hH) hf (lv_sub hl [0, 1] rfl) hH
      · replace hf := lc_ite_neg hc hf
        refine lv_aload_n hx hb dQ_read_130 rfl (lv_at hl 0 rfl) ?_
        refine lc_geti hx hb hts hown hE hH flQ_185 lc_h80 rfl dQ_read_131 ?_
        refine lv_if_le (tgt := 157) hx hb dQ_read_134 (by decide) (fun hc => ?_) (fun hc => ?_)
        · replace hf := lc_ite_pos hc hf
          exact bQ_read_157 hx hb hml hr hlocks hown hts hE hf (lv_sub hl [0] rfl) hH
        · replace hf := lc_ite_neg hc hf
          exact bQ_read_137 hx hb hml hr hlocks hown hts hE (fun hf hl hH => ih hf hl hH) hf (lv_sub hl [0, 1] rfl) hH
set_option maxHeartbeats 4000000 in
set_option maxRecDepth 100000 in
theorem bQ_read_93 {p : Program} {l : Launch} {e : Env} {s : State} {m : MethodId} {args : Array Value} {below : List Frame} {meth : Method} {c : Code} {G : lc_G} (hx : p.tables.exec = Jvm.exec) (hb : c.code = prog_10_method_17_code) (hml : c.maxLocals = 2) (hr : meth.sig.returnType = none) (hlocks : meth.locks = false) (hown : s.vm.findClass "LinearCellsModel" = some m.cls) (hts : ∀ w ∈ lc_ALL, w.before args s = true) (hE : lc_E G s) {r : Unit} {z' : lc_S} : ∀ (n : Nat) {x1 : Int32} {z : lc_S} {H : Heap} {locs : List Loc} {ls : Array Slot}, fQ_read_93 n x1 z = some (r, z') → lv_has ls 2 [(0, .ref (lc_ad G 80)), (1, .int x1)] → lc_H G z s.heap H locs → W p l e (lc_rm 4) s m args below meth c H locs 0 0 (MQ below (lc_Q G none z') args s 0 0 (lc_A G)) (F0 m 93 ls []) := by
  intro n
  induction n with
  | zero =>
    intro x1 z H locs ls hf hl hH
    exact absurd (show (none : Option ((Unit) × lc_S)) = some (r, z') from hf) (fun h => by cases h)
  | succ n ih =>
    intro x1 z H locs ls hf hl hH
    rw [fQ_read_93] at hf
    refine lv_iload_n hx hb dQ_read_93 rfl (lv_at hl 1 rfl) ?_
    refine lv_bipush (v := 120) hx hb dQ_read_94 (by decide) ?_
    refine lv_icmp_ge (tgt := 117) hx hb dQ_read_96 (by decide) (fun hc => ?_) (fun hc => ?_)
    · replace hf := lc_ite_pos hc hf
      refine lv_iconst (v := (-1)) hx hb dQ_read_117 (by decide) ?_
      refine lv_istore_n hx hb dQ_read_118 rfl hl (by decide) rfl (fun ls hl => ?_)
      replace hl : lv_has ls 2 [(1, .int (-1)), (0, .ref (lc_ad G 80))] := hl
      exact bQ_read_119 hx hb hml hr hlocks hown hts hE _ hf (lv_sub hl [1, 0] rfl) hH
    · replace hf := lc_ite_neg hc hf
      refine lv_aload_n hx hb dQ_read_99 rfl (lv_at hl 0 rfl) ?_
      refine lc_getf (d := 11) (q := 91) hx hb hts hown hE hH flQ_41 lc_h80 rfl rfl dQ_read_100 ?_
      refine lv_iload_n hx hb dQ_read_103 rfl (lv_at hl 1 rfl) ?_
      refine lv_aload_n hx hb dQ_read_104 rfl (lv_at hl 0 rfl) ?_
      refine lc_getf (d := 39) (q := 119) hx hb hts hown hE hH flQ_126 lc_h80 rfl rfl dQ_read_105 ?_
      refine lv_iload_n hx hb dQ_read_108 rfl (lv_at hl 1 rfl) ?_
      obtain ⟨hi109, hf⟩ := lc_chk_some hf
      refine lc_iald hx hb hE hH lc_h119 rfl hi109 dQ_read_109 ?_
      obtain ⟨hi110, hf⟩ := lc_chk_some hf
      refine lc_iast hx hb hE hH lc_h91 rfl hi110 dQ_read_110 (fun H locs hH => ?_)
      obtain ⟨x111, e111⟩ : ∃ x : Int32, x = x1 + 1 := ⟨_, rfl⟩
      replace hf := lc_let_of e111 hf
      refine lv_iinc (k := 1) (v := x111) hx hb dQ_read_111 hl rfl ((lc_incv _ (by decide)).trans e111.symm) (by decide) rfl (fun ls hl => ?_)
      replace hl : lv_has ls 2 [(1, .int x111), (0, .ref (lc_ad G 80))] := hl
      refine lv_goto (tgt := 93) hx hb dQ_read_114 (by decide) ?_
      exact ih hf (lv_sub hl [1, 0] rfl) hH
set_option maxHeartbeats 4000000 in
set_option maxRecDepth 100000 in
theorem bQ_read_91 {p : Program} {l : Launch} {e : Env} {s : State} {m : MethodId} {args : Array Value} {below : List Frame} {meth : Method} {c : Code} {G : lc_G} (hx : p.tables.exec = Jvm.exec) (hb : c.code = prog_10_method_17_code) (hml : c.maxLocals = 2) (hr : meth.sig.returnType = none) (hlocks : meth.locks = false) (hown : s.vm.findClass "LinearCellsModel" = some m.cls) (hts : ∀ w ∈ lc_ALL, w.before args s = true) (hE : lc_E G s) {r : Unit} {z' : lc_S} : ∀ {z : lc_S} {H : Heap} {locs : List Loc} {ls : Array Slot}, fQ_read_91 z = some (r, z') → lv_has ls 2 [(0, .ref (lc_ad G 80))] → lc_H G z s.heap H locs → W p l e (lc_rm 4) s m args below meth c H locs 0 0 (MQ below (lc_Q G none z') args s 0 0 (lc_A G)) (F0 m 91 ls []) := by
  intro z H locs ls hf hl hH
  rw [fQ_read_91] at hf
  refine lv_iconst (v := 0) hx hb dQ_read_91 (by decide) ?_
  refine lv_istore_n hx hb dQ_read_92 rfl hl (by decide) rfl (fun ls hl => ?_)
  replace hl : lv_has ls 2 [(1, .int 0), (0, .ref (lc_ad G 80))] := hl
  exact bQ_read_93 hx hb hml hr hlocks hown hts hE _ hf (lv_sub hl [1, 0] rfl) hH
set_option maxHeartbeats 4000000 in
set_option maxRecDepth 100000 in
theorem bQ_read_52 {p : Program} {l : Launch} {e : Env} {s : State} {m : MethodId} {args : Array Value} {below : List Frame} {meth : Method} {c : Code} {G : lc_G} (hx : p.tables.exec = Jvm.exec) (hb : c.code = prog_10_method_17_code) (hml : c.maxLocals = 2) (hr : meth.sig.returnType = none) (hlocks : meth.locks = false) (hown : s.vm.findClass "LinearCellsModel" = some m.cls) (hts : ∀ w ∈ lc_ALL, w.before args s = true) (hE : lc_E G s) {r : Unit} {z' : lc_S} : ∀ (n : Nat) {x1 : Int32} {z : lc_S} {H : Heap} {locs : List Loc} {ls : Array Slot}, fQ_read_52 n x1 z = some (r, z') → lv_has ls 2 [(0, .ref (lc_ad G 80)), (1, .int x1)] → lc_H G z s.heap H locs → W p l e (lc_rm 4) s m args below meth c H locs 0 0 (MQ below (lc_Q G none z') args s 0 0 (lc_A G)) (F0 m 52 ls []) := by
  intro n
  induction n with
  | zero =>
    intro x1 z H locs ls hf hl hH
    exact absurd (show (none : Option ((Unit) × lc_S)) = some (r, z') from hf) (fun h => by cases h)
  | succ n ih =>
    intro x1 z H locs ls hf hl hH
    rw [fQ_read_52] at hf
    refine lv_iload_n hx hb dQ_read_52 rfl (lv_at hl 1 rfl) ?_
    refine lv_bipush (v := 120) hx hb dQ_read_53 (by decide) ?_
    refine lv_icmp_ge (tgt := 76) hx hb dQ_read_55 (by decide) (fun hc => ?_) (fun hc => ?_)
    · replace hf := lc_ite_pos hc hf
      refine lv_aload_n hx hb dQ_read_76 rfl (lv_at hl 0 rfl) ?_
      refine lc_geti hx hb hts hown hE hH flQ_155 lc_h80 rfl dQ_read_77 ?_
      refine lv_if_ne (tgt := 91) hx hb dQ_read_80 (by decide) (fun hc => ?_) (fun hc => ?_)
      · replace hf := lc_ite_neg hc hf
        exact bQ_read_91 hx hb hml hr hlocks hown hts hE hf (lv_sub hl [0] rfl) hH
      · replace hf := lc_ite_pos hc hf
        refine lv_aload_n hx hb dQ_read_83 rfl (lv_at hl 0 rfl) ?_
        refine lv_aload_n hx hb dQ_read_84 rfl (lv_at hl 0 rfl) ?_
        refine lc_getf (d := 39) (q := 119) hx hb hts hown hE hH flQ_126 lc_h80 rfl rfl dQ_read_85 ?_
        obtain ⟨r88, z88, h88, hf⟩ := lc_bnd_some hf
        refine lc_callv (va_runV (As := [.ref (lc_ad G 119)]) (rest := []) ⟨hx, hb, hml, hown, hts⟩ (cQ_type l G h88) (lc_cwV hts kvQ_195 (lc_room (by decide) (by decide))) (lc_preV hE hH lc_h80 rfl _) rfl rfl hl.1 rfl (lv_room (Nat.le_of_ble_eq_true rfl)) dQ_read_88 ⟨Nat.zero_le _, Nat.zero_le _⟩) hH (fun H locs hH => ?_)
        exact bQ_read_91 hx hb hml hr hlocks hown hts hE hf (lv_sub hl [0] rfl) hH
    · replace hf := lc_ite_neg hc hf
      refine lv_aload_n hx hb dQ_read_58 rfl (lv_at hl 0 rfl) ?_
      refine lc_getf (d := 10) (q := 90) hx hb hts hown hE hH flQ_38 lc_h80 rfl rfl dQ_read_59 ?_
      refine lv_iload_n hx hb dQ_read_62 rfl (lv_at hl 1 rfl) ?_
      refine lv_aload_n hx hb dQ_read_63 rfl (lv_at hl 0 rfl) ?_
      refine lc_getf (d := 39) (q := 119) hx hb hts hown hE hH flQ_126 lc_h80 rfl rfl dQ_read_64 ?_
      refine lv_iload_n hx hb dQ_read_67 rfl (lv_at hl 1 rfl) ?_
      obtain ⟨hi68, hf⟩ := lc_chk_some hf
      refine lc_iald hx hb hE hH lc_h119 rfl hi68 dQ_read_68 ?_
      obtain ⟨hi69, hf⟩ := lc_chk_some hf
      refine lc_iast hx hb hE hH lc_h90 rfl hi69 dQ_read_69 (fun H locs hH => ?_)
      obtain ⟨x70, e70⟩ : ∃ x : Int32, x = x1 + 1 := ⟨_, rfl⟩
      replace hf := lc_let_of e70 hf
      refine lv_iinc (k := 1) (v := x70) hx hb dQ_read_70 hl rfl ((lc_incv _ (by decide)).trans e70.symm) (by decide) rfl (fun ls hl => ?_)
      replace hl : lv_has ls 2 [(1, .int x70), (0, .ref (lc_ad G 80))] := hl
      refine lv_goto (tgt := 52) hx hb dQ_read_73 (by decide) ?_
      exact ih hf (lv_sub hl [1, 0] rfl) hH
set_option maxHeartbeats 4000000 in
set_option maxRecDepth 100000 in
theorem cQ_read (l : Launch) (G : lc_G) {r : Unit} {z z' : lc_S} (hf : fQ_read z = some (r, z')) : lc_M l G yQ_read wQ_read 4 [.ref (lc_ad G 80)] z none z' := by
  refine lc_M_of (cc := prog_10_method_17_code) (maxL := 2) (ret := none) (own := "LinearCellsModel") (by decide) rfl (fun w h => List.mem_cons_of_mem _ h) (Nat.le_of_ble_eq_true rfl) rfl ?_
  intro p e s m below meth c hx hb hml hr hlocks hown hts hE ls hl hH
  replace hl : lv_has ls 2 [(0, .ref (lc_ad G 80))] := hl
  rw [fQ_read] at hf
  refine lv_aload_n hx hb dQ_read_0 rfl (lv_at hl 0 rfl) ?_
  refine lv_iconst (v := 0) hx hb dQ_read_1 (by decide) ?_
  refine lc_puti hx hb hts hown hE hH fpQ_148 lc_h80 rfl rfl rfl dQ_read_2 (fun H locs hH => ?_)
  refine lv_aload_n hx hb dQ_read_5 rfl (lv_at hl 0 rfl) ?_
  refine lv_iconst (v := 0) hx hb dQ_read_6 (by decide) ?_
  refine lc_puti hx hb hts hown hE hH fpQ_155 lc_h80 rfl (by decide) (by decide) dQ_read_7 (fun H locs hH => ?_)
  refine lv_aload_n hx hb dQ_read_10 rfl (lv_at hl 0 rfl) ?_
  refine lv_iconst (v := 0) hx hb dQ_read_11 (by decide) ?_
  refine lc_puti hx hb hts hown hE hH fpQ_182 lc_h80 rfl (by decide) (by decide) dQ_read_12 (fun H locs hH => ?_)
  refine lv_aload_n hx hb dQ_read_15 rfl (lv_at hl 0 rfl) ?_
  refine lv_iconst (v := 0) hx hb dQ_read_16 (by decide) ?_
  refine lc_puti hx hb hts hown hE hH fpQ_185 lc_h80 rfl rfl rfl dQ_read_17 (fun H locs hH => ?_)
  refine lv_aload_n hx hb dQ_read_20 rfl (lv_at hl 0 rfl) ?_
  refine lv_iconst (v := 0) hx hb dQ_read_21 (by decide) ?_
  refine lc_puti hx hb hts hown hE hH fpQ_179 lc_h80 rfl rfl rfl dQ_read_22 (fun H locs hH => ?_)
  refine lv_aload_n hx hb dQ_read_25 rfl (lv_at hl 0 rfl) ?_
  refine lc_getf (d := 9) (q := 89) hx hb hts hown hE hH flQ_35 lc_h80 rfl rfl dQ_read_26 ?_
  refine lv_iconst (v := 0) hx hb dQ_read_29 (by decide) ?_
  refine lv_iconst (v := 0) hx hb dQ_read_30 (by decide) ?_
  refine lc_iast hx hb hE hH lc_h89 rfl (by decide) dQ_read_31 (fun H locs hH => ?_)
  refine lv_aload_n hx hb dQ_read_32 rfl (lv_at hl 0 rfl) ?_
  refine lv_aload_n hx hb dQ_read_33 rfl (lv_at hl 0 rfl) ?_
  obtain ⟨r34, z34, h34, hf⟩ := lc_bnd_some hf
  refine lc_calli (va_runV (As := []) (rest := [.ref (lc_ad G 80)]) ⟨hx, hb, hml, hown, hts⟩ (cQ_letter l G h34) (lc_cwV hts kvQ_188 (lc_room (by decide) (by decide))) (lc_preV hE hH lc_h80 rfl _) rfl rfl hl.1 rfl (lv_room (Nat.le_of_ble_eq_true rfl)) dQ_read_34 ⟨Nat.zero_le _, Nat.zero_le _⟩) hH (fun H locs hH => ?_)
  refine lv_iconst (v := (-1)) hx hb dQ_read_37 (by decide) ?_
  refine lv_iconst (v := 0) hx hb dQ_read_38 (by decide) ?_
  obtain ⟨r39, z39, h39, hf⟩ := lc_bnd_some hf
  refine lc_callv (va_runV (As := [.int r34, .int (-1), .int 0]) (rest := []) ⟨hx, hb, hml, hown, hts⟩ (cQ_bind l G h39) (lc_cwV hts kvQ_191 (lc_room (by decide) (by decide))) (lc_preV hE hH lc_h80 rfl _) rfl rfl hl.1 rfl (lv_room (Nat.le_of_ble_eq_true rfl)) dQ_read_39 ⟨Nat.zero_le _, Nat.zero_le _⟩) hH (fun H locs hH => ?_)
  refine lv_aload_n hx hb dQ_read_42 rfl (lv_at hl 0 rfl) ?_
  refine lv_aload_n hx hb dQ_read_43 rfl (lv_at hl 0 rfl) ?_
  refine lc_getf (d := 39) (q := 119) hx hb hts hown hE hH flQ_126 lc_h80 rfl rfl dQ_read_44 ?_
  obtain ⟨r47, z47, h47, hf⟩ := lc_bnd_some hf
  refine lc_callv (va_runV (As := [.ref (lc_ad G 119)]) (rest := []) ⟨hx, hb, hml, hown, hts⟩ (cQ_type l G h47) (lc_cwV hts kvQ_195 (lc_room (by decide) (by decide))) (lc_preV hE hH lc_h80 rfl _) rfl rfl hl.1 rfl (lv_room (Nat.le_of_ble_eq_true rfl)) dQ_read_47 ⟨Nat.zero_le _, Nat.zero_le _⟩) hH (fun H locs hH => ?_)
  refine lv_iconst (v := 0) hx hb dQ_read_50 (by decide) ?_
  refine lv_istore_n hx hb dQ_read_51 rfl hl (by decide) rfl (fun ls hl => ?_)
  replace hl : lv_has ls 2 [(1, .int 0), (0, .ref (lc_ad G 80))] := hl
  exact bQ_read_52 hx hb hml hr hlocks hown hts hE _ hf (lv_sub hl [1, 0] rfl) hH
