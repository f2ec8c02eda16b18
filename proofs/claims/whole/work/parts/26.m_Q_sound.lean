theorem dQ_sound_0 : decode prog_10_method_31_code 0 = .ok (.aload_n 0, 1) := by decide +kernel
theorem dQ_sound_1 : decode prog_10_method_31_code 1 = .ok (.iconst 0, 1) := by decide +kernel
theorem dQ_sound_2 : decode prog_10_method_31_code 2 = .ok (.putfield 135, 3) := by decide +kernel
theorem dQ_sound_5 : decode prog_10_method_31_code 5 = .ok (.aload_n 0, 1) := by decide +kernel
theorem dQ_sound_6 : decode prog_10_method_31_code 6 = .ok (.iload_n 1, 1) := by decide +kernel
theorem dQ_sound_7 : decode prog_10_method_31_code 7 = .ok (.invokevirtual 230, 3) := by decide +kernel
theorem dQ_sound_10 : decode prog_10_method_31_code 10 = .ok (.ifCond .ne 5, 3) := by decide +kernel
theorem dQ_sound_13 : decode prog_10_method_31_code 13 = .ok (.iconst 0, 1) := by decide +kernel
theorem dQ_sound_14 : decode prog_10_method_31_code 14 = .ok (.ireturn, 1) := by decide +kernel
theorem dQ_sound_15 : decode prog_10_method_31_code 15 = .ok (.iconst 1, 1) := by decide +kernel
theorem dQ_sound_16 : decode prog_10_method_31_code 16 = .ok (.iload_n 1, 1) := by decide +kernel
theorem dQ_sound_17 : decode prog_10_method_31_code 17 = .ok (.ishl, 1) := by decide +kernel
theorem dQ_sound_18 : decode prog_10_method_31_code 18 = .ok (.istore_n 2, 1) := by decide +kernel
theorem dQ_sound_19 : decode prog_10_method_31_code 19 = .ok (.iconst 0, 1) := by decide +kernel
theorem dQ_sound_20 : decode prog_10_method_31_code 20 = .ok (.istore_n 3, 1) := by decide +kernel
theorem dQ_sound_21 : decode prog_10_method_31_code 21 = .ok (.iconst 1, 1) := by decide +kernel
theorem dQ_sound_22 : decode prog_10_method_31_code 22 = .ok (.istore 4, 2) := by decide +kernel
theorem dQ_sound_24 : decode prog_10_method_31_code 24 = .ok (.iload_n 3, 1) := by decide +kernel
theorem dQ_sound_25 : decode prog_10_method_31_code 25 = .ok (.iload_n 2, 1) := by decide +kernel
theorem dQ_sound_26 : decode prog_10_method_31_code 26 = .ok (.if_icmp .eq 134, 3) := by decide +kernel
theorem dQ_sound_29 : decode prog_10_method_31_code 29 = .ok (.iload 4, 2) := by decide +kernel
theorem dQ_sound_31 : decode prog_10_method_31_code 31 = .ok (.ifCond .eq 129, 3) := by decide +kernel
theorem dQ_sound_34 : decode prog_10_method_31_code 34 = .ok (.iconst 0, 1) := by decide +kernel
theorem dQ_sound_35 : decode prog_10_method_31_code 35 = .ok (.istore 5, 2) := by decide +kernel
theorem dQ_sound_37 : decode prog_10_method_31_code 37 = .ok (.iload_n 2, 1) := by decide +kernel
theorem dQ_sound_38 : decode prog_10_method_31_code 38 = .ok (.iload 5, 2) := by decide +kernel
theorem dQ_sound_40 : decode prog_10_method_31_code 40 = .ok (.ishr, 1) := by decide +kernel
theorem dQ_sound_41 : decode prog_10_method_31_code 41 = .ok (.iconst 1, 1) := by decide +kernel
theorem dQ_sound_42 : decode prog_10_method_31_code 42 = .ok (.iand, 1) := by decide +kernel
theorem dQ_sound_43 : decode prog_10_method_31_code 43 = .ok (.ifCond .eq 13, 3) := by decide +kernel
theorem dQ_sound_46 : decode prog_10_method_31_code 46 = .ok (.iload_n 3, 1) := by decide +kernel
theorem dQ_sound_47 : decode prog_10_method_31_code 47 = .ok (.iload 5, 2) := by decide +kernel
theorem dQ_sound_49 : decode prog_10_method_31_code 49 = .ok (.ishr, 1) := by decide +kernel
theorem dQ_sound_50 : decode prog_10_method_31_code 50 = .ok (.iconst 1, 1) := by decide +kernel
theorem dQ_sound_51 : decode prog_10_method_31_code 51 = .ok (.iand, 1) := by decide +kernel
theorem dQ_sound_52 : decode prog_10_method_31_code 52 = .ok (.iconst 1, 1) := by decide +kernel
theorem dQ_sound_53 : decode prog_10_method_31_code 53 = .ok (.if_icmp .ne 9, 3) := by decide +kernel
theorem dQ_sound_56 : decode prog_10_method_31_code 56 = .ok (.iinc 5 1, 3) := by decide +kernel
theorem dQ_sound_59 : decode prog_10_method_31_code 59 = .ok (.goto (-22), 3) := by decide +kernel
theorem dQ_sound_62 : decode prog_10_method_31_code 62 = .ok (.iload_n 3, 1) := by decide +kernel
theorem dQ_sound_63 : decode prog_10_method_31_code 63 = .ok (.iconst 1, 1) := by decide +kernel
theorem dQ_sound_64 : decode prog_10_method_31_code 64 = .ok (.iload 5, 2) := by decide +kernel
theorem dQ_sound_66 : decode prog_10_method_31_code 66 = .ok (.ishl, 1) := by decide +kernel
theorem dQ_sound_67 : decode prog_10_method_31_code 67 = .ok (.ior, 1) := by decide +kernel
theorem dQ_sound_68 : decode prog_10_method_31_code 68 = .ok (.istore_n 3, 1) := by decide +kernel
theorem dQ_sound_69 : decode prog_10_method_31_code 69 = .ok (.aload_n 0, 1) := by decide +kernel
theorem dQ_sound_70 : decode prog_10_method_31_code 70 = .ok (.iload 5, 2) := by decide +kernel
theorem dQ_sound_72 : decode prog_10_method_31_code 72 = .ok (.invokevirtual 230, 3) := by decide +kernel
theorem dQ_sound_75 : decode prog_10_method_31_code 75 = .ok (.ifCond .eq 16, 3) := by decide +kernel
theorem dQ_sound_78 : decode prog_10_method_31_code 78 = .ok (.aload_n 0, 1) := by decide +kernel
theorem dQ_sound_79 : decode prog_10_method_31_code 79 = .ok (.iload 5, 2) := by decide +kernel
theorem dQ_sound_81 : decode prog_10_method_31_code 81 = .ok (.invokevirtual 254, 3) := by decide +kernel
theorem dQ_sound_84 : decode prog_10_method_31_code 84 = .ok (.ifCond .eq 7, 3) := by decide +kernel
theorem dQ_sound_87 : decode prog_10_method_31_code 87 = .ok (.iconst 1, 1) := by decide +kernel
theorem dQ_sound_88 : decode prog_10_method_31_code 88 = .ok (.goto 4, 3) := by decide +kernel
theorem dQ_sound_91 : decode prog_10_method_31_code 91 = .ok (.iconst 0, 1) := by decide +kernel
theorem dQ_sound_92 : decode prog_10_method_31_code 92 = .ok (.istore 4, 2) := by decide +kernel
theorem dQ_sound_94 : decode prog_10_method_31_code 94 = .ok (.iconst 0, 1) := by decide +kernel
theorem dQ_sound_95 : decode prog_10_method_31_code 95 = .ok (.istore 6, 2) := by decide +kernel
theorem dQ_sound_97 : decode prog_10_method_31_code 97 = .ok (.iload 6, 2) := by decide +kernel
theorem dQ_sound_99 : decode prog_10_method_31_code 99 = .ok (.aload_n 0, 1) := by decide +kernel
theorem dQ_sound_100 : decode prog_10_method_31_code 100 = .ok (.getfield 35, 3) := by decide +kernel
theorem dQ_sound_103 : decode prog_10_method_31_code 103 = .ok (.iload 5, 2) := by decide +kernel
theorem dQ_sound_105 : decode prog_10_method_31_code 105 = .ok (.iconst 1, 1) := by decide +kernel
theorem dQ_sound_106 : decode prog_10_method_31_code 106 = .ok (.iadd, 1) := by decide +kernel
theorem dQ_sound_107 : decode prog_10_method_31_code 107 = .ok (.iaload, 1) := by decide +kernel
theorem dQ_sound_108 : decode prog_10_method_31_code 108 = .ok (.if_icmp .ge 49, 3) := by decide +kernel
theorem dQ_sound_111 : decode prog_10_method_31_code 111 = .ok (.bipush 120, 2) := by decide +kernel
theorem dQ_sound_113 : decode prog_10_method_31_code 113 = .ok (.iload 5, 2) := by decide +kernel
theorem dQ_sound_115 : decode prog_10_method_31_code 115 = .ok (.iconst 1, 1) := by decide +kernel
theorem dQ_sound_116 : decode prog_10_method_31_code 116 = .ok (.iadd, 1) := by decide +kernel
theorem dQ_sound_117 : decode prog_10_method_31_code 117 = .ok (.imul, 1) := by decide +kernel
theorem dQ_sound_118 : decode prog_10_method_31_code 118 = .ok (.iload 6, 2) := by decide +kernel
theorem dQ_sound_120 : decode prog_10_method_31_code 120 = .ok (.iadd, 1) := by decide +kernel
theorem dQ_sound_121 : decode prog_10_method_31_code 121 = .ok (.istore 7, 2) := by decide +kernel
theorem dQ_sound_123 : decode prog_10_method_31_code 123 = .ok (.iload_n 2, 1) := by decide +kernel
theorem dQ_sound_124 : decode prog_10_method_31_code 124 = .ok (.aload_n 0, 1) := by decide +kernel
theorem dQ_sound_125 : decode prog_10_method_31_code 125 = .ok (.getfield 13, 3) := by decide +kernel
theorem dQ_sound_128 : decode prog_10_method_31_code 128 = .ok (.iload 7, 2) := by decide +kernel
theorem dQ_sound_130 : decode prog_10_method_31_code 130 = .ok (.iaload, 1) := by decide +kernel
theorem dQ_sound_131 : decode prog_10_method_31_code 131 = .ok (.bipush 64, 2) := by decide +kernel
theorem dQ_sound_133 : decode prog_10_method_31_code 133 = .ok (.if_icmp .ne 15, 3) := by decide +kernel
theorem dQ_sound_136 : decode prog_10_method_31_code 136 = .ok (.iconst 1, 1) := by decide +kernel
theorem dQ_sound_137 : decode prog_10_method_31_code 137 = .ok (.aload_n 0, 1) := by decide +kernel
theorem dQ_sound_138 : decode prog_10_method_31_code 138 = .ok (.getfield 16, 3) := by decide +kernel
theorem dQ_sound_141 : decode prog_10_method_31_code 141 = .ok (.iload 7, 2) := by decide +kernel
theorem dQ_sound_143 : decode prog_10_method_31_code 143 = .ok (.iaload, 1) := by decide +kernel
theorem dQ_sound_144 : decode prog_10_method_31_code 144 = .ok (.ishl, 1) := by decide +kernel
theorem dQ_sound_145 : decode prog_10_method_31_code 145 = .ok (.goto 4, 3) := by decide +kernel
theorem dQ_sound_148 : decode prog_10_method_31_code 148 = .ok (.iconst 0, 1) := by decide +kernel
theorem dQ_sound_149 : decode prog_10_method_31_code 149 = .ok (.ior, 1) := by decide +kernel
theorem dQ_sound_150 : decode prog_10_method_31_code 150 = .ok (.istore_n 2, 1) := by decide +kernel
theorem dQ_sound_151 : decode prog_10_method_31_code 151 = .ok (.iinc 6 1, 3) := by decide +kernel
theorem dQ_sound_154 : decode prog_10_method_31_code 154 = .ok (.goto (-57), 3) := by decide +kernel
theorem dQ_sound_157 : decode prog_10_method_31_code 157 = .ok (.goto (-133), 3) := by decide +kernel
theorem dQ_sound_160 : decode prog_10_method_31_code 160 = .ok (.iload 4, 2) := by decide +kernel
theorem dQ_sound_162 : decode prog_10_method_31_code 162 = .ok (.ireturn, 1) := by decide +kernel
def fQ_sound_56 (k24 : Int32 → Int32 → Int32 → lc_S → Option ((Int32) × lc_S)) (k37 : Int32 → Int32 → Int32 → lc_S → Option ((Int32) × lc_S)) (x2 : Int32) (x3 : Int32) (x5 : Int32) (z : lc_S) : Option ((Int32) × lc_S) :=
  lc_let (x5 + 1) (fun x56 => k37 x2 x3 x56 z)
def fQ_sound_149 (k24 : Int32 → Int32 → Int32 → lc_S → Option ((Int32) × lc_S)) (k97 : Int32 → Int32 → Int32 → Int32 → Int32 → lc_S → Option ((Int32) × lc_S)) (x3 : Int32) (x4 : Int32) (x5 : Int32) (x6 : Int32) (t0 : Int32) (t1 : Int32) (z : lc_S) : Option ((Int32) × lc_S) :=
  lc_let (t0 ||| t1) (fun x150 => lc_let (x6 + 1) (fun x151 => k97 x150 x3 x4 x5 x151 z))
def fQ_sound_97 (k24 : Int32 → Int32 → Int32 → lc_S → Option ((Int32) × lc_S)) : Nat → Int32 → Int32 → Int32 → Int32 → Int32 → lc_S → Option ((Int32) × lc_S)
  | 0, _, _, _, _, _, _ => none
  | n + 1, x2, x3, x4, x5, x6, z => lc_chk (lc_in (x5 + 1) 5) (if (lcI z 89 (x5 + 1).toNatClampNeg) ≤ x6 then (k24 x2 x3 x4 z) else (lc_let ((120 * (x5 + 1)) + x6) (fun x121 => lc_chk (lc_in x121 600) (if (lcI z 82 x121.toNatClampNeg) = 64 then (lc_chk (lc_in x121 600) (fQ_sound_149 k24 (fQ_sound_97 k24 n) x3 x4 x5 x6 x2 (1 <<< ((lcI z 83 x121.toNatClampNeg) &&& 31)) z)) else (fQ_sound_149 k24 (fQ_sound_97 k24 n) x3 x4 x5 x6 x2 0 z)))))
def fQ_sound_92 (k24 : Int32 → Int32 → Int32 → lc_S → Option ((Int32) × lc_S)) (x2 : Int32) (x3 : Int32) (x5 : Int32) (t0 : Int32) (z : lc_S) : Option ((Int32) × lc_S) :=
  fQ_sound_97 k24 lc_FU x2 x3 t0 x5 0 z
def fQ_sound_91 (k24 : Int32 → Int32 → Int32 → lc_S → Option ((Int32) × lc_S)) (x2 : Int32) (x3 : Int32) (x5 : Int32) (z : lc_S) : Option ((Int32) × lc_S) :=
  fQ_sound_92 k24 x2 x3 x5 0 z
def fQ_sound_37 (k24 : Int32 → Int32 → Int32 → lc_S → Option ((Int32) × lc_S)) : Nat → Int32 → Int32 → Int32 → lc_S → Option ((Int32) × lc_S)
  | 0, _, _, _, _ => none
  | n + 1, x2, x3, x5, z => if ((x2 >>> (x5 &&& 31)) &&& 1) = 0 then (fQ_sound_56 k24 (fQ_sound_37 k24 n) x2 x3 x5 z) else (if ((x3 >>> (x5 &&& 31)) &&& 1) = 1 then (fQ_sound_56 k24 (fQ_sound_37 k24 n) x2 x3 x5 z) else (lc_let (x3 ||| (1 <<< (x5 &&& 31))) (fun x68 => lc_bnd (fQ_isThere x5 z) (fun r72 z72 => if r72 = 0 then (fQ_sound_91 k24 x2 x68 x5 z72) else (lc_bnd (fQ_isChecked x5 z72) (fun r81 z81 => if r81 = 0 then (fQ_sound_91 k24 x2 x68 x5 z81) else (fQ_sound_92 k24 x2 x68 x5 1 z81)))))))
def fQ_sound_160 (x4 : Int32) (z : lc_S) : Option ((Int32) × lc_S) :=
  lc_chk (lc_zok x4) (some (x4, z))
def fQ_sound_24 : Nat → Int32 → Int32 → Int32 → lc_S → Option ((Int32) × lc_S)
  | 0, _, _, _, _ => none
  | n + 1, x2, x3, x4, z => if x3 = x2 then (fQ_sound_160 x4 z) else (if x4 = 0 then (fQ_sound_160 x4 z) else (fQ_sound_37 (fQ_sound_24 n) lc_FU x2 x3 0 z))
def fQ_sound (a1 : Int32) (z : lc_S) : Option ((Int32) × lc_S) :=
  lc_bnd (fQ_isThere a1 (lcUI z 80 0 0)) (fun r7 z7 => if r7 = 0 then (some (0, z7)) else (lc_let (1 <<< (a1 &&& 31)) (fun x18 => fQ_sound_24 lc_FU x18 0 1 z7)))
set_option maxHeartbeats 4000000 in
set_option maxRecDepth 100000 in
theorem bQ_sound_56 {p : Program} {l : Launch} {e : Env} {s : State} {m : MethodId} {args : Array Value} {below : List Frame} {meth : Method} {c : Code} {G : lc_G} (hx : p.tables.exec = Jvm.exec) (hb : c.code = prog_10_method_31_code) (hml : c.maxLocals = 8) (hr : meth.sig.returnType = (some .boolean)) (hlocks : meth.locks = false) (hown : s.vm.findClass "LinearCellsModel" = some m.cls) (hts : ∀ w ∈ lc_ALL, w.before args s = true) (hE : lc_E G s) {k24 : Int32 → Int32 → Int32 → lc_S → Option ((Int32) × lc_S)} {k37 : Int32 → Int32 → Int32 → lc_S → Option ((Int32) × lc_S)} {r : Int32} {z' : lc_S} (hk24 : ∀ {x2 : Int32} {x3 : Int32} {x4 : Int32} {z : lc_S} {H : Heap} {locs : List Loc} {ls : Array Slot}, k24 x2 x3 x4 z = some (r, z') → lv_has ls 8 [(0, .ref (lc_ad G 80)), (2, .int x2), (3, .int x3), (4, .int x4)] → lc_H G z s.heap H locs → W p l e (lc_rm 5) s m args below meth c H locs 0 0 (MQ below (lc_Q G (some (.int r)) z') args s 0 0 (lc_A G)) (F0 m 24 ls [])) (hk37 : ∀ {x2 : Int32} {x3 : Int32} {x5 : Int32} {z : lc_S} {H : Heap} {locs : List Loc} {ls : Array Slot}, k37 x2 x3 x5 z = some (r, z') → lv_has ls 8 [(0, .ref (lc_ad G 80)), (2, .int x2), (3, .int x3), (5, .int x5)] → lc_H G z s.heap H locs → W p l e (lc_rm 5) s m args below meth c H locs 0 0 (MQ below (lc_Q G (some (.int r)) z') args s 0 0 (lc_A G)) (F0 m 37 ls [])) : ∀ {x2 : Int32} {x3 : Int32} {x5 : Int32} {z : lc_S} {H : Heap} {locs : List Loc} {ls : Array Slot}, fQ_sound_56 k24 k37 x2 x3 x5 z = some (r, z') → lv_has ls 8 [(0, .ref (lc_ad G 80)), (2, .int x2), (3, .int x3), (5, .int x5)] → lc_H G z s.heap H locs → W p l e (lc_rm 5) s m args below meth c H locs 0 0 (MQ below (lc_Q G (some (.int r)) z') args s 0 0 (lc_A G)) (F0 m 56 ls []) := by
  intro x2 x3 x5 z H locs ls hf hl hH
  rw [fQ_sound_56] at hf
  obtain ⟨x56, e56⟩ : ∃ x : Int32, x = x5 + 1 := ⟨_, rfl⟩
  replace hf := lc_let_of e56 hf
  refine lv_iinc (k := 3) (v := x56) hx hb dQ_sound_56 hl rfl ((lc_incv _ (by decide)).trans e56.symm) (by decide) rfl (fun ls hl => ?_)
  replace hl : lv_has ls 8 [(5, .int x56), (0, .ref (lc_ad G 80)), (2, .int x2), (3, .int x3)] := hl
  refine lv_goto (tgt := 37) hx hb dQ_sound_59 (by decide) ?_
  exact hk37 hf (lv_sub hl [1, 2, 3, 0] rfl) hH
set_option maxHeartbeats 4000000 in
set_option maxRecDepth 100000 in
theorem bQ_sound_149 {p : Program} {l : Launch} {e : Env} {s : State} {m : MethodId} {args : Array Value} {below : List Frame} {meth : Method} {c : Code} {G : lc_G} (hx : p.tables.exec = Jvm.exec) (hb : c.code = prog_10_method_31_code) (hml : c.maxLocals = 8) (hr : meth.sig.returnType = (some .boolean)) (hlocks : meth.locks = false) (hown : s.vm.findClass "LinearCellsModel" = some m.cls) (hts : ∀ w ∈ lc_ALL, w.before args s = true) (hE : lc_E G s) {k24 : Int32 → Int32 → Int32 → lc_S → Option ((Int32) × lc_S)} {k97 : Int32 → Int32 → Int32 → Int32 → Int32 → lc_S → Option ((Int32) × lc_S)} {r : Int32} {z' : lc_S} (hk24 : ∀ {x2 : Int32} {x3 : Int32} {x4 : Int32} {z : lc_S} {H : Heap} {locs : List Loc} {ls : Array Slot}, k24 x2 x3 x4 z = some (r, z') → lv_has ls 8 [(0, .ref (lc_ad G 80)), (2, .int x2), (3, .int x3), (4, .int x4)] → lc_H G z s.heap H locs → W p l e (lc_rm 5) s m args below meth c H locs 0 0 (MQ below (lc_Q G (some (.int r)) z') args s 0 0 (lc_A G)) (F0 m 24 ls [])) (hk97 : ∀ {x2 : Int32} {x3 : Int32} {x4 : Int32} {x5 : Int32} {x6 : Int32} {z : lc_S} {H : Heap} {locs : List Loc} {ls : Array Slot}, k97 x2 x3 x4 x5 x6 z = some (r, z') → lv_has ls 8 [(0, .ref (lc_ad G 80)), (2, .int x2), (3, .int x3), (4, .int x4), (5, .int x5), (6, .int x6)] → lc_H G z s.heap H locs → W p l e (lc_rm 5) s m args below meth c H locs 0 0 (MQ below (lc_Q G (some (.int r)) z') args s 0 0 (lc_A G)) (F0 m 97 ls [])) : ∀ {x3 : Int32} {x4 : Int32} {x5 : Int32} {x6 : Int32} {t0 : Int32} {t1 : Int32} {z : lc_S} {H : Heap} {locs : List Loc} {ls : Array Slot}, fQ_sound_149 k24 k97 x3 x4 x5 x6 t0 t1 z = some (r, z') → lv_has ls 8 [(0, .ref (lc_ad G 80)), (3, .int x3), (4, .int x4), (5, .int x5), (6, .int x6)] → lc_H G z s.heap H locs → W p l e (lc_rm 5) s m args below meth c H locs 0 0 (MQ below (lc_Q G (some (.int r)) z') args s 0 0 (lc_A G)) (F0 m 149 ls [.int t1, .int t0]) := by
  intro x3 x4 x5 x6 t0 t1 z H locs ls hf hl hH
  rw [fQ_sound_149] at hf
  refine lv_ior hx hb dQ_sound_149 ?_
  refine lv_topi (fun x150 e150 => ?_)
  replace hf := lc_let_of e150 hf
  refine lv_istore_n hx hb dQ_sound_150 rfl hl (by decide) rfl (fun ls hl => ?_)
  replace hl : lv_has ls 8 [(2, .int x150), (0, .ref (lc_ad G 80)), (3, .int x3), (4, .int x4), (5, .int x5), (6, .int x6)] := hl
  obtain ⟨x151, e151⟩ : ∃ x : Int32, x = x6 + 1 := ⟨_, rfl⟩
  replace hf := lc_let_of e151 hf
  refine lv_iinc (k := 5) (v := x151) hx hb dQ_sound_151 hl rfl ((lc_incv _ (by decide)).trans e151.symm) (by decide) rfl (fun ls hl => ?_)
  replace hl : lv_has ls 8 [(6, .int x151), (2, .int x150), (0, .ref (lc_ad G 80)), (3, .int x3), (4, .int x4), (5, .int x5)] := hl
  refine lv_goto (tgt := 97) hx hb dQ_sound_154 (by decide) ?_
  exact hk97 hf (lv_sub hl [2, 1, 3, 4, 5, 0] rfl) hH
set_option maxHeartbeats 4000000 in
set_option maxRecDepth 100000 in
theorem bQ_sound_97 {p : Program} {l : Launch} {e : Env} {s : State} {m : MethodId} {args : Array Value} {below : List Frame} {meth : Method} {c : Code} {G : lc_G} (hx : p.tables.exec = Jvm.exec) (hb : c.code = prog_10_method_31_code) (hml : c.maxLocals = 8) (hr : meth.sig.returnType = (some .boolean)) (hlocks : meth.locks = false) (hown : s.vm.findClass "LinearCellsModel" = some m.cls) (hts : ∀ w ∈ lc_ALL, w.before args s = true) (hE : lc_E G s) {k24 : Int32 → Int32 → Int32 → lc_S → Option ((Int32) × lc_S)} {r : Int32} {z' : lc_S} (hk24 : ∀ {x2 : Int32} {x3 : Int32} {x4 : Int32} {z : lc_S} {H : Heap} {locs : List Loc} {ls : Array Slot}, k24 x2 x3 x4 z = some (r, z') → lv_has ls 8 [(0, .ref (lc_ad G 80)), (2, .int x2), (3, .int x3), (4, .int x4)] → lc_H G z s.heap H locs → W p l e (lc_rm 5) s m args below meth c H locs 0 0 (MQ below (lc_Q G (some (.int r)) z') args s 0 0 (lc_A G)) (F0 m 24 ls [])) : ∀ (n : Nat) {x2 : Int32} {x3 : Int32} {x4 : Int32} {x5 : Int32} {x6 : Int32} {z : lc_S} {H : Heap} {locs : List Loc} {ls : Array Slot}, fQ_sound_97 k24 n x2 x3 x4 x5 x6 z = some (r, z') → lv_has ls 8 [(0, .ref (lc_ad G 80)), (2, .int x2), (3, .int x3), (4, .int x4), (5, .int x5), (6, .int x6)] → lc_H G z s.heap H locs → W p l e (lc_rm 5) s m args below meth c H locs 0 0 (MQ below (lc_Q G (some (.int r)) z') args s 0 0 (lc_A G)) (F0 m 97 ls []) := by
  intro n
  induction n with
  | zero =>
    intro x2 x3 x4 x5 x6 z H locs ls hf hl hH
    exact absurd (show (none : Option ((Int32) × lc_S)) = some (r, z') from hf) (fun h => by cases h)
  | succ n ih =>
    intro x2 x3 x4 x5 x6 z H locs ls hf hl hH
    rw [fQ_sound_97] at hf
    refine lv_iload hx hb dQ_sound_97 (lv_at hl 5 rfl) ?_
    refine lv_aload_n hx hb dQ_sound_99 rfl (lv_at hl 0 rfl) ?_
    refine lc_getf (d := 9) (q := 89) hx hb hts hown hE hH flQ_35 lc_h80 rfl rfl dQ_sound_100 ?_
    refine lv_iload hx hb dQ_sound_103 (lv_at hl 4 rfl) ?_
    refine lv_iconst (v := 1) hx hb dQ_sound_105 (by decide) ?_
    refine lv_iadd hx hb dQ_sound_106 ?_
    obtain ⟨hi107, hf⟩ := lc_chk_some hf
    refine lc_iald hx hb hE hH lc_h89 rfl hi107 dQ_sound_107 ?_
    refine lv_icmp_ge (tgt := 157) hx hb dQ_sound_108 (by decide) (fun hc => ?_) (fun hc => ?_)
    · replace hf := lc_ite_pos hc hf
      refine lv_goto (tgt := 24) hx hb dQ_sound_157 (by decide) ?_
      exact hk24 hf (lv_sub hl [0, 1, 2, 3] rfl) hH
    · replace hf := lc_ite_neg hc hf
      refine lv_bipush (v := 120) hx hb dQ_sound_111 (by decide) ?_
      refine lv_iload hx hb dQ_sound_113 (lv_at hl 4 rfl) ?_
      refine lv_iconst (v := 1) hx hb dQ_sound_115 (by decide) ?_
      refine lv_iadd hx hb dQ_sound_116 ?_
      refine lv_imul hx hb dQ_sound_117 ?_
      refine lv_iload hx hb dQ_sound_118 (lv_at hl 5 rfl) ?_
      refine lv_iadd hx hb dQ_sound_120 ?_
      refine lv_topi (fun x121 e121 => ?_)
      replace hf := lc_let_of e121 hf
      refine lv_istore hx hb dQ_sound_121 hl (by decide) rfl (fun ls hl => ?_)
      replace hl : lv_has ls 8 [(7, .int x121), (0, .ref (lc_ad G 80)), (2, .int x2), (3, .int x3), (4, .int x4), (5, .int x5), (6, .int x6)] := hl
      refine lv_iload_n hx hb dQ_sound_123 rfl (lv_at hl 2 rfl) ?_
      refine lv_aload_n hx hb dQ_sound_124 rfl (lv_at hl 1 rfl) ?_
      refine lc_getf (d := 2) (q := 82) hx hb hts hown hE hH flQ_13 lc_h80 rfl rfl dQ_sound_125 ?_
      refine lv_iload hx hb dQ_sound_128 (lv_at hl 0 rfl) ?_
      obtain ⟨hi130, hf⟩ := lc_chk_some hf
      refine lc_iald hx hb hE hH lc_h82 rfl hi130 dQ_sound_130 ?_
      refine lv_bipush (v := 64) hx hb dQ_sound_131 (by decide) ?_
      refine lv_icmp_ne (tgt := 148) hx hb dQ_sound_133 (by decide) (fun hc => ?_) (fun hc => ?_)
      · replace hf := lc_ite_neg hc hf
        refine lv_iconst (v := 0) hx hb dQ_sound_148 (by decide) ?_
        exact bQ_sound_149 hx hb hml hr hlocks hown hts hE (fun hf hl hH => hk24 hf hl hH) (fun hf hl hH => ih hf hl hH) hf (lv_sub hl [1, 3, 4, 5, 6] rfl) hH
      · replace hf := lc_ite_pos hc hf
        refine lv_iconst (v := 1) hx hb dQ_sound_136 (by decide) ?_
        refine lv_aload_n hx hb dQ_sound_137 rfl (lv_at hl 1 rfl) ?_
        refine lc_getf (d := 3) (q := 83) hx hb hts hown hE hH flQ_16 lc_h80 rfl rfl dQ_sound_138 ?_
        refine lv_iload hx hb dQ_sound_141 (lv_at hl 0 rfl) ?_
        obtain ⟨hi143, hf⟩ := lc_chk_some hf
        refine lc_iald hx hb hE hH lc_h83 rfl hi143 dQ_sound_143 ?_
        refine lv_ishl hx hb dQ_sound_144 ?_
        refine lv_goto (tgt := 149) hx hb dQ_sound_145 (by decide) ?_
        exact bQ_sound_149 hx hb hml hr hlocks hown hts hE (fun hf hl hH => hk24 hf hl hH) (fun hf hl hH => ih hf hl hH) hf (lv_sub hl [1, 3, 4, 5, 6] rfl) hH
set_option maxHeartbeats 4000000 in
set_option maxRecDepth 100000 in
theorem bQ_sound_92 {p : Program} {l : Launch} {e : Env} {s : State} {m : MethodId} {args : Array Value} {below : List Frame} {meth : Method} {c : Code} {G : lc_G} (hx : p.tables.exec = Jvm.exec) (hb : c.code = prog_10_method_31_code) (hml : c.maxLocals = 8) (hr : meth.sig.returnType = (some .boolean)) (hlocks : meth.locks = false) (hown : s.vm.findClass "LinearCellsModel" = some m.cls) (hts : ∀ w ∈ lc_ALL, w.before args s = true) (hE : lc_E G s) {k24 : Int32 → Int32 → Int32 → lc_S → Option ((Int32) × lc_S)} {r : Int32} {z' : lc_S} (hk24 : ∀ {x2 : Int32} {x3 : Int32} {x4 : Int32} {z : lc_S} {H : Heap} {locs : List Loc} {ls : Array Slot}, k24 x2 x3 x4 z = some (r, z') → lv_has ls 8 [(0, .ref (lc_ad G 80)), (2, .int x2), (3, .int x3), (4, .int x4)] → lc_H G z s.heap H locs → W p l e (lc_rm 5) s m args below meth c H locs 0 0 (MQ below (lc_Q G (some (.int r)) z') args s 0 0 (lc_A G)) (F0 m 24 ls [])) : ∀ {x2 : Int32} {x3 : Int32} {x5 : Int32} {t0 : Int32} {z : lc_S} {H : Heap} {locs : List Loc} {ls : Array Slot}, fQ_sound_92 k24 x2 x3 x5 t0 z = some (r, z') → lv_has ls 8 [(0, .ref (lc_ad G 80)), (2, .int x2), (3, .int x3), (5, .int x5)] → lc_H G z s.heap H locs → W p l e (lc_rm 5) s m args below meth c H locs 0 0 (MQ below (lc_Q G (some (.int r)) z') args s 0 0 (lc_A G)) (F0 m 92 ls [.int t0]) := by
  intro x2 x3 x5 t0 z H locs ls hf hl hH
  rw [fQ_sound_92] at hf
  refine lv_istore hx hb dQ_sound_92 hl (by decide) rfl (fun ls hl => ?_)
  replace hl : lv_has ls 8 [(4, .int t0), (0, .ref (lc_ad G 80)), (2, .int x2), (3, .int x3), (5, .int x5)] := hl
  refine lv_iconst (v := 0) hx hb dQ_sound_94 (by decide) ?_
  refine lv_istore hx hb dQ_sound_95 hl (by decide) rfl (fun ls hl => ?_)
  replace hl : lv_has ls 8 [(6, .int 0), (4, .int t0), (0, .ref (lc_ad G 80)), (2, .int x2), (3, .int x3), (5, .int x5)] := hl
  exact bQ_sound_97 hx hb hml hr hlocks hown hts hE (fun hf hl hH => hk24 hf hl hH) _ hf (lv_sub hl [2, 3, 4, 1, 5, 0] rfl) hH
set_option maxHeartbeats 4000000 in
set_option maxRecDepth 100000 in
theorem bQ_sound_91 {p : Program} {l : Launch} {e : Env} {s : State} {m : MethodId} {args : Array Value} {below : List Frame} {meth : Method} {c : Code} {G : lc_G} (hx : p.tables.exec = Jvm.exec) (hb : c.code = prog_10_method_31_code) (hml : c.maxLocals = 8) (hr : meth.sig.returnType = (some .boolean)) (hlocks : meth.locks = false) (hown : s.vm.findClass "LinearCellsModel" = some m.cls) (hts : ∀ w ∈ lc_ALL, w.before args s = true) (hE : lc_E G s) {k24 : Int32 → Int32 → Int32 → lc_S → Option ((Int32) × lc_S)} {r : Int32} {z' : lc_S} (hk24 : ∀ {x2 : Int32} {x3 : Int32} {x4 : Int32} {z : lc_S} {H : Heap} {locs : List Loc} {ls : Array Slot}, k24 x2 x3 x4 z = some (r, z') → lv_has ls 8 [(0, .ref (lc_ad G 80)), (2, .int x2), (3, .int x3), (4, .int x4)] → lc_H G z s.heap H locs → W p l e (lc_rm 5) s m args below meth c H locs 0 0 (MQ below (lc_Q G (some (.int r)) z') args s 0 0 (lc_A G)) (F0 m 24 ls [])) : ∀ {x2 : Int32} {x3 : Int32} {x5 : Int32} {z : lc_S} {H : Heap} {locs : List Loc} {ls : Array Slot}, fQ_sound_91 k24 x2 x3 x5 z = some (r, z') → lv_has ls 8 [(0, .ref (lc_ad G 80)), (2, .int x2), (3, .int x3), (5, .int x5)] → lc_H G z s.heap H locs → W p l e (lc_rm 5) s m args below meth c H locs 0 0 (MQ below (lc_Q G (some (.int r)) z') args s 0 0 (lc_A G)) (F0 m 91 ls []) := by
  intro x2 x3 x5 z H locs ls hf hl hH
  rw [fQ_sound_91] at hf
  refine lv_iconst (v := 0) hx hb dQ_sound_91 (by decide) ?_
  exact bQ_sound_92 hx hb hml hr hlocks hown hts hE (fun hf hl hH => hk24 hf hl hH) hf (lv_sub hl [0, 1, 2, 3] rfl) hH
set_option maxHeartbeats 4000000 in
set_option maxRecDepth 100000 in
theorem bQ_sound_37 {p : Program} {l : Launch} {e : Env} {s : State} {m : MethodId} {args : Array Value} {below : List Frame} {meth : Method} {c : Code} {G : lc_G} (hx : p.tables.exec = Jvm.exec) (hb : c.code = prog_10_method_31_code) (hml : c.maxLocals = 8) (hr : meth.sig.returnType = (some .boolean)) (hlocks : meth.locks = false) (hown : s.vm.findClass "LinearCellsModel" = some m.cls) (hts : ∀ w ∈ lc_ALL, w.before args s = true) (hE : lc_E G s) {k24 : Int32 → Int32 → Int32 → lc_S → Option ((Int32) × lc_S)} {r : Int32} {z' : lc_S} (hk24 : ∀ {x2 : Int32} {x3 : Int32} {x4 : Int32} {z : lc_S} {H : Heap} {locs : List Loc} {ls : Array Slot}, k24 x2 x3 x4 z = some (r, z') → lv_has ls 8 [(0, .ref (lc_ad G 80)), (2, .int x2), (3, .int x3), (4, .int x4)] → lc_H G z s.heap H locs → W p l e (lc_rm 5) s m args below meth c H locs 0 0 (MQ below (lc_Q G (some (.int r)) z') args s 0 0 (lc_A G)) (F0 m 24 ls [])) : ∀ (n : Nat) {x2 : Int32} {x3 : Int32} {x5 : Int32} {z : lc_S} {H : Heap} {locs : List Loc} {ls : Array Slot}, fQ_sound_37 k24 n x2 x3 x5 z = some (r, z') → lv_has ls 8 [(0, .ref (lc_ad G 80)), (2, .int x2), (3, .int x3), (5, .int x5)] → lc_H G z s.heap H locs → W p l e (lc_rm 5) s m args below meth c H locs 0 0 (MQ below (lc_Q G (some (.int r)) z') args s 0 0 (lc_A G)) (F0 m 37 ls []) := by
  intro n
  induction n with
  | zero =>
    intro x2 x3 x5 z H locs ls hf hl hH
    exact absurd (show (none : Option ((Int32) × lc_S)) = some (r, z') from hf) (fun h => by cases h)
  | succ n ih =>
    intro x2 x3 x5 z H locs ls hf hl hH
    rw [fQ_sound_37] at hf
    refine lv_iload_n hx hb dQ_sound_37 rfl (lv_at hl 1 rfl) ?_
    refine lv_iload hx hb dQ_sound_38 (lv_at hl 3 rfl) ?_
    refine lv_ishr hx hb dQ_sound_40 ?_
    refine lv_iconst (v := 1) hx hb dQ_sound_41 (by decide) ?_
    refine lv_iand hx hb dQ_sound_42 ?_
    refine lv_if_eq (tgt := 56) hx hb dQ_sound_43 (by decide) (fun hc => ?_) (fun hc => ?_)
    · replace hf := lc_ite_pos hc hf
      exact bQ_sound_56 hx hb hml hr hlocks hown hts hE (fun hf hl hH => hk24 hf hl hH) (fun hf hl hH => ih hf hl hH) hf (lv_sub hl [0, 1, 2, 3] rfl) hH
    · replace hf := lc_ite_neg hc hf
      refine lv_iload_n hx hb dQ_sound_46 rfl (lv_at hl 2 rfl) ?_
      refine lv_iload hx hb dQ_sound_47 (lv_at hl 3 rfl) ?_
      refine lv_ishr hx hb dQ_sound_49 ?_
      refine lv_iconst (v := 1) hx hb dQ_sound_50 (by decide) ?_
      refine lv_iand hx hb dQ_sound_51 ?_
      refine lv_iconst (v := 1) hx hb dQ_sound_52 (by decide) ?_
      refine lv_icmp_ne (tgt := 62) hx hb dQ_sound_53 (by decide) (fun hc => ?_) (fun hc => ?_)
      · replace hf := lc_ite_neg hc hf
        refine lv_iload_n hx hb dQ_sound_62 rfl (lv_at hl 2 rfl) ?_
        refine lv_iconst (v := 1) hx hb dQ_sound_63 (by decide) ?_
        refine lv_iload hx hb dQ_sound_64 (lv_at hl 3 rfl) ?_
        refine lv_ishl hx hb dQ_sound_66 ?_
        refine lv_ior hx hb dQ_sound_67 ?_
        refine lv_topi (fun x68 e68 => ?_)
        replace hf := lc_let_of e68 hf
        refine lv_istore_n hx hb dQ_sound_68 rfl hl (by decide) rfl (fun ls hl => ?_)
        replace hl : lv_has ls 8 [(3, .int x68), (0, .ref (lc_ad G 80)), (2, .int x2), (5, .int x5)] := hl
        refine lv_aload_n hx hb dQ_sound_69 rfl (lv_at hl 1 rfl) ?_
        refine lv_iload hx hb dQ_sound_70 (lv_at hl 3 rfl) ?_
        obtain ⟨r72, z72, h72, hf⟩ := lc_bnd_some hf
        refine lc_calli (va_runV (As := [.int x5]) (rest := []) ⟨hx, hb, hml, hown, hts⟩ (cQ_isThere l G h72) (lc_cwV hts kvQ_230 (lc_room (by decide) (by decide))) (lc_preV hE hH lc_h80 rfl _) rfl rfl hl.1 rfl (lv_room (Nat.le_of_ble_eq_true rfl)) dQ_sound_72 ⟨Nat.zero_le _, Nat.zero_le _⟩) hH (fun H locs hH => ?_)
        refine lv_if_eq (tgt := 91) hx hb dQ_sound_75 (by decide) (fun hc => ?_) (fun hc => ?_)
        · replace hf := lc_ite_pos hc hf
          exact bQ_sound_91 hx hb hml hr hlocks hown hts hE (fun hf hl hH => hk24 hf hl hH) hf (lv_sub hl [1, 2, 0, 3] rfl) hH
        · replace hf := lc_ite_neg hc hf
          refine lv_aload_n hx hb dQ_sound_78 rfl (lv_at hl 1 rfl) ?_
          refine lv_iload hx hb dQ_sound_79 (lv_at hl 3 rfl) ?_
          obtain ⟨r81, z81, h81, hf⟩ := lc_bnd_some hf
          refine lc_calli (va_runV (As := [.int x5]) (rest := []) ⟨hx, hb, hml, hown, hts⟩ (cQ_isChecked l G h81) (lc_cwV hts kvQ_254 (lc_room (by decide) (by decide))) (lc_preV hE hH lc_h80 rfl _) rfl rfl hl.1 rfl (lv_room (Nat.le_of_ble_eq_true rfl)) dQ_sound_81 ⟨Nat.zero_le _, Nat.zero_le _⟩) hH (fun H locs hH => ?_)
          refine lv_if_eq (tgt := 91) hx hb dQ_sound_84 (by decide) (fun hc => ?_) (fun hc => ?_)
          · replace hf := lc_ite_pos hc hf
            exact bQ_sound_91 hx hb hml hr hlocks hown hts hE (fun hf hl hH => hk24 hf hl hH) hf (lv_sub hl [1, 2, 0, 3] rfl) hH
          · replace hf := lc_ite_neg hc hf
            refine lv_iconst (v := 1) hx hb dQ_sound_87 (by decide) ?_
            refine lv_goto (tgt := 92) hx hb dQ_sound_88 (by decide) ?_
            exact bQ_sound_92 hx hb hml hr hlocks hown hts hE (fun hf hl hH => hk24 hf hl hH) hf (lv_sub hl [1, 2, 0, 3] rfl) hH
      · replace hf := lc_ite_pos hc hf
        exact bQ_sound_56 hx hb hml hr hlocks hown hts hE (fun hf hl hH => hk24 hf hl hH) (fun hf hl hH => ih hf hl hH) hf (lv_sub hl [0, 1, 2, 3] rfl) hH
set_option maxHeartbeats 4000000 in
set_option maxRecDepth 100000 in
theorem bQ_sound_160 {p : Program} {l : Launch} {e : Env} {s : State} {m : MethodId} {args : Array Value} {below : List Frame} {meth : Method} {c : Code} {G : lc_G} (hx : p.tables.exec = Jvm.exec) (hb : c.code = prog_10_method_31_code) (hml : c.maxLocals = 8) (hr : meth.sig.returnType = (some .boolean)) (hlocks : meth.locks = false) (hown : s.vm.findClass "LinearCellsModel" = some m.cls) (hts : ∀ w ∈ lc_ALL, w.before args s = true) (hE : lc_E G s) {r : Int32} {z' : lc_S} : ∀ {x4 : Int32} {z : lc_S} {H : Heap} {locs : List Loc} {ls : Array Slot}, fQ_sound_160 x4 z = some (r, z') → lv_has ls 8 [(4, .int x4)] → lc_H G z s.heap H locs → W p l e (lc_rm 5) s m args below meth c H locs 0 0 (MQ below (lc_Q G (some (.int r)) z') args s 0 0 (lc_A G)) (F0 m 160 ls []) := by
  intro x4 z H locs ls hf hl hH
  rw [fQ_sound_160] at hf
  refine lv_iload hx hb dQ_sound_160 (lv_at hl 0 rfl) ?_
  obtain ⟨hz162, hf⟩ := lc_chk_some hf
  exact lc_zret hx hb hr hlocks (lc_zn hz162) hH hf dQ_sound_162
set_option maxHeartbeats 4000000 in
set_option maxRecDepth 100000 in
theorem bQ_sound_24 {p : Program} {l : Launch} {e : Env} {s : State} {m : MethodId} {args : Array Value} {below : List Frame} {meth : Method} {c : Code} {G : lc_G} (hx : p.tables.exec = Jvm.exec) (hb : c.code = prog_10_method_31_code) (hml : c.maxLocals = 8) (hr : meth.sig.returnType = (some .boolean)) (hlocks : meth.locks = false) (hown : s.vm.findClass "LinearCellsModel" = some m.cls) (hts : ∀ w ∈ lc_ALL, w.before args s = true) (hE : lc_E G s) {r : Int32} {z' : lc_S} : ∀ (n : Nat) {x2 : Int32} {x3 : Int32} {x4 : Int32} {z : lc_S} {H : Heap} {locs : List Loc} {ls : Array Slot}, fQ_sound_24 n x2 x3 x4 z = some (r, z') → lv_has ls 8 [(0, .ref (lc_ad G 80)), (2, .int x2), (3, .int x3), (4, .int x4)] → lc_H G z s.heap H locs → W p l e (lc_rm 5) s m args below meth c H locs 0 0 (MQ below (lc_Q G (some (.int r)) z') args s 0 0 (lc_A G)) (F0 m 24 ls []) := by
  intro n
  induction n with
  | zero =>
    intro x2 x3 x4 z H locs ls hf hl hH
    exact absurd (show (none : Option ((Int32) × lc_S)) = some (r, z') from hf) (fun h => by cases h)
  | succ n ih =>
    intro x2 x3 x4 z H locs ls hf hl hH
    rw [fQ_sound_24] at hf
    refine lv_iload_n hx hb dQ_sound_24 rfl (lv_at hl 2 rfl) ?_
    refine lv_iload_n hx hb dQ_sound_25 rfl (lv_at hl 1 rfl) ?_
    refine lv_icmp_eq (tgt := 160) hx hb dQ_sound_26 (by decide) (fun hc => ?_) (fun hc => ?_)
    · replace hf := lc_ite_pos hc hf
      exact bQ_sound_160 hx hb hml hr hlocks hown hts hE hf (lv_sub hl [3] rfl) hH
    · replace hf := lc_ite_neg hc hf
      refine lv_iload hx hb dQ_sound_29 (lv_at hl 3 rfl) ?_
      refine lv_if_eq (tgt := 160) hx hb dQ_sound_31 (by decide) (fun hc => ?_) (fun hc => ?_)
      · replace hf := lc_ite_pos hc hf
        exact bQ_sound_160 hx hb hml hr hlocks hown hts hE hf (lv_sub hl [3] rfl) hH
      · replace hf := lc_ite_neg hc hf
        refine lv_iconst (v := 0) hx hb dQ_sound_34 (by decide) ?_
        refine lv_istore hx hb dQ_sound_35 hl (by decide) rfl (fun ls hl => ?_)
        replace hl : lv_has ls 8 [(5, .int 0), (0, .ref (lc_ad G 80)), (2, .int x2), (3, .int x3), (4, .int x4)] := hl
        exact bQ_sound_37 hx hb hml hr hlocks hown hts hE (fun hf hl hH => ih hf hl hH) _ hf (lv_sub hl [1, 2, 3, 0] rfl) hH
set_option maxHeartbeats 4000000 in
set_option maxRecDepth 100000 in
theorem cQ_sound (l : Launch) (G : lc_G) {a1 : Int32} {r : Int32} {z z' : lc_S} (hf : fQ_sound a1 z = some (r, z')) : lc_M l G yQ_sound wQ_sound 5 [.ref (lc_ad G 80), .int a1] z (some (.int r)) z' := by
  refine lc_M_of (cc := prog_10_method_31_code) (maxL := 8) (ret := (some .boolean)) (own := "LinearCellsModel") (by decide) rfl (fun w h => List.mem_cons_of_mem _ h) (Nat.le_of_ble_eq_true rfl) rfl ?_
  intro p e s m below meth c hx hb hml hr hlocks hown hts hE ls hl hH
  replace hl : lv_has ls 8 [(0, .ref (lc_ad G 80)), (1, .int a1)] := hl
  rw [fQ_sound] at hf
  refine lv_aload_n hx hb dQ_sound_0 rfl (lv_at hl 0 rfl) ?_
  refine lv_iconst (v := 0) hx hb dQ_sound_1 (by decide) ?_
  refine lc_puti hx hb hts hown hE hH fpQ_135 lc_h80 rfl rfl rfl dQ_sound_2 (fun H locs hH => ?_)
  refine lv_aload_n hx hb dQ_sound_5 rfl (lv_at hl 0 rfl) ?_
  refine lv_iload_n hx hb dQ_sound_6 rfl (lv_at hl 1 rfl) ?_
  obtain ⟨r7, z7, h7, hf⟩ := lc_bnd_some hf
  refine lc_calli (va_runV (As := [.int a1]) (rest := []) ⟨hx, hb, hml, hown, hts⟩ (cQ_isThere l G h7) (lc_cwV hts kvQ_230 (lc_room (by decide) (by decide))) (lc_preV hE hH lc_h80 rfl _) rfl rfl hl.1 rfl (lv_room (Nat.le_of_ble_eq_true rfl)) dQ_sound_7 ⟨Nat.zero_le _, Nat.zero_le _⟩) hH (fun H locs hH => ?_)
  refine lv_if_ne (tgt := 15) hx hb dQ_sound_10 (by decide) (fun hc => ?_) (fun hc => ?_)
  · replace hf := lc_ite_neg hc hf
    refine lv_iconst (v := 1) hx hb dQ_sound_15 (by decide) ?_
    refine lv_iload_n hx hb dQ_sound_16 rfl (lv_at hl 1 rfl) ?_
    refine lv_ishl hx hb dQ_sound_17 ?_
    refine lv_topi (fun x18 e18 => ?_)
    replace hf := lc_let_of e18 hf
    refine lv_istore_n hx hb dQ_sound_18 rfl hl (by decide) rfl (fun ls hl => ?_)
    replace hl : lv_has ls 8 [(2, .int x18), (0, .ref (lc_ad G 80)), (1, .int a1)] := hl
    refine lv_iconst (v := 0) hx hb dQ_sound_19 (by decide) ?_
    refine lv_istore_n hx hb dQ_sound_20 rfl hl (by decide) rfl (fun ls hl => ?_)
    replace hl : lv_has ls 8 [(3, .int 0), (2, .int x18), (0, .ref (lc_ad G 80)), (1, .int a1)] := hl
    refine lv_iconst (v := 1) hx hb dQ_sound_21 (by decide) ?_
    refine lv_istore hx hb dQ_sound_22 hl (by decide) rfl (fun ls hl => ?_)
    replace hl : lv_has ls 8 [(4, .int 1), (3, .int 0), (2, .int x18), (0, .ref (lc_ad G 80)), (1, .int a1)] := hl
    exact bQ_sound_24 hx hb hml hr hlocks hown hts hE _ hf (lv_sub hl [3, 2, 1, 0] rfl) hH
  · replace hf := lc_ite_pos hc hf
    refine lv_iconst (v := 0) hx hb dQ_sound_13 (by decide) ?_
    exact lc_zret hx hb hr hlocks (by decide) hH hf dQ_sound_14
theorem dQ_typed_0 : decode prog_10_method_32_code 0 = .ok (.aload_n 0, 1) := by decide +kernel
theorem dQ_typed_1 : decode prog_10_method_32_code 1 = .ok (.aload_n 0, 1) := by decide +kernel
theorem dQ_typed_2 : decode prog_10_method_32_code 2 = .ok (.iload_n 1, 1) := by decide +kernel
theorem dQ_typed_3 : decode prog_10_method_32_code 3 = .ok (.invokevirtual 230, 3) := by decide +kernel
theorem dQ_typed_6 : decode prog_10_method_32_code 6 = .ok (.ifCond .eq 7, 3) := by decide +kernel
theorem dQ_typed_9 : decode prog_10_method_32_code 9 = .ok (.iconst 0, 1) := by decide +kernel
theorem dQ_typed_10 : decode prog_10_method_32_code 10 = .ok (.goto 4, 3) := by decide +kernel
theorem dQ_typed_13 : decode prog_10_method_32_code 13 = .ok (.iconst 1, 1) := by decide +kernel
theorem dQ_typed_14 : decode prog_10_method_32_code 14 = .ok (.putfield 135, 3) := by decide +kernel
theorem dQ_typed_17 : decode prog_10_method_32_code 17 = .ok (.aload_n 0, 1) := by decide +kernel
theorem dQ_typed_18 : decode prog_10_method_32_code 18 = .ok (.getfield 135, 3) := by decide +kernel
theorem dQ_typed_21 : decode prog_10_method_32_code 21 = .ok (.ifCond .gt 11, 3) := by decide +kernel
theorem dQ_typed_24 : decode prog_10_method_32_code 24 = .ok (.aload_n 0, 1) := by decide +kernel
theorem dQ_typed_25 : decode prog_10_method_32_code 25 = .ok (.iload_n 1, 1) := by decide +kernel
theorem dQ_typed_26 : decode prog_10_method_32_code 26 = .ok (.invokevirtual 244, 3) := by decide +kernel
theorem dQ_typed_29 : decode prog_10_method_32_code 29 = .ok (.ifCond .ne 5, 3) := by decide +kernel
theorem dQ_typed_32 : decode prog_10_method_32_code 32 = .ok (.iconst 0, 1) := by decide +kernel
theorem dQ_typed_33 : decode prog_10_method_32_code 33 = .ok (.ireturn, 1) := by decide +kernel
theorem dQ_typed_34 : decode prog_10_method_32_code 34 = .ok (.iconst 0, 1) := by decide +kernel
theorem dQ_typed_35 : decode prog_10_method_32_code 35 = .ok (.istore_n 2, 1) := by decide +kernel
theorem dQ_typed_36 : decode prog_10_method_32_code 36 = .ok (.iload_n 2, 1) := by decide +kernel
theorem dQ_typed_37 : decode prog_10_method_32_code 37 = .ok (.aload_n 0, 1) := by decide +kernel
theorem dQ_typed_38 : decode prog_10_method_32_code 38 = .ok (.getfield 68, 3) := by decide +kernel
theorem dQ_typed_41 : decode prog_10_method_32_code 41 = .ok (.iconst 0, 1) := by decide +kernel
theorem dQ_typed_42 : decode prog_10_method_32_code 42 = .ok (.iaload, 1) := by decide +kernel
theorem dQ_typed_43 : decode prog_10_method_32_code 43 = .ok (.if_icmp .gt 54, 3) := by decide +kernel
theorem dQ_typed_46 : decode prog_10_method_32_code 46 = .ok (.aload_n 0, 1) := by decide +kernel
theorem dQ_typed_47 : decode prog_10_method_32_code 47 = .ok (.getfield 132, 3) := by decide +kernel
theorem dQ_typed_50 : decode prog_10_method_32_code 50 = .ok (.iload_n 2, 1) := by decide +kernel
theorem dQ_typed_51 : decode prog_10_method_32_code 51 = .ok (.iload_n 2, 1) := by decide +kernel
theorem dQ_typed_52 : decode prog_10_method_32_code 52 = .ok (.iconst 2, 1) := by decide +kernel
theorem dQ_typed_53 : decode prog_10_method_32_code 53 = .ok (.if_icmp .ge 9, 3) := by decide +kernel
theorem dQ_typed_56 : decode prog_10_method_32_code 56 = .ok (.iload_n 2, 1) := by decide +kernel
theorem dQ_typed_57 : decode prog_10_method_32_code 57 = .ok (.iconst 1, 1) := by decide +kernel
theorem dQ_typed_58 : decode prog_10_method_32_code 58 = .ok (.iadd, 1) := by decide +kernel
theorem dQ_typed_59 : decode prog_10_method_32_code 59 = .ok (.goto 31, 3) := by decide +kernel
theorem dQ_typed_62 : decode prog_10_method_32_code 62 = .ok (.bipush 8, 2) := by decide +kernel
theorem dQ_typed_64 : decode prog_10_method_32_code 64 = .ok (.aload_n 0, 1) := by decide +kernel
theorem dQ_typed_65 : decode prog_10_method_32_code 65 = .ok (.getfield 132, 3) := by decide +kernel
theorem dQ_typed_68 : decode prog_10_method_32_code 68 = .ok (.aload_n 0, 1) := by decide +kernel
theorem dQ_typed_69 : decode prog_10_method_32_code 69 = .ok (.getfield 62, 3) := by decide +kernel
theorem dQ_typed_72 : decode prog_10_method_32_code 72 = .ok (.iload_n 2, 1) := by decide +kernel
theorem dQ_typed_73 : decode prog_10_method_32_code 73 = .ok (.iaload, 1) := by decide +kernel
theorem dQ_typed_74 : decode prog_10_method_32_code 74 = .ok (.iaload, 1) := by decide +kernel
theorem dQ_typed_75 : decode prog_10_method_32_code 75 = .ok (.imul, 1) := by decide +kernel
theorem dQ_typed_76 : decode prog_10_method_32_code 76 = .ok (.aload_n 0, 1) := by decide +kernel
theorem dQ_typed_77 : decode prog_10_method_32_code 77 = .ok (.getfield 132, 3) := by decide +kernel
theorem dQ_typed_80 : decode prog_10_method_32_code 80 = .ok (.aload_n 0, 1) := by decide +kernel
theorem dQ_typed_81 : decode prog_10_method_32_code 81 = .ok (.getfield 65, 3) := by decide +kernel
theorem dQ_typed_84 : decode prog_10_method_32_code 84 = .ok (.iload_n 2, 1) := by decide +kernel
theorem dQ_typed_85 : decode prog_10_method_32_code 85 = .ok (.iaload, 1) := by decide +kernel
theorem dQ_typed_86 : decode prog_10_method_32_code 86 = .ok (.iaload, 1) := by decide +kernel
theorem dQ_typed_87 : decode prog_10_method_32_code 87 = .ok (.iadd, 1) := by decide +kernel
theorem dQ_typed_88 : decode prog_10_method_32_code 88 = .ok (.iconst 3, 1) := by decide +kernel
theorem dQ_typed_89 : decode prog_10_method_32_code 89 = .ok (.iadd, 1) := by decide +kernel
theorem dQ_typed_90 : decode prog_10_method_32_code 90 = .ok (.iastore, 1) := by decide +kernel
theorem dQ_typed_91 : decode prog_10_method_32_code 91 = .ok (.iinc 2 1, 3) := by decide +kernel
theorem dQ_typed_94 : decode prog_10_method_32_code 94 = .ok (.goto (-58), 3) := by decide +kernel
theorem dQ_typed_97 : decode prog_10_method_32_code 97 = .ok (.aload_n 0, 1) := by decide +kernel
theorem dQ_typed_98 : decode prog_10_method_32_code 98 = .ok (.getfield 132, 3) := by decide +kernel
theorem dQ_typed_101 : decode prog_10_method_32_code 101 = .ok (.aload_n 0, 1) := by decide +kernel
theorem dQ_typed_102 : decode prog_10_method_32_code 102 = .ok (.getfield 68, 3) := by decide +kernel
theorem dQ_typed_105 : decode prog_10_method_32_code 105 = .ok (.iconst 0, 1) := by decide +kernel
theorem dQ_typed_106 : decode prog_10_method_32_code 106 = .ok (.iaload, 1) := by decide +kernel
theorem dQ_typed_107 : decode prog_10_method_32_code 107 = .ok (.iaload, 1) := by decide +kernel
theorem dQ_typed_108 : decode prog_10_method_32_code 108 = .ok (.ireturn, 1) := by decide +kernel
def fQ_typed_32 (z : lc_S) : Option ((Int32) × lc_S) :=
  some (0, z)
def fQ_typed_90 (k36 : Int32 → lc_S → Option ((Int32) × lc_S)) (x2 : Int32) (t1 : Int32) (t2 : Int32) (z : lc_S) : Option ((Int32) × lc_S) :=
  lc_chk (lc_in t1 340) (lc_let (x2 + 1) (fun x91 => k36 x91 (lcUI z 121 t1.toNatClampNeg t2)))
def fQ_typed_36 : Nat → Int32 → lc_S → Option ((Int32) × lc_S)
  | 0, _, _ => none
  | n + 1, x2, z => if (lcI z 100 (0 : Int32).toNatClampNeg) < x2 then (lc_chk (lc_in (lcI z 100 (0 : Int32).toNatClampNeg) 340) (some (lcI z 121 (lcI z 100 (0 : Int32).toNatClampNeg).toNatClampNeg, z))) else (if 2 ≤ x2 then (lc_chk (lc_in x2 340) (lc_chk (lc_in (lcI z 98 x2.toNatClampNeg) 340) (lc_chk (lc_in x2 340) (lc_chk (lc_in (lcI z 99 x2.toNatClampNeg) 340) (fQ_typed_90 (fQ_typed_36 n) x2 x2 (((8 * (lcI z 121 (lcI z 98 x2.toNatClampNeg).toNatClampNeg)) + (lcI z 121 (lcI z 99 x2.toNatClampNeg).toNatClampNeg)) + 3) z))))) else (fQ_typed_90 (fQ_typed_36 n) x2 x2 (x2 + 1) z))
def fQ_typed_14 (x1 : Int32) (t1 : Int32) (z : lc_S) : Option ((Int32) × lc_S) :=
  if 0 < (lcI (lcUI z 80 0 t1) 80 0) then (fQ_typed_32 (lcUI z 80 0 t1)) else (lc_bnd (fQ_find x1 (lcUI z 80 0 t1)) (fun r26 z26 => if r26 = 0 then (fQ_typed_32 z26) else (fQ_typed_36 lc_FU 0 z26)))
def fQ_typed (a1 : Int32) (z : lc_S) : Option ((Int32) × lc_S) :=
  lc_bnd (fQ_isThere a1 z) (fun r3 z3 => if r3 = 0 then (fQ_typed_14 a1 1 z3) else (fQ_typed_14 a1 0 z3))
set_option maxHeartbeats 4000000 in
set_option maxRecDepth 100000 in
theorem bQ_typed_32 {p : Program} {l : Launch} {e : Env} {s : State} {m : MethodId} {args : Array Value} {below : List Frame} {meth : Method} {c : Code} {G : lc_G} (hx : p.tables.exec = Jvm.exec) (hb : c.code = prog_10_method_32_code) (hml : c.maxLocals = 3) (hr : meth.sig.returnType = (some .int)) (hlocks : meth.locks = false) (hown : s.vm.findClass "LinearCellsModel" = some m.cls) (hts : ∀ w ∈ lc_ALL, w.before args s = true) (hE : lc_E G s) {r : Int32} {z' : lc_S} : ∀ {z : lc_S} {H : Heap} {locs : List Loc} {ls : Array Slot}, fQ_typed_32 z = some (r, z') → lv_has ls 3 [] → lc_H G z s.heap H locs → W p l e (lc_rm 4) s m args below meth c H locs 0 0 (MQ below (lc_Q G (some (.int r)) z') args s 0 0 (lc_A G)) (F0 m 32 ls []) := by
  intro z H locs ls hf hl hH
  rw [fQ_typed_32] at hf
  refine lv_iconst (v := 0) hx hb dQ_typed_32 (by decide) ?_
  exact lc_iret hx hb hr hlocks hH hf dQ_typed_33
set_option maxHeartbeats 4000000 in
set_option maxRecDepth 100000 in
theorem bQ_typed_90 {p : Program} {l : Launch} {e : Env} {s : State} {m : MethodId} {args : Array Value} {below : List Frame} {meth : Method} {c : Code} {G : lc_G} (hx : p.tables.exec = Jvm.exec) (hb : c.code = prog_10_method_32_code) (hml : c.maxLocals = 3) (hr : meth.sig.returnType = (some .int)) (hlocks : meth.locks = false) (hown : s.vm.findClass "LinearCellsModel" = some m.cls) (hts : ∀ w ∈ lc_ALL, w.before args s = true) (hE : lc_E G s) {k36 : Int32 → lc_S → Option ((Int32) × lc_S)} {r : Int32} {z' : lc_S} (hk36 : ∀ {x2 : Int32} {z : lc_S} {H : Heap} {locs : List Loc} {ls : Array Slot}, k36 x2 z = some (r, z') → lv_has ls 3 [(0, .ref (lc_ad G 80)), (2, .int x2)] → lc_H G z s.heap H locs → W p l e (lc_rm 4) s m args below meth c H locs 0 0 (MQ below (lc_Q G (some (.int r)) z') args s 0 0 (lc_A G)) (F0 m 36 ls [])) : ∀ {x2 : Int32} {t1 : Int32} {t2 : Int32} {z : lc_S} {H : Heap} {locs : List Loc} {ls : Array Slot}, fQ_typed_90 k36 x2 t1 t2 z = some (r, z') → lv_has ls 3 [(0, .ref (lc_ad G 80)), (2, .int x2)] → lc_H G z s.heap H locs → W p l e (lc_rm 4) s m args below meth c H locs 0 0 (MQ below (lc_Q G (some (.int r)) z') args s 0 0 (lc_A G)) (F0 m 90 ls [.int t2, .int t1, .ref (lc_ad G 121)]) := by
  intro x2 t1 t2 z H locs ls hf hl hH
  rw [fQ_typed_90] at hf
  obtain ⟨hi90, hf⟩ := lc_chk_some hf
  refine lc_iast hx hb hE hH lc_h121 rfl hi90 dQ_typed_90 (fun H locs hH => ?_)
  obtain ⟨x91, e91⟩ : ∃ x : Int32, x = x2 + 1 := ⟨_, rfl⟩
  replace hf := lc_let_of e91 hf
  refine lv_iinc (k := 1) (v := x91) hx hb dQ_typed_91 hl rfl ((lc_incv _ (by decide)).trans e91.symm) (by decide) rfl (fun ls hl => ?_)
  replace hl : lv_has ls 3 [(2, .int x91), (0, .ref (lc_ad G 80))] := hl
  refine lv_goto (tgt := 36) hx hb dQ_typed_94 (by decide) ?_
  exact hk36 hf (lv_sub hl [1, 0] rfl) hH
set_option maxHeartbeats 4000000 in
set_option maxRecDepth 100000 in
theorem bQ_typed_36 {p : Program} {l : Launch} {e : Env} {s : State} {m : MethodId} {args : Array Value} {below : List Frame} {meth : Method} {c : Code} {G : lc_G} (hx : p.tables.exec = Jvm.exec) (hb : c.code = prog_10_method_32_code) (hml : c.maxLocals = 3) (hr : meth.sig.returnType = (some .int)) (hlocks : meth.locks = false) (hown : s.vm.findClass "LinearCellsModel" = some m.cls) (hts : ∀ w ∈ lc_ALL, w.before args s = true) (hE : lc_E G s) {r : Int32} {z' : lc_S} : ∀ (n : Nat) {x2 : Int32} {z : lc_S} {H : Heap} {locs : List Loc} {ls : Array Slot}, fQ_typed_36 n x2 z = some (r, z') → lv_has ls 3 [(0, .ref (lc_ad G 80)), (2, .int x2)] → lc_H G z s.heap H locs → W p l e (lc_rm 4) s m args below meth c H locs 0 0 (MQ below (lc_Q G (some (.int r)) z') args s 0 0 (lc_A G)) (F0 m 36 ls []) := by
  intro n
  induction n with
  | zero =>
    intro x2 z H locs ls hf hl hH
    exact absurd (show (none : Option ((Int32) × lc_S)) = some (r, z') from hf) (fun h => by cases h)
  | succ n ih =>
    intro x2 z H locs ls hf hl hH
    rw [fQ_typed_36] at hf
    refine lv_iload_n hx hb dQ_typed_36 rfl (lv_at hl 1 rfl) ?_
    refine lv_aload_n hx hb dQ_typed_37 rfl (lv_at hl 0 rfl) ?_
    refine lc_getf (d := 20) (q := 100) hx hb hts hown hE hH flQ_68 lc_h80 rfl rfl dQ_typed_38 ?_
    refine lv_iconst (v := 0) hx hb dQ_typed_41 (by decide) ?_
    refine lc_iald hx hb hE hH lc_h100 rfl (by decide) dQ_typed_42 ?_
    refine lv_icmp_gt (tgt := 97) hx hb dQ_typed_43 (by decide) (fun hc => ?_) (fun hc => ?_)
    · replace hf := lc_ite_pos hc hf
      refine lv_aload_n hx hb dQ_typed_97 rfl (lv_at hl 0 rfl) ?_
      refine lc_getf (d := 41) (q := 121) hx hb hts hown hE hH flQ_132 lc_h80 rfl rfl dQ_typed_98 ?_
      refine lv_aload_n hx hb dQ_typed_101 rfl (lv_at hl 0 rfl) ?_
      refine lc_getf (d := 20) (q := 100) hx hb hts hown hE hH flQ_68 lc_h80 rfl rfl dQ_typed_102 ?_
      refine lv_iconst (v := 0) hx hb dQ_typed_105 (by decide) ?_
      refine lc_iald hx hb hE hH lc_h100 rfl (by decide) dQ_typed_106 ?_
      obtain ⟨hi107, hf⟩ := lc_chk_some hf
      refine lc_iald hx hb hE hH lc_h121 rfl hi107 dQ_typed_107 ?_
      exact lc_iret hx hb hr hlocks hH hf dQ_typed_108
    · replace hf := lc_ite_neg hc hf
      refine lv_aload_n hx hb dQ_typed_46 rfl (lv_at hl 0 rfl) ?_
      refine lc_getf (d := 41) (q := 121) hx hb hts hown hE hH flQ_132 lc_h80 rfl rfl dQ_typed_47 ?_
      refine lv_iload_n hx hb dQ_typed_50 rfl (lv_at hl 1 rfl) ?_
      refine lv_iload_n hx hb dQ_typed_51 rfl (lv_at hl 1 rfl) ?_
      refine lv_iconst (v := 2) hx hb dQ_typed_52 (by decide) ?_
      refine lv_icmp_ge (tgt := 62) hx hb dQ_typed_53 (by decide) (fun hc => ?_) (fun hc => ?_)
      · replace hf := lc_ite_pos hc hf
        refine lv_bipush (v := 8) hx hb dQ_typed_62 (by decide) ?_
        refine lv_aload_n hx hb dQ_typed_64 rfl (lv_at hl 0 rfl) ?_
        refine lc_getf (d := 41) (q := 121) hx hb hts hown hE hH flQ_132 lc_h80 rfl rfl dQ_typed_65 ?_
        refine lv_aload_n hx hb dQ_typed_68 rfl (lv_at hl 0 rfl) ?_
        refine lc_getf (d := 18) (q := 98) hx hb hts hown hE hH flQ_62 lc_h80 rfl rfl dQ_typed_69 ?_
        refine lv_iload_n hx hb dQ_typed_72 rfl (lv_at hl 1 rfl) ?_
        obtain ⟨hi73, hf⟩ := lc_chk_some hf
        refine lc_iald hx hb hE hH lc_h98 rfl hi73 dQ_typed_73 ?_
        obtain ⟨hi74, hf⟩ := lc_chk_some hf
        refine lc_iald hx hb hE hH lc_h121 rfl hi74 dQ_typed_74 ?_
        refine lv_imul hx hb dQ_typed_75 ?_
        refine lv_aload_n hx hb dQ_typed_76 rfl (lv_at hl 0 rfl) ?_
        refine lc_getf (d := 41) (q := 121) hx hb hts hown hE hH flQ_132 lc_h80 rfl rfl dQ_typed_77 ?_
        refine lv_aload_n hx hb dQ_typed_80 rfl (lv_at hl 0 rfl) ?_
        refine lc_getf (d := 19) (q := 99) hx hb hts hown hE hH flQ_65 lc_h80 rfl rfl dQ_typed_81 ?_
        refine lv_iload_n hx hb dQ_typed_84 rfl (lv_at hl 1 rfl) ?_
        obtain ⟨hi85, hf⟩ := lc_chk_some hf
        refine lc_iald hx hb hE hH lc_h99 rfl hi85 dQ_typed_85 ?_
        obtain ⟨hi86, hf⟩ := lc_chk_some hf
        refine lc_iald hx hb hE hH lc_h121 rfl hi86 dQ_typed_86 ?_
        refine lv_iadd hx hb dQ_typed_87 ?_
        refine lv_iconst (v := 3) hx hb dQ_typed_88 (by decide) ?_
        refine lv_iadd hx hb dQ_typed_89 ?_
        exact bQ_typed_90 hx hb hml hr hlocks hown hts hE (fun hf hl hH => ih hf hl hH) hf (lv_sub hl [0, 1] rfl) hH
      · replace hf := lc_ite_neg hc hf
        refine lv_iload_n hx hb dQ_typed_56 rfl (lv_at hl 1 rfl) ?_
        refine lv_iconst (v := 1) hx hb dQ_typed_57 (by decide) ?_
        refine lv_iadd hx hb dQ_typed_58 ?_
        refine lv_goto (tgt := 90) hx hb dQ_typed_59 (by decide) ?_
        exact bQ_typed_90 hx hb hml hr hlocks hown hts hE (fun hf hl hH => ih hf hl hH) hf (lv_sub hl [0, 1] rfl) hH
set_option maxHeartbeats 4000000 in
set_option maxRecDepth 100000 in
theorem bQ_typed_14 {p : Program} {l : Launch} {e : Env} {s : State} {m : MethodId} {args : Array Value} {below : List Frame} {meth : Method} {c : Code} {G : lc_G} (hx : p.tables.exec = Jvm.exec) (hb : c.code = prog_10_method_32_code) (hml : c.maxLocals = 3) (hr : meth.sig.returnType = (some .int)) (hlocks : meth.locks = false) (hown : s.vm.findClass "LinearCellsModel" = some m.cls) (hts : ∀ w ∈ lc_ALL, w.before args s = true) (hE : lc_E G s) {r : Int32} {z' : lc_S} : ∀ {x1 : Int32} {t1 : Int32} {z : lc_S} {H : Heap} {locs : List Loc} {ls : Array Slot}, fQ_typed_14 x1 t1 z = some (r, z') → lv_has ls 3 [(0, .ref (lc_ad G 80)), (1, .int x1)] → lc_H G z s.heap H locs → W p l e (lc_rm 4) s m args below meth c H locs 0 0 (MQ below (lc_Q G (some (.int r)) z') args s 0 0 (lc_A G)) (F0 m 14 ls [.int t1, .ref (lc_ad G 80)]) := by
  intro x1 t1 z H locs ls hf hl hH
  rw [fQ_typed_14] at hf
  refine lc_puti hx hb hts hown hE hH fpQ_135 lc_h80 rfl rfl rfl dQ_typed_14 (fun H locs hH => ?_)
  refine lv_aload_n hx hb dQ_typed_17 rfl (lv_at hl 0 rfl) ?_
  refine lc_geti hx hb hts hown hE hH flQ_135 lc_h80 rfl dQ_typed_18 ?_
  refine lv_if_gt (tgt := 32) hx hb dQ_typed_21 (by decide) (fun hc => ?_) (fun hc => ?_)
  · replace hf := lc_ite_pos hc hf
    exact bQ_typed_32 hx hb hml hr hlocks hown hts hE hf (lv_sub hl [] rfl) hH
  · replace hf := lc_ite_neg hc hf
    refine lv_aload_n hx hb dQ_typed_24 rfl (lv_at hl 0 rfl) ?_
    refine lv_iload_n hx hb dQ_typed_25 rfl (lv_at hl 1 rfl) ?_
    obtain ⟨r26, z26, h26, hf⟩ := lc_bnd_some hf
    refine lc_calli (va_runV (As := [.int x1]) (rest := []) ⟨hx, hb, hml, hown, hts⟩ (cQ_find l G h26) (lc_cwV hts kvQ_244 (lc_room (by decide) (by decide))) (lc_preV hE hH lc_h80 rfl _) rfl rfl hl.1 rfl (lv_room (Nat.le_of_ble_eq_true rfl)) dQ_typed_26 ⟨Nat.zero_le _, Nat.zero_le _⟩) hH (fun H locs hH => ?_)
    refine lv_if_ne (tgt := 34) hx hb dQ_typed_29 (by decide) (fun hc => ?_) (fun hc => ?_)
    · replace hf := lc_ite_neg hc hf
      refine lv_iconst (v := 0) hx hb dQ_typed_34 (by decide) ?_
      refine lv_istore_n hx hb dQ_typed_35 rfl hl (by decide) rfl (fun ls hl => ?_)
      replace hl : lv_has ls 3 [(2, .int 0), (0, .ref (lc_ad G 80)), (1, .int x1)] := hl
      exact bQ_typed_36 hx hb hml hr hlocks hown hts hE _ hf (lv_sub hl [1, 0] rfl) hH
    · replace hf := lc_ite_pos hc hf
      exact bQ_typed_32 hx hb hml hr hlocks hown hts hE hf (lv_sub hl [] rfl) hH
set_option maxHeartbeats 4000000 in
set_option maxRecDepth 100000 in
theorem cQ_typed (l : Launch) (G : lc_G) {a1 : Int32} {r : Int32} {z z' : lc_S} (hf : fQ_typed a1 z = some (r, z')) : lc_M l G yQ_typed wQ_typed 4 [.ref (lc_ad G 80), .int a1] z (some (.int r)) z' := by
  refine lc_M_of (cc := prog_10_method_32_code) (maxL := 3) (ret := (some .int)) (own := "LinearCellsModel") (by decide) rfl (fun w h => List.mem_cons_of_mem _ h) (Nat.le_of_ble_eq_true rfl) rfl ?_
  intro p e s m below meth c hx hb hml hr hlocks hown hts hE ls hl hH
  replace hl : lv_has ls 3 [(0, .ref (lc_ad G 80)), (1, .int a1)] := hl
  rw [fQ_typed] at hf
  refine lv_aload_n hx hb dQ_typed_0 rfl (lv_at hl 0 rfl) ?_
  refine lv_aload_n hx hb dQ_typed_1 rfl (lv_at hl 0 rfl) ?_
  refine lv_iload_n hx hb dQ_typed_2 rfl (lv_at hl 1 rfl) ?_
  obtain ⟨r3, z3, h3, hf⟩ := lc_bnd_some hf
  refine lc_calli (va_runV (As := [.int a1]) (rest := [.ref (lc_ad G 80)]) ⟨hx, hb, hml, hown, hts⟩ (cQ_isThere l G h3) (lc_cwV hts kvQ_230 (lc_room (by decide) (by decide))) (lc_preV hE hH lc_h80 rfl _) rfl rfl hl.1 rfl (lv_room (Nat.le_of_ble_eq_true rfl)) dQ_typed_3 ⟨Nat.zero_le _, Nat.zero_le _⟩) hH (fun H locs hH => ?_)
  refine lv_if_eq (tgt := 13) hx hb dQ_typed_6 (by decide) (fun hc => ?_) (fun hc => ?_)
  · replace hf := lc_ite_pos hc hf
    refine lv_iconst (v := 1) hx hb dQ_typed_13 (by decide) ?_
    exact bQ_typed_14 hx hb hml hr hlocks hown hts hE hf (lv_sub hl [0, 1] rfl) hH
  · replace hf := lc_ite_neg hc hf
    refine lv_iconst (v := 0) hx hb dQ_typed_9 (by decide) ?_
    refine lv_goto (tgt := 14) hx hb dQ_typed_10 (by decide) ?_
    exact bQ_typed_14 hx hb hml hr hlocks hown hts hE hf (lv_sub hl [0, 1] rfl) hH
theorem dQ_isNumber_0 : decode prog_10_method_33_code 0 = .ok (.lload_n 0, 1) := by decide +kernel
theorem dQ_isNumber_1 : decode prog_10_method_33_code 1 = .ok (.bipush 32, 2) := by decide +kernel
theorem dQ_isNumber_3 : decode prog_10_method_33_code 3 = .ok (.lshr, 1) := by decide +kernel
theorem dQ_isNumber_4 : decode prog_10_method_33_code 4 = .ok (.lconst 0, 1) := by decide +kernel
theorem dQ_isNumber_5 : decode prog_10_method_33_code 5 = .ok (.lcmp, 1) := by decide +kernel
theorem dQ_isNumber_6 : decode prog_10_method_33_code 6 = .ok (.ifCond .ne 7, 3) := by decide +kernel
theorem dQ_isNumber_9 : decode prog_10_method_33_code 9 = .ok (.iconst 1, 1) := by decide +kernel
theorem dQ_isNumber_10 : decode prog_10_method_33_code 10 = .ok (.goto 4, 3) := by decide +kernel
theorem dQ_isNumber_13 : decode prog_10_method_33_code 13 = .ok (.iconst 0, 1) := by decide +kernel
theorem dQ_isNumber_14 : decode prog_10_method_33_code 14 = .ok (.ireturn, 1) := by decide +kernel
def fQ_isNumber (a0 : Int64) (z : lc_S) : Option ((Int32) × lc_S) :=
  if (lg_cmp (a0 >>> ((32 : Int32).toInt64 &&& 63)) 0) = 0 then (some (1, z)) else (some (0, z))
set_option maxHeartbeats 4000000 in
set_option maxRecDepth 100000 in
theorem cQ_isNumber (l : Launch) (G : lc_G) {a0 : Int64} {r : Int32} {z z' : lc_S} (hf : fQ_isNumber a0 z = some (r, z')) : lc_M l G yQ_isNumber wQ_isNumber 0 [.long a0] z (some (.int r)) z' := by
  refine lc_M_of (cc := prog_10_method_33_code) (maxL := 2) (ret := (some .boolean)) (own := "LinearCellsModel") (by decide) rfl (fun w h => List.mem_cons_of_mem _ h) (Nat.le_of_ble_eq_true rfl) rfl ?_
  intro p e s m below meth c hx hb hml hr hlocks hown hts hE ls hl hH
  replace hl : lv_has ls 2 [(0, .long a0)] := hl
  rw [fQ_isNumber] at hf
  refine lv_lload_n hx hb dQ_isNumber_0 rfl (lv_at hl 0 rfl) ?_
  refine lv_bipush (v := 32) hx hb dQ_isNumber_1 (by decide) ?_
  refine lv_lshr hx hb dQ_isNumber_3 rfl ?_
  refine lv_lconst (v := 0) hx hb dQ_isNumber_4 (by decide) ?_
  refine W.lcmp hx hb dQ_isNumber_5 ?_
  refine lv_if_ne (tgt := 13) hx hb dQ_isNumber_6 (by decide) (fun hc => ?_) (fun hc => ?_)
  · replace hf := lc_ite_neg hc hf
    refine lv_iconst (v := 0) hx hb dQ_isNumber_13 (by decide) ?_
    exact lc_zret hx hb hr hlocks (by decide) hH hf dQ_isNumber_14
  · replace hf := lc_ite_pos hc hf
    refine lv_iconst (v := 1) hx hb dQ_isNumber_9 (by decide) ?_
    refine lv_goto (tgt := 14) hx hb dQ_isNumber_10 (by decide) ?_
    exact lc_zret hx hb hr hlocks (by decide) hH hf dQ_isNumber_14
theorem dQ_plain_0 : decode prog_10_method_34_code 0 = .ok (.lload_n 0, 1) := by decide +kernel
theorem dQ_plain_1 : decode prog_10_method_34_code 1 = .ok (.ldc2_w 257, 3) := by decide +kernel
theorem dQ_plain_4 : decode prog_10_method_34_code 4 = .ok (.land, 1) := by decide +kernel
theorem dQ_plain_5 : decode prog_10_method_34_code 5 = .ok (.lreturn, 1) := by decide +kernel
def fQ_plain (a0 : Int64) (z : lc_S) : Option ((Int64) × lc_S) :=
  some (a0 &&& 4294967295, z)
set_option maxHeartbeats 4000000 in
set_option maxRecDepth 100000 in
theorem cQ_plain (l : Launch) (G : lc_G) {a0 : Int64} {r : Int64} {z z' : lc_S} (hf : fQ_plain a0 z = some (r, z')) : lc_M l G yQ_plain wQ_plain 0 [.long a0] z (some (.long r)) z' := by
  refine lc_M_of (cc := prog_10_method_34_code) (maxL := 2) (ret := (some .long)) (own := "LinearCellsModel") (by decide) rfl (fun w h => List.mem_cons_of_mem _ h) (Nat.le_of_ble_eq_true rfl) rfl ?_
  intro p e s m below meth c hx hb hml hr hlocks hown hts hE ls hl hH
  replace hl : lv_has ls 2 [(0, .long a0)] := hl
  rw [fQ_plain] at hf
  refine lv_lload_n hx hb dQ_plain_0 rfl (lv_at hl 0 rfl) ?_
  refine lv_ldc2 hx hb hown (hts _ kcQ_257) dQ_plain_1 ?_
  refine lv_land hx hb dQ_plain_4 ?_
  exact lc_lret hx hb hr hlocks hH hf dQ_plain_5
theorem dQ_stop_0 : decode prog_10_method_35_code 0 = .ok (.aload_n 0, 1) := by decide +kernel
theorem dQ_stop_1 : decode prog_10_method_35_code 1 = .ok (.aload_n 0, 1) := by decide +kernel
theorem dQ_stop_2 : decode prog_10_method_35_code 2 = .ok (.getfield 259, 3) := by decide +kernel
theorem dQ_stop_5 : decode prog_10_method_35_code 5 = .ok (.ifCond .ne 7, 3) := by decide +kernel
theorem dQ_stop_8 : decode prog_10_method_35_code 8 = .ok (.iload_n 1, 1) := by decide +kernel
theorem dQ_stop_9 : decode prog_10_method_35_code 9 = .ok (.goto 7, 3) := by decide +kernel
theorem dQ_stop_12 : decode prog_10_method_35_code 12 = .ok (.aload_n 0, 1) := by decide +kernel
theorem dQ_stop_13 : decode prog_10_method_35_code 13 = .ok (.getfield 259, 3) := by decide +kernel
theorem dQ_stop_16 : decode prog_10_method_35_code 16 = .ok (.putfield 259, 3) := by decide +kernel
theorem dQ_stop_19 : decode prog_10_method_35_code 19 = .ok (.return_, 1) := by decide +kernel
def fQ_stop_16 (t1 : Int32) (z : lc_S) : Option ((Unit) × lc_S) :=
  some ((), lcUI z 80 45 t1)
def fQ_stop (a1 : Int32) (z : lc_S) : Option ((Unit) × lc_S) :=
  if (lcI z 80 45) = 0 then (fQ_stop_16 a1 z) else (fQ_stop_16 (lcI z 80 45) z)
set_option maxHeartbeats 4000000 in
set_option maxRecDepth 100000 in
theorem bQ_stop_16 {p : Program} {l : Launch} {e : Env} {s : State} {m : MethodId} {args : Array Value} {below : List Frame} {meth : Method} {c : Code} {G : lc_G} (hx : p.tables.exec = Jvm.exec) (hb : c.code = prog_10_method_35_code) (hml : c.maxLocals = 2) (hr : meth.sig.returnType = none) (hlocks : meth.locks = false) (hown : s.vm.findClass "LinearCellsModel" = some m.cls) (hts : ∀ w ∈ lc_ALL, w.before args s = true) (hE : lc_E G s) {r : Unit} {z' : lc_S} : ∀ {t1 : Int32} {z : lc_S} {H : Heap} {locs : List Loc} {ls : Array Slot}, fQ_stop_16 t1 z = some (r, z') → lv_has ls 2 [] → lc_H G z s.heap H locs → W p l e (lc_rm 0) s m args below meth c H locs 0 0 (MQ below (lc_Q G none z') args s 0 0 (lc_A G)) (F0 m 16 ls [.int t1, .ref (lc_ad G 80)]) := by
  intro t1 z H locs ls hf hl hH
  rw [fQ_stop_16] at hf
  refine lc_puti hx hb hts hown hE hH fpQ_259 lc_h80 rfl rfl rfl dQ_stop_16 (fun H locs hH => ?_)
  exact lc_vret hx hb hr hlocks hH hf dQ_stop_19
set_option maxHeartbeats 4000000 in
set_option maxRecDepth 100000 in
theorem cQ_stop (l : Launch) (G : lc_G) {a1 : Int32} {r : Unit} {z z' : lc_S} (hf : fQ_stop a1 z = some (r, z')) : lc_M l G yQ_stop wQ_stop 0 [.ref (lc_ad G 80), .int a1] z none z' := by
  refine lc_M_of (cc := prog_10_method_35_code) (maxL := 2) (ret := none) (own := "LinearCellsModel") (by decide) rfl (fun w h => List.mem_cons_of_mem _ h) (Nat.le_of_ble_eq_true rfl) rfl ?_
  intro p e s m below meth c hx hb hml hr hlocks hown hts hE ls hl hH
  replace hl : lv_has ls 2 [(0, .ref (lc_ad G 80)), (1, .int a1)] := hl
  rw [fQ_stop] at hf
  refine lv_aload_n hx hb dQ_stop_0 rfl (lv_at hl 0 rfl) ?_
  refine lv_aload_n hx hb dQ_stop_1 rfl (lv_at hl 0 rfl) ?_
  refine lc_geti hx hb hts hown hE hH flQ_259 lc_h80 rfl dQ_stop_2 ?_
  refine lv_if_ne (tgt := 12) hx hb dQ_stop_5 (by decide) (fun hc => ?_) (fun hc => ?_)
  · replace hf := lc_ite_neg hc hf
    refine lv_aload_n hx hb dQ_stop_12 rfl (lv_at hl 0 rfl) ?_
    refine lc_geti hx hb hts hown hE hH flQ_259 lc_h80 rfl dQ_stop_13 ?_
    exact bQ_stop_16 hx hb hml hr hlocks hown hts hE hf (lv_sub hl [] rfl) hH
  · replace hf := lc_ite_pos hc hf
    refine lv_iload_n hx hb dQ_stop_8 rfl (lv_at hl 1 rfl) ?_
    refine lv_goto (tgt := 16) hx hb dQ_stop_9 (by decide) ?_
    exact bQ_stop_16 hx hb hml hr hlocks hown hts hE hf (lv_sub hl [] rfl) hH
theorem dQ_enter_0 : decode prog_10_method_36_code 0 = .ok (.aload_n 0, 1) := by decide +kernel
theorem dQ_enter_1 : decode prog_10_method_36_code 1 = .ok (.getfield 262, 3) := by decide +kernel
theorem dQ_enter_4 : decode prog_10_method_36_code 4 = .ok (.sipush 2000, 3) := by decide +kernel
theorem dQ_enter_7 : decode prog_10_method_36_code 7 = .ok (.if_icmp .ne 9, 3) := by decide +kernel
theorem dQ_enter_10 : decode prog_10_method_36_code 10 = .ok (.aload_n 0, 1) := by decide +kernel
theorem dQ_enter_11 : decode prog_10_method_36_code 11 = .ok (.iconst 3, 1) := by decide +kernel
theorem dQ_enter_12 : decode prog_10_method_36_code 12 = .ok (.invokevirtual 265, 3) := by decide +kernel
theorem dQ_enter_15 : decode prog_10_method_36_code 15 = .ok (.return_, 1) := by decide +kernel
theorem dQ_enter_16 : decode prog_10_method_36_code 16 = .ok (.aload_n 0, 1) := by decide +kernel
theorem dQ_enter_17 : decode prog_10_method_36_code 17 = .ok (.dup, 1) := by decide +kernel
theorem dQ_enter_18 : decode prog_10_method_36_code 18 = .ok (.getfield 262, 3) := by decide +kernel
theorem dQ_enter_21 : decode prog_10_method_36_code 21 = .ok (.iconst 1, 1) := by decide +kernel
theorem dQ_enter_22 : decode prog_10_method_36_code 22 = .ok (.iadd, 1) := by decide +kernel
theorem dQ_enter_23 : decode prog_10_method_36_code 23 = .ok (.putfield 262, 3) := by decide +kernel
theorem dQ_enter_26 : decode prog_10_method_36_code 26 = .ok (.aload_n 0, 1) := by decide +kernel
theorem dQ_enter_27 : decode prog_10_method_36_code 27 = .ok (.getfield 83, 3) := by decide +kernel
theorem dQ_enter_30 : decode prog_10_method_36_code 30 = .ok (.aload_n 0, 1) := by decide +kernel
theorem dQ_enter_31 : decode prog_10_method_36_code 31 = .ok (.getfield 268, 3) := by decide +kernel
theorem dQ_enter_34 : decode prog_10_method_36_code 34 = .ok (.iload_n 2, 1) := by decide +kernel
theorem dQ_enter_35 : decode prog_10_method_36_code 35 = .ok (.iastore, 1) := by decide +kernel
theorem dQ_enter_36 : decode prog_10_method_36_code 36 = .ok (.aload_n 0, 1) := by decide +kernel
theorem dQ_enter_37 : decode prog_10_method_36_code 37 = .ok (.getfield 86, 3) := by decide +kernel
theorem dQ_enter_40 : decode prog_10_method_36_code 40 = .ok (.aload_n 0, 1) := by decide +kernel
theorem dQ_enter_41 : decode prog_10_method_36_code 41 = .ok (.getfield 268, 3) := by decide +kernel
theorem dQ_enter_44 : decode prog_10_method_36_code 44 = .ok (.iload_n 1, 1) := by decide +kernel
theorem dQ_enter_45 : decode prog_10_method_36_code 45 = .ok (.iastore, 1) := by decide +kernel
theorem dQ_enter_46 : decode prog_10_method_36_code 46 = .ok (.aload_n 0, 1) := by decide +kernel
theorem dQ_enter_47 : decode prog_10_method_36_code 47 = .ok (.getfield 89, 3) := by decide +kernel
theorem dQ_enter_50 : decode prog_10_method_36_code 50 = .ok (.aload_n 0, 1) := by decide +kernel
theorem dQ_enter_51 : decode prog_10_method_36_code 51 = .ok (.getfield 268, 3) := by decide +kernel
theorem dQ_enter_54 : decode prog_10_method_36_code 54 = .ok (.iload_n 3, 1) := by decide +kernel
theorem dQ_enter_55 : decode prog_10_method_36_code 55 = .ok (.iastore, 1) := by decide +kernel
theorem dQ_enter_56 : decode prog_10_method_36_code 56 = .ok (.aload_n 0, 1) := by decide +kernel
theorem dQ_enter_57 : decode prog_10_method_36_code 57 = .ok (.getfield 92, 3) := by decide +kernel
theorem dQ_enter_60 : decode prog_10_method_36_code 60 = .ok (.aload_n 0, 1) := by decide +kernel
theorem dQ_enter_61 : decode prog_10_method_36_code 61 = .ok (.getfield 268, 3) := by decide +kernel
theorem dQ_enter_64 : decode prog_10_method_36_code 64 = .ok (.iload 4, 2) := by decide +kernel
theorem dQ_enter_66 : decode prog_10_method_36_code 66 = .ok (.iastore, 1) := by decide +kernel
theorem dQ_enter_67 : decode prog_10_method_36_code 67 = .ok (.aload_n 0, 1) := by decide +kernel
theorem dQ_enter_68 : decode prog_10_method_36_code 68 = .ok (.getfield 95, 3) := by decide +kernel
theorem dQ_enter_71 : decode prog_10_method_36_code 71 = .ok (.aload_n 0, 1) := by decide +kernel
theorem dQ_enter_72 : decode prog_10_method_36_code 72 = .ok (.getfield 268, 3) := by decide +kernel
theorem dQ_enter_75 : decode prog_10_method_36_code 75 = .ok (.iconst 0, 1) := by decide +kernel
theorem dQ_enter_76 : decode prog_10_method_36_code 76 = .ok (.iastore, 1) := by decide +kernel
theorem dQ_enter_77 : decode prog_10_method_36_code 77 = .ok (.aload_n 0, 1) := by decide +kernel
theorem dQ_enter_78 : decode prog_10_method_36_code 78 = .ok (.dup, 1) := by decide +kernel
theorem dQ_enter_79 : decode prog_10_method_36_code 79 = .ok (.getfield 268, 3) := by decide +kernel
theorem dQ_enter_82 : decode prog_10_method_36_code 82 = .ok (.iconst 1, 1) := by decide +kernel
theorem dQ_enter_83 : decode prog_10_method_36_code 83 = .ok (.iadd, 1) := by decide +kernel
theorem dQ_enter_84 : decode prog_10_method_36_code 84 = .ok (.putfield 268, 3) := by decide +kernel
theorem dQ_enter_87 : decode prog_10_method_36_code 87 = .ok (.return_, 1) := by decide +kernel
def fQ_enter (a1 : Int32) (a2 : Int32) (a3 : Int32) (a4 : Int32) (z : lc_S) : Option ((Unit) × lc_S) :=
  if (lcI z 80 48) = 2000 then (lc_bnd (fQ_stop 3 z) (fun r12 z12 => some ((), z12))) else (lc_chk (lc_in (lcI (lcUI z 80 48 ((lcI z 80 48) + 1)) 80 33) 430) (lc_chk (lc_in (lcI (lcUI (lcUI z 80 48 ((lcI z 80 48) + 1)) 105 (lcI (lcUI z 80 48 ((lcI z 80 48) + 1)) 80 33).toNatClampNeg a2) 80 33) 430) (lc_chk (lc_in (lcI (lcUI (lcUI (lcUI z 80 48 ((lcI z 80 48) + 1)) 105 (lcI (lcUI z 80 48 ((lcI z 80 48) + 1)) 80 33).toNatClampNeg a2) 106 (lcI (lcUI (lcUI z 80 48 ((lcI z 80 48) + 1)) 105 (lcI (lcUI z 80 48 ((lcI z 80 48) + 1)) 80 33).toNatClampNeg a2) 80 33).toNatClampNeg a1) 80 33) 430) (lc_chk (lc_in (lcI (lcUI (lcUI (lcUI (lcUI z 80 48 ((lcI z 80 48) + 1)) 105 (lcI (lcUI z 80 48 ((lcI z 80 48) + 1)) 80 33).toNatClampNeg a2) 106 (lcI (lcUI (lcUI z 80 48 ((lcI z 80 48) + 1)) 105 (lcI (lcUI z 80 48 ((lcI z 80 48) + 1)) 80 33).toNatClampNeg a2) 80 33).toNatClampNeg a1) 107 (lcI (lcUI (lcUI (lcUI z 80 48 ((lcI z 80 48) + 1)) 105 (lcI (lcUI z 80 48 ((lcI z 80 48) + 1)) 80 33).toNatClampNeg a2) 106 (lcI (lcUI (lcUI z 80 48 ((lcI z 80 48) + 1)) 105 (lcI (lcUI z 80 48 ((lcI z 80 48) + 1)) 80 33).toNatClampNeg a2) 80 33).toNatClampNeg a1) 80 33).toNatClampNeg a3) 80 33) 430) (lc_chk (lc_in (lcI (lcUI (lcUI (lcUI (lcUI (lcUI z 80 48 ((lcI z 80 48) + 1)) 105 (lcI (lcUI z 80 48 ((lcI z 80 48) + 1)) 80 33).toNatClampNeg a2) 106 (lcI (lcUI (lcUI z 80 48 ((lcI z 80 48) + 1)) 105 (lcI (lcUI z 80 48 ((lcI z 80 48) + 1)) 80 33).toNatClampNeg a2) 80 33).toNatClampNeg a1) 107 (lcI (lcUI (lcUI (lcUI z 80 48 ((lcI z 80 48) + 1)) 105 (lcI (lcUI z 80 48 ((lcI z 80 48) + 1)) 80 33).toNatClampNeg a2) 106 (lcI (lcUI (lcUI z 80 48 ((lcI z 80 48) + 1)) 105 (lcI (lcUI z 80 48 ((lcI z 80 48) + 1)) 80 33).toNatClampNeg a2) 80 33).toNatClampNeg a1) 80 33).toNatClampNeg a3) 108 (lcI (lcUI (lcUI (lcUI (lcUI z 80 48 ((lcI z 80 48) + 1)) 105 (lcI (lcUI z 80 48 ((lcI z 80 48) + 1)) 80 33).toNatClampNeg a2) 106 (lcI (lcUI (lcUI z 80 48 ((lcI z 80 48) + 1)) 105 (lcI (lcUI z 80 48 ((lcI z 80 48) + 1)) 80 33).toNatClampNeg a2) 80 33).toNatClampNeg a1) 107 (lcI (lcUI (lcUI (lcUI z 80 48 ((lcI z 80 48) + 1)) 105 (lcI (lcUI z 80 48 ((lcI z 80 48) + 1)) 80 33).toNatClampNeg a2) 106 (lcI (lcUI (lcUI z 80 48 ((lcI z 80 48) + 1)) 105 (lcI (lcUI z 80 48 ((lcI z 80 48) + 1)) 80 33).toNatClampNeg a2) 80 33).toNatClampNeg a1) 80 33).toNatClampNeg a3) 80 33).toNatClampNeg a4) 80 33) 430) (some ((), lcUI (lcUI (lcUI (lcUI (lcUI (lcUI (lcUI z 80 48 ((lcI z 80 48) + 1)) 105 (lcI (lcUI z 80 48 ((lcI z 80 48) + 1)) 80 33).toNatClampNeg a2) 106 (lcI (lcUI (lcUI z 80 48 ((lcI z 80 48) + 1)) 105 (lcI (lcUI z 80 48 ((lcI z 80 48) + 1)) 80 33).toNatClampNeg a2) 80 33).toNatClampNeg a1) 107 (lcI (lcUI (lcUI (lcUI z 80 48 ((lcI z 80 48) + 1)) 105 (lcI (lcUI z 80 48 ((lcI z 80 48) + 1)) 80 33).toNatClampNeg a2) 106 (lcI (lcUI (lcUI z 80 48 ((lcI z 80 48) + 1)) 105 (lcI (lcUI z 80 48 ((lcI z 80 48) + 1)) 80 33).toNatClampNeg a2) 80 33).toNatClampNeg a1) 80 33).toNatClampNeg a3) 108 (lcI (lcUI (lcUI (lcUI (lcUI z 80 48 ((lcI z 80 48) + 1)) 105 (lcI (lcUI z 80 48 ((lcI z 80 48) + 1)) 80 33).toNatClampNeg a2) 106 (lcI (lcUI (lcUI z 80 48 ((lcI z 80 48) + 1)) 105 (lcI (lcUI z 80 48 ((lcI z 80 48) + 1)) 80 33).toNatClampNeg a2) 80 33).toNatClampNeg a1) 107 (lcI (lcUI (lcUI (lcUI z 80 48 ((lcI z 80 48) + 1)) 105 (lcI (lcUI z 80 48 ((lcI z 80 48) + 1)) 80 33).toNatClampNeg a2) 106 (lcI (lcUI (lcUI z 80 48 ((lcI z 80 48) + 1)) 105 (lcI (lcUI z 80 48 ((lcI z 80 48) + 1)) 80 33).toNatClampNeg a2) 80 33).toNatClampNeg a1) 80 33).toNatClampNeg a3) 80 33).toNatClampNeg a4) 109 (lcI (lcUI (lcUI (lcUI (lcUI (lcUI z 80 48 ((lcI z 80 48) + 1)) 105 (lcI (lcUI z 80 48 ((lcI z 80 48) + 1)) 80 33).toNatClampNeg a2) 106 (lcI (lcUI (lcUI z 80 48 ((lcI z 80 48) + 1)) 105 (lcI (lcUI z 80 48 ((lcI z 80 48) + 1)) 80 33).toNatClampNeg a2) 80 33).toNatClampNeg a1) 107 (lcI (lcUI (lcUI (lcUI z 80 48 ((lcI z 80 48) + 1)) 105 (lcI (lcUI z 80 48 ((lcI z 80 48) + 1)) 80 33).toNatClampNeg a2) 106 (lcI (lcUI (lcUI z 80 48 ((lcI z 80 48) + 1)) 105 (lcI (lcUI z 80 48 ((lcI z 80 48) + 1)) 80 33).toNatClampNeg a2) 80 33).toNatClampNeg a1) 80 33).toNatClampNeg a3) 108 (lcI (lcUI (lcUI (lcUI (lcUI z 80 48 ((lcI z 80 48) + 1)) 105 (lcI (lcUI z 80 48 ((lcI z 80 48) + 1)) 80 33).toNatClampNeg a2) 106 (lcI (lcUI (lcUI z 80 48 ((lcI z 80 48) + 1)) 105 (lcI (lcUI z 80 48 ((lcI z 80 48) + 1)) 80 33).toNatClampNeg a2) 80 33).toNatClampNeg a1) 107 (lcI (lcUI (lcUI (lcUI z 80 48 ((lcI z 80 48) + 1)) 105 (lcI (lcUI z 80 48 ((lcI z 80 48) + 1)) 80 33).toNatClampNeg a2) 106 (lcI (lcUI (lcUI z 80 48 ((lcI z 80 48) + 1)) 105 (lcI (lcUI z 80 48 ((lcI z 80 48) + 1)) 80 33).toNatClampNeg a2) 80 33).toNatClampNeg a1) 80 33).toNatClampNeg a3) 80 33).toNatClampNeg a4) 80 33).toNatClampNeg 0) 80 33 ((lcI (lcUI (lcUI (lcUI (lcUI (lcUI (lcUI z 80 48 ((lcI z 80 48) + 1)) 105 (lcI (lcUI z 80 48 ((lcI z 80 48) + 1)) 80 33).toNatClampNeg a2) 106 (lcI (lcUI (lcUI z 80 48 ((lcI z 80 48) + 1)) 105 (lcI (lcUI z 80 48 ((lcI z 80 48) + 1)) 80 33).toNatClampNeg a2) 80 33).toNatClampNeg a1) 107 (lcI (lcUI (lcUI (lcUI z 80 48 ((lcI z 80 48) + 1)) 105 (lcI (lcUI z 80 48 ((lcI z 80 48) + 1)) 80 33).toNatClampNeg a2) 106 (lcI (lcUI (lcUI z 80 48 ((lcI z 80 48) + 1)) 105 (lcI (lcUI z 80 48 ((lcI z 80 48) + 1)) 80 33).toNatClampNeg a2) 80 33).toNatClampNeg a1) 80 33).toNatClampNeg a3) 108 (lcI (lcUI (lcUI (lcUI (lcUI z 80 48 ((lcI z 80 48) + 1)) 105 (lcI (lcUI z 80 48 ((lcI z 80 48) + 1)) 80 33).toNatClampNeg a2) 106 (lcI (lcUI (lcUI z 80 48 ((lcI z 80 48) + 1)) 105 (lcI (lcUI z 80 48 ((lcI z 80 48) + 1)) 80 33).toNatClampNeg a2) 80 33).toNatClampNeg a1) 107 (lcI (lcUI (lcUI (lcUI z 80 48 ((lcI z 80 48) + 1)) 105 (lcI (lcUI z 80 48 ((lcI z 80 48) + 1)) 80 33).toNatClampNeg a2) 106 (lcI (lcUI (lcUI z 80 48 ((lcI z 80 48) + 1)) 105 (lcI (lcUI z 80 48 ((lcI z 80 48) + 1)) 80 33).toNatClampNeg a2) 80 33).toNatClampNeg a1) 80 33).toNatClampNeg a3) 80 33).toNatClampNeg a4) 109 (lcI (lcUI (lcUI (lcUI (lcUI (lcUI z 80 48 ((lcI z 80 48) + 1)) 105 (lcI (lcUI z 80 48 ((lcI z 80 48) + 1)) 80 33).toNatClampNeg a2) 106 (lcI (lcUI (lcUI z 80 48 ((lcI z 80 48) + 1)) 105 (lcI (lcUI z 80 48 ((lcI z 80 48) + 1)) 80 33).toNatClampNeg a2) 80 33).toNatClampNeg a1) 107 (lcI (lcUI (lcUI (lcUI z 80 48 ((lcI z 80 48) + 1)) 105 (lcI (lcUI z 80 48 ((lcI z 80 48) + 1)) 80 33).toNatClampNeg a2) 106 (lcI (lcUI (lcUI z 80 48 ((lcI z 80 48) + 1)) 105 (lcI (lcUI z 80 48 ((lcI z 80 48) + 1)) 80 33).toNatClampNeg a2) 80 33).toNatClampNeg a1) 80 33).toNatClampNeg a3) 108 (lcI (lcUI (lcUI (lcUI (lcUI z 80 48 ((lcI z 80 48) + 1)) 105 (lcI (lcUI z 80 48 ((lcI z 80 48) + 1)) 80 33).toNatClampNeg a2) 106 (lcI (lcUI (lcUI z 80 48 ((lcI z 80 48) + 1)) 105 (lcI (lcUI z 80 48 ((lcI z 80 48) + 1)) 80 33).toNatClampNeg a2) 80 33).toNatClampNeg a1) 107 (lcI (lcUI (lcUI (lcUI z 80 48 ((lcI z 80 48) + 1)) 105 (lcI (lcUI z 80 48 ((lcI z 80 48) + 1)) 80 33).toNatClampNeg a2) 106 (lcI (lcUI (lcUI z 80 48 ((lcI z 80 48) + 1)) 105 (lcI (lcUI z 80 48 ((lcI z 80 48) + 1)) 80 33).toNatClampNeg a2) 80 33).toNatClampNeg a1) 80 33).toNatClampNeg a3) 80 33).toNatClampNeg a4) 80 33).toNatClampNeg 0) 80 33) + 1))))))))
set_option maxHeartbeats 4000000 in
set_option maxRecDepth 100000 in
theorem cQ_enter (l : Launch) (G : lc_G) {a1 : Int32} {a2 : Int32} {a3 : Int32} {a4 : Int32} {r : Unit} {z z' : lc_S} (hf : fQ_enter a1 a2 a3 a4 z = some (r, z')) : lc_M l G yQ_enter wQ_enter 1 [.ref (lc_ad G 80), .int a1, .int a2, .int a3, .int a4] z none z' := by
  refine lc_M_of (cc := prog_10_method_36_code) (maxL := 5) (ret := none) (own := "LinearCellsModel") (by decide) rfl (fun w h => List.mem_cons_of_mem _ h) (Nat.le_of_ble_eq_true rfl) rfl ?_
  intro p e s m below meth c hx hb hml hr hlocks hown hts hE ls hl hH
  replace hl : lv_has ls 5 [(0, .ref (lc_ad G 80)), (1, .int a1), (2, .int a2), (3, .int a3), (4, .int a4)] := hl
  rw [fQ_enter] at hf
  refine lv_aload_n hx hb dQ_enter_0 rfl (lv_at hl 0 rfl) ?_
  refine lc_geti hx hb hts hown hE hH flQ_262 lc_h80 rfl dQ_enter_1 ?_
  refine lv_sipush (v := 2000) hx hb dQ_enter_4 (by decide) ?_
  refine lv_icmp_ne (tgt := 16) hx hb dQ_enter_7 (by decide) (fun hc => ?_) (fun hc => ?_)
  · replace hf := lc_ite_neg hc hf
    refine lv_aload_n hx hb dQ_enter_16 rfl (lv_at hl 0 rfl) ?_
    refine lv_dup hx hb dQ_enter_17 rfl ?_
    refine lc_geti hx hb hts hown hE hH flQ_262 lc_h80 rfl dQ_enter_18 ?_
    refine lv_iconst (v := 1) hx hb dQ_enter_21 (by decide) ?_
    refine lv_iadd hx hb dQ_enter_22 ?_
    refine lc_puti hx hb hts hown hE hH fpQ_262 lc_h80 rfl rfl rfl dQ_enter_23 (fun H locs hH => ?_)
    refine lv_aload_n hx hb dQ_enter_26 rfl (lv_at hl 0 rfl) ?_
    refine lc_getf (d := 25) (q := 105) hx hb hts hown hE hH flQ_83 lc_h80 rfl rfl dQ_enter_27 ?_
    refine lv_aload_n hx hb dQ_enter_30 rfl (lv_at hl 0 rfl) ?_
    refine lc_geti hx hb hts hown hE hH flQ_268 lc_h80 rfl dQ_enter_31 ?_
    refine lv_iload_n hx hb dQ_enter_34 rfl (lv_at hl 2 rfl) ?_
    obtain ⟨hi35, hf⟩ := lc_chk_some hf
    refine lc_iast hx hb hE hH lc_h105 rfl hi35 dQ_enter_35 (fun H locs hH => ?_)
    refine lv_aload_n hx hb dQ_enter_36 rfl (lv_at hl 0 rfl) ?_
    refine lc_getf (d := 26) (q := 106) hx hb hts hown hE hH flQ_86 lc_h80 rfl rfl dQ_enter_37 ?_
    refine lv_aload_n hx hb dQ_enter_40 rfl (lv_at hl 0 rfl) ?_
    refine lc_geti hx hb hts hown hE hH flQ_268 lc_h80 rfl dQ_enter_41 ?_
    refine lv_iload_n hx hb dQ_enter_44 rfl (lv_at hl 1 rfl) ?_
    obtain ⟨hi45, hf⟩ := lc_chk_some hf
    refine lc_iast hx hb hE hH lc_h106 rfl hi45 dQ_enter_45 (fun H locs hH => ?_)
    refine lv_aload_n hx hb dQ_enter_46 rfl (lv_at hl 0 rfl) ?_
    refine lc_getf (d := 27) (q := 107) hx hb hts hown hE hH flQ_89 lc_h80 rfl rfl dQ_enter_47 ?_
    refine lv_aload_n hx hb dQ_enter_50 rfl (lv_at hl 0 rfl) ?_
    refine lc_geti hx hb hts hown hE hH flQ_268 lc_h80 rfl dQ_enter_51 ?_
    refine lv_iload_n hx hb dQ_enter_54 rfl (lv_at hl 3 rfl) ?_
    obtain ⟨hi55, hf⟩ := lc_chk_some hf
    refine lc_iast hx hb hE hH lc_h107 rfl hi55 dQ_enter_55 (fun H locs hH => ?_)
    refine lv_aload_n hx hb dQ_enter_56 rfl (lv_at hl 0 rfl) ?_
    refine lc_getf (d := 28) (q := 108) hx hb hts hown hE hH flQ_92 lc_h80 rfl rfl dQ_enter_57 ?_
    refine lv_aload_n hx hb dQ_enter_60 rfl (lv_at hl 0 rfl) ?_
    refine lc_geti hx hb hts hown hE hH flQ_268 lc_h80 rfl dQ_enter_61 ?_
    refine lv_iload hx hb dQ_enter_64 (lv_at hl 4 rfl) ?_
    obtain ⟨hi66, hf⟩ := lc_chk_some hf
    refine lc_iast hx hb hE hH lc_h108 rfl hi66 dQ_enter_66 (fun H locs hH => ?_)
    refine lv_aload_n hx hb dQ_enter_67 rfl (lv_at hl 0 rfl) ?_
    refine lc_getf (d := 29) (q := 109) hx hb hts hown hE hH flQ_95 lc_h80 rfl rfl dQ_enter_68 ?_
    refine lv_aload_n hx hb dQ_enter_71 rfl (lv_at hl 0 rfl) ?_
    refine lc_geti hx hb hts hown hE hH flQ_268 lc_h80 rfl dQ_enter_72 ?_
    refine lv_iconst (v := 0) hx hb dQ_enter_75 (by decide) ?_
    obtain ⟨hi76, hf⟩ := lc_chk_some hf
    refine lc_iast hx hb hE hH lc_h109 rfl hi76 dQ_enter_76 (fun H locs hH => ?_)
    refine lv_aload_n hx hb dQ_enter_77 rfl (lv_at hl 0 rfl) ?_
    refine lv_dup hx hb dQ_enter_78 rfl ?_
    refine lc_geti hx hb hts hown hE hH flQ_268 lc_h80 rfl dQ_enter_79 ?_
    refine lv_iconst (v := 1) hx hb dQ_enter_82 (by decide) ?_
    refine lv_iadd hx hb dQ_enter_83 ?_
    refine lc_puti hx hb hts hown hE hH fpQ_268 lc_h80 rfl rfl rfl dQ_enter_84 (fun H locs hH => ?_)
    exact lc_vret hx hb hr hlocks hH hf dQ_enter_87
  · replace hf := lc_ite_pos hc hf
    refine lv_aload_n hx hb dQ_enter_10 rfl (lv_at hl 0 rfl) ?_
    refine lv_iconst (v := 3) hx hb dQ_enter_11 (by decide) ?_
    obtain ⟨r12, z12, h12, hf⟩ := lc_bnd_some hf
    refine lc_callv (va_runV (As := [.int 3]) (rest := []) ⟨hx, hb, hml, hown, hts⟩ (cQ_stop l G h12) (lc_cwV hts kvQ_265 (lc_room (by decide) (by decide))) (lc_preV hE hH lc_h80 rfl _) rfl rfl hl.1 rfl (lv_room (Nat.le_of_ble_eq_true rfl)) dQ_enter_12 ⟨Nat.zero_le _, Nat.zero_le _⟩) hH (fun H locs hH => ?_)
    exact lc_vret hx hb hr hlocks hH hf dQ_enter_15
