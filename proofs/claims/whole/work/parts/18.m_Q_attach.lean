theorem dQ_attach_0 : decode prog_10_method_20_code 0 = .ok (.aload_n 0, 1) := by decide +kernel
theorem dQ_attach_1 : decode prog_10_method_20_code 1 = .ok (.getfield 44, 3) := by decide +kernel
theorem dQ_attach_4 : decode prog_10_method_20_code 4 = .ok (.aload_n 0, 1) := by decide +kernel
theorem dQ_attach_5 : decode prog_10_method_20_code 5 = .ok (.getfield 185, 3) := by decide +kernel
theorem dQ_attach_8 : decode prog_10_method_20_code 8 = .ok (.iconst 1, 1) := by decide +kernel
theorem dQ_attach_9 : decode prog_10_method_20_code 9 = .ok (.isub, 1) := by decide +kernel
theorem dQ_attach_10 : decode prog_10_method_20_code 10 = .ok (.iaload, 1) := by decide +kernel
theorem dQ_attach_11 : decode prog_10_method_20_code 11 = .ok (.istore_n 2, 1) := by decide +kernel
theorem dQ_attach_12 : decode prog_10_method_20_code 12 = .ok (.aload_n 0, 1) := by decide +kernel
theorem dQ_attach_13 : decode prog_10_method_20_code 13 = .ok (.getfield 47, 3) := by decide +kernel
theorem dQ_attach_16 : decode prog_10_method_20_code 16 = .ok (.aload_n 0, 1) := by decide +kernel
theorem dQ_attach_17 : decode prog_10_method_20_code 17 = .ok (.getfield 185, 3) := by decide +kernel
theorem dQ_attach_20 : decode prog_10_method_20_code 20 = .ok (.iconst 1, 1) := by decide +kernel
theorem dQ_attach_21 : decode prog_10_method_20_code 21 = .ok (.isub, 1) := by decide +kernel
theorem dQ_attach_22 : decode prog_10_method_20_code 22 = .ok (.iaload, 1) := by decide +kernel
theorem dQ_attach_23 : decode prog_10_method_20_code 23 = .ok (.istore_n 3, 1) := by decide +kernel
theorem dQ_attach_24 : decode prog_10_method_20_code 24 = .ok (.aload_n 0, 1) := by decide +kernel
theorem dQ_attach_25 : decode prog_10_method_20_code 25 = .ok (.getfield 13, 3) := by decide +kernel
theorem dQ_attach_28 : decode prog_10_method_20_code 28 = .ok (.iload_n 2, 1) := by decide +kernel
theorem dQ_attach_29 : decode prog_10_method_20_code 29 = .ok (.iaload, 1) := by decide +kernel
theorem dQ_attach_30 : decode prog_10_method_20_code 30 = .ok (.istore 4, 2) := by decide +kernel
theorem dQ_attach_32 : decode prog_10_method_20_code 32 = .ok (.iload_n 3, 1) := by decide +kernel
theorem dQ_attach_33 : decode prog_10_method_20_code 33 = .ok (.ifCond .ne 13, 3) := by decide +kernel
theorem dQ_attach_36 : decode prog_10_method_20_code 36 = .ok (.aload_n 0, 1) := by decide +kernel
theorem dQ_attach_37 : decode prog_10_method_20_code 37 = .ok (.getfield 19, 3) := by decide +kernel
theorem dQ_attach_40 : decode prog_10_method_20_code 40 = .ok (.iload_n 2, 1) := by decide +kernel
theorem dQ_attach_41 : decode prog_10_method_20_code 41 = .ok (.iload_n 1, 1) := by decide +kernel
theorem dQ_attach_42 : decode prog_10_method_20_code 42 = .ok (.iastore, 1) := by decide +kernel
theorem dQ_attach_43 : decode prog_10_method_20_code 43 = .ok (.goto 25, 3) := by decide +kernel
theorem dQ_attach_46 : decode prog_10_method_20_code 46 = .ok (.iload_n 3, 1) := by decide +kernel
theorem dQ_attach_47 : decode prog_10_method_20_code 47 = .ok (.iconst 1, 1) := by decide +kernel
theorem dQ_attach_48 : decode prog_10_method_20_code 48 = .ok (.if_icmp .ne 13, 3) := by decide +kernel
theorem dQ_attach_51 : decode prog_10_method_20_code 51 = .ok (.aload_n 0, 1) := by decide +kernel
theorem dQ_attach_52 : decode prog_10_method_20_code 52 = .ok (.getfield 22, 3) := by decide +kernel
theorem dQ_attach_55 : decode prog_10_method_20_code 55 = .ok (.iload_n 2, 1) := by decide +kernel
theorem dQ_attach_56 : decode prog_10_method_20_code 56 = .ok (.iload_n 1, 1) := by decide +kernel
theorem dQ_attach_57 : decode prog_10_method_20_code 57 = .ok (.iastore, 1) := by decide +kernel
theorem dQ_attach_58 : decode prog_10_method_20_code 58 = .ok (.goto 10, 3) := by decide +kernel
theorem dQ_attach_61 : decode prog_10_method_20_code 61 = .ok (.aload_n 0, 1) := by decide +kernel
theorem dQ_attach_62 : decode prog_10_method_20_code 62 = .ok (.getfield 25, 3) := by decide +kernel
theorem dQ_attach_65 : decode prog_10_method_20_code 65 = .ok (.iload_n 2, 1) := by decide +kernel
theorem dQ_attach_66 : decode prog_10_method_20_code 66 = .ok (.iload_n 1, 1) := by decide +kernel
theorem dQ_attach_67 : decode prog_10_method_20_code 67 = .ok (.iastore, 1) := by decide +kernel
theorem dQ_attach_68 : decode prog_10_method_20_code 68 = .ok (.aload_n 0, 1) := by decide +kernel
theorem dQ_attach_69 : decode prog_10_method_20_code 69 = .ok (.getfield 47, 3) := by decide +kernel
theorem dQ_attach_72 : decode prog_10_method_20_code 72 = .ok (.aload_n 0, 1) := by decide +kernel
theorem dQ_attach_73 : decode prog_10_method_20_code 73 = .ok (.getfield 185, 3) := by decide +kernel
theorem dQ_attach_76 : decode prog_10_method_20_code 76 = .ok (.iconst 1, 1) := by decide +kernel
theorem dQ_attach_77 : decode prog_10_method_20_code 77 = .ok (.isub, 1) := by decide +kernel
theorem dQ_attach_78 : decode prog_10_method_20_code 78 = .ok (.dup2, 1) := by decide +kernel
theorem dQ_attach_79 : decode prog_10_method_20_code 79 = .ok (.iaload, 1) := by decide +kernel
theorem dQ_attach_80 : decode prog_10_method_20_code 80 = .ok (.iconst 1, 1) := by decide +kernel
theorem dQ_attach_81 : decode prog_10_method_20_code 81 = .ok (.iadd, 1) := by decide +kernel
theorem dQ_attach_82 : decode prog_10_method_20_code 82 = .ok (.iastore, 1) := by decide +kernel
theorem dQ_attach_83 : decode prog_10_method_20_code 83 = .ok (.iload_n 3, 1) := by decide +kernel
theorem dQ_attach_84 : decode prog_10_method_20_code 84 = .ok (.ifCond .ne 56, 3) := by decide +kernel
theorem dQ_attach_87 : decode prog_10_method_20_code 87 = .ok (.iload 4, 2) := by decide +kernel
theorem dQ_attach_89 : decode prog_10_method_20_code 89 = .ok (.bipush 58, 2) := by decide +kernel
theorem dQ_attach_91 : decode prog_10_method_20_code 91 = .ok (.if_icmp .eq 10, 3) := by decide +kernel
theorem dQ_attach_94 : decode prog_10_method_20_code 94 = .ok (.iload 4, 2) := by decide +kernel
theorem dQ_attach_96 : decode prog_10_method_20_code 96 = .ok (.bipush 47, 2) := by decide +kernel
theorem dQ_attach_98 : decode prog_10_method_20_code 98 = .ok (.if_icmp .ne 42, 3) := by decide +kernel
theorem dQ_attach_101 : decode prog_10_method_20_code 101 = .ok (.aload_n 0, 1) := by decide +kernel
theorem dQ_attach_102 : decode prog_10_method_20_code 102 = .ok (.aload_n 0, 1) := by decide +kernel
theorem dQ_attach_103 : decode prog_10_method_20_code 103 = .ok (.getfield 16, 3) := by decide +kernel
theorem dQ_attach_106 : decode prog_10_method_20_code 106 = .ok (.iload_n 2, 1) := by decide +kernel
theorem dQ_attach_107 : decode prog_10_method_20_code 107 = .ok (.iaload, 1) := by decide +kernel
theorem dQ_attach_108 : decode prog_10_method_20_code 108 = .ok (.sipush 256, 3) := by decide +kernel
theorem dQ_attach_111 : decode prog_10_method_20_code 111 = .ok (.irem, 1) := by decide +kernel
theorem dQ_attach_112 : decode prog_10_method_20_code 112 = .ok (.iload_n 2, 1) := by decide +kernel
theorem dQ_attach_113 : decode prog_10_method_20_code 113 = .ok (.iconst 0, 1) := by decide +kernel
theorem dQ_attach_114 : decode prog_10_method_20_code 114 = .ok (.invokevirtual 191, 3) := by decide +kernel
theorem dQ_attach_117 : decode prog_10_method_20_code 117 = .ok (.iload 4, 2) := by decide +kernel
theorem dQ_attach_119 : decode prog_10_method_20_code 119 = .ok (.bipush 47, 2) := by decide +kernel
theorem dQ_attach_121 : decode prog_10_method_20_code 121 = .ok (.if_icmp .ne 19, 3) := by decide +kernel
theorem dQ_attach_124 : decode prog_10_method_20_code 124 = .ok (.aload_n 0, 1) := by decide +kernel
theorem dQ_attach_125 : decode prog_10_method_20_code 125 = .ok (.aload_n 0, 1) := by decide +kernel
theorem dQ_attach_126 : decode prog_10_method_20_code 126 = .ok (.getfield 16, 3) := by decide +kernel
theorem dQ_attach_129 : decode prog_10_method_20_code 129 = .ok (.iload_n 2, 1) := by decide +kernel
theorem dQ_attach_130 : decode prog_10_method_20_code 130 = .ok (.iaload, 1) := by decide +kernel
theorem dQ_attach_131 : decode prog_10_method_20_code 131 = .ok (.sipush 256, 3) := by decide +kernel
theorem dQ_attach_134 : decode prog_10_method_20_code 134 = .ok (.idiv, 1) := by decide +kernel
theorem dQ_attach_135 : decode prog_10_method_20_code 135 = .ok (.iload_n 2, 1) := by decide +kernel
theorem dQ_attach_136 : decode prog_10_method_20_code 136 = .ok (.iconst 1, 1) := by decide +kernel
theorem dQ_attach_137 : decode prog_10_method_20_code 137 = .ok (.invokevirtual 191, 3) := by decide +kernel
theorem dQ_attach_140 : decode prog_10_method_20_code 140 = .ok (.aload_n 0, 1) := by decide +kernel
theorem dQ_attach_141 : decode prog_10_method_20_code 141 = .ok (.getfield 47, 3) := by decide +kernel
theorem dQ_attach_144 : decode prog_10_method_20_code 144 = .ok (.aload_n 0, 1) := by decide +kernel
theorem dQ_attach_145 : decode prog_10_method_20_code 145 = .ok (.getfield 185, 3) := by decide +kernel
theorem dQ_attach_148 : decode prog_10_method_20_code 148 = .ok (.iconst 1, 1) := by decide +kernel
theorem dQ_attach_149 : decode prog_10_method_20_code 149 = .ok (.isub, 1) := by decide +kernel
theorem dQ_attach_150 : decode prog_10_method_20_code 150 = .ok (.iaload, 1) := by decide +kernel
theorem dQ_attach_151 : decode prog_10_method_20_code 151 = .ok (.iload 4, 2) := by decide +kernel
theorem dQ_attach_153 : decode prog_10_method_20_code 153 = .ok (.invokestatic 214, 3) := by decide +kernel
theorem dQ_attach_156 : decode prog_10_method_20_code 156 = .ok (.if_icmp .ge 5, 3) := by decide +kernel
theorem dQ_attach_159 : decode prog_10_method_20_code 159 = .ok (.iconst (-1), 1) := by decide +kernel
theorem dQ_attach_160 : decode prog_10_method_20_code 160 = .ok (.ireturn, 1) := by decide +kernel
theorem dQ_attach_161 : decode prog_10_method_20_code 161 = .ok (.aload_n 0, 1) := by decide +kernel
theorem dQ_attach_162 : decode prog_10_method_20_code 162 = .ok (.dup, 1) := by decide +kernel
theorem dQ_attach_163 : decode prog_10_method_20_code 163 = .ok (.getfield 179, 3) := by decide +kernel
theorem dQ_attach_166 : decode prog_10_method_20_code 166 = .ok (.iload 4, 2) := by decide +kernel
theorem dQ_attach_168 : decode prog_10_method_20_code 168 = .ok (.bipush 58, 2) := by decide +kernel
theorem dQ_attach_170 : decode prog_10_method_20_code 170 = .ok (.if_icmp .ne 7, 3) := by decide +kernel
theorem dQ_attach_173 : decode prog_10_method_20_code 173 = .ok (.iconst 1, 1) := by decide +kernel
theorem dQ_attach_174 : decode prog_10_method_20_code 174 = .ok (.goto 15, 3) := by decide +kernel
theorem dQ_attach_177 : decode prog_10_method_20_code 177 = .ok (.iload 4, 2) := by decide +kernel
theorem dQ_attach_179 : decode prog_10_method_20_code 179 = .ok (.bipush 47, 2) := by decide +kernel
theorem dQ_attach_181 : decode prog_10_method_20_code 181 = .ok (.if_icmp .ne 7, 3) := by decide +kernel
theorem dQ_attach_184 : decode prog_10_method_20_code 184 = .ok (.iconst 2, 1) := by decide +kernel
theorem dQ_attach_185 : decode prog_10_method_20_code 185 = .ok (.goto 4, 3) := by decide +kernel
theorem dQ_attach_188 : decode prog_10_method_20_code 188 = .ok (.iconst 0, 1) := by decide +kernel
theorem dQ_attach_189 : decode prog_10_method_20_code 189 = .ok (.isub, 1) := by decide +kernel
theorem dQ_attach_190 : decode prog_10_method_20_code 190 = .ok (.putfield 179, 3) := by decide +kernel
theorem dQ_attach_193 : decode prog_10_method_20_code 193 = .ok (.aload_n 0, 1) := by decide +kernel
theorem dQ_attach_194 : decode prog_10_method_20_code 194 = .ok (.bipush 41, 2) := by decide +kernel
theorem dQ_attach_196 : decode prog_10_method_20_code 196 = .ok (.invokevirtual 172, 3) := by decide +kernel
theorem dQ_attach_199 : decode prog_10_method_20_code 199 = .ok (.aload_n 0, 1) := by decide +kernel
theorem dQ_attach_200 : decode prog_10_method_20_code 200 = .ok (.dup, 1) := by decide +kernel
theorem dQ_attach_201 : decode prog_10_method_20_code 201 = .ok (.getfield 185, 3) := by decide +kernel
theorem dQ_attach_204 : decode prog_10_method_20_code 204 = .ok (.iconst 1, 1) := by decide +kernel
theorem dQ_attach_205 : decode prog_10_method_20_code 205 = .ok (.isub, 1) := by decide +kernel
theorem dQ_attach_206 : decode prog_10_method_20_code 206 = .ok (.putfield 185, 3) := by decide +kernel
theorem dQ_attach_209 : decode prog_10_method_20_code 209 = .ok (.iload_n 2, 1) := by decide +kernel
theorem dQ_attach_210 : decode prog_10_method_20_code 210 = .ok (.ireturn, 1) := by decide +kernel
def fQ_attach_189 (x2 : Int32) (t1 : Int32) (t2 : Int32) (z : lc_S) : Option ((Int32) × lc_S) :=
  lc_bnd (fQ_expect 41 (lcUI z 80 19 (t1 - t2))) (fun r196 z196 => some (x2, lcUI z196 80 16 ((lcI z196 80 16) - 1)))
def fQ_attach_140 (x2 : Int32) (x4 : Int32) (z : lc_S) : Option ((Int32) × lc_S) :=
  lc_chk (lc_in ((lcI z 80 16) - 1) 24) (lc_bnd (fQ_partsOf x4 z) (fun r153 z153 => if r153 ≤ (lcI z 93 ((lcI z 80 16) - 1).toNatClampNeg) then (if x4 = 58 then (fQ_attach_189 x2 (lcI z153 80 19) 1 z153) else (if x4 = 47 then (fQ_attach_189 x2 (lcI z153 80 19) 2 z153) else (fQ_attach_189 x2 (lcI z153 80 19) 0 z153))) else (some ((-1), z153))))
def fQ_attach_101 (x2 : Int32) (x4 : Int32) (z : lc_S) : Option ((Int32) × lc_S) :=
  lc_chk (lc_in x2 600) (lc_bnd (fQ_bind ((lcI z 83 x2.toNatClampNeg) - (lcI z 83 x2.toNatClampNeg) / 256 * 256) x2 0 z) (fun r114 z114 => if x4 = 47 then (lc_chk (lc_in x2 600) (lc_bnd (fQ_bind ((lcI z114 83 x2.toNatClampNeg) / 256) x2 1 z114) (fun r137 z137 => fQ_attach_140 x2 x4 z137))) else (fQ_attach_140 x2 x4 z114)))
def fQ_attach_68 (x2 : Int32) (x3 : Int32) (x4 : Int32) (z : lc_S) : Option ((Int32) × lc_S) :=
  lc_chk (lc_in ((lcI z 80 16) - 1) 24) (lc_chk (lc_in ((lcI z 80 16) - 1) 24) (if x3 = 0 then (if x4 = 58 then (fQ_attach_101 x2 x4 (lcUI z 93 ((lcI z 80 16) - 1).toNatClampNeg ((lcI z 93 ((lcI z 80 16) - 1).toNatClampNeg) + 1))) else (if x4 = 47 then (fQ_attach_101 x2 x4 (lcUI z 93 ((lcI z 80 16) - 1).toNatClampNeg ((lcI z 93 ((lcI z 80 16) - 1).toNatClampNeg) + 1))) else (fQ_attach_140 x2 x4 (lcUI z 93 ((lcI z 80 16) - 1).toNatClampNeg ((lcI z 93 ((lcI z 80 16) - 1).toNatClampNeg) + 1))))) else (fQ_attach_140 x2 x4 (lcUI z 93 ((lcI z 80 16) - 1).toNatClampNeg ((lcI z 93 ((lcI z 80 16) - 1).toNatClampNeg) + 1)))))
def fQ_attach (a1 : Int32) (z : lc_S) : Option ((Int32) × lc_S) :=
  lc_chk (lc_in ((lcI z 80 16) - 1) 24) (lc_let (lcI z 92 ((lcI z 80 16) - 1).toNatClampNeg) (fun x11 => lc_chk (lc_in ((lcI z 80 16) - 1) 24) (lc_let (lcI z 93 ((lcI z 80 16) - 1).toNatClampNeg) (fun x23 => lc_chk (lc_in x11 600) (lc_let (lcI z 82 x11.toNatClampNeg) (fun x30 => if x23 = 0 then (lc_chk (lc_in x11 600) (fQ_attach_68 x11 x23 x30 (lcUI z 84 x11.toNatClampNeg a1))) else (if x23 = 1 then (lc_chk (lc_in x11 600) (fQ_attach_68 x11 x23 x30 (lcUI z 85 x11.toNatClampNeg a1))) else (lc_chk (lc_in x11 600) (fQ_attach_68 x11 x23 x30 (lcUI z 86 x11.toNatClampNeg a1))))))))))
set_option maxHeartbeats 4000000 in
set_option maxRecDepth 100000 in
theorem bQ_attach_189 {p : Program} {l : Launch} {e : Env} {s : State} {m : MethodId} {args : Array Value} {below : List Frame} {meth : Method} {c : Code} {G : lc_G} (hx : p.tables.exec = Jvm.exec) (hb : c.code = prog_10_method_20_code) (hml : c.maxLocals = 5) (hr : meth.sig.returnType = (some .int)) (hlocks : meth.locks = false) (hown : s.vm.findClass "LinearCellsModel" = some m.cls) (hts : ∀ w ∈ lc_ALL, w.before args s = true) (hE : lc_E G s) {r : Int32} {z' : lc_S} : ∀ {x2 : Int32} {t1 : Int32} {t2 : Int32} {z : lc_S} {H : Heap} {locs : List Loc} {ls : Array Slot}, fQ_attach_189 x2 t1 t2 z = some (r, z') → lv_has ls 5 [(0, .ref (lc_ad G 80)), (2, .int x2)] → lc_H G z s.heap H locs → W p l e (lc_rm 3) s m args below meth c H locs 0 0 (MQ below (lc_Q G (some (.int r)) z') args s 0 0 (lc_A G)) (F0 m 189 ls [.int t2, .int t1, .ref (lc_ad G 80)]) := by
  intro x2 t1 t2 z H locs ls hf hl hH
  rw [fQ_attach_189] at hf
  refine lv_isub hx hb dQ_attach_189 ?_
  refine lc_puti hx hb hts hown hE hH fpQ_179 lc_h80 rfl rfl rfl dQ_attach_190 (fun H locs hH => ?_)
  refine lv_aload_n hx hb dQ_attach_193 rfl (lv_at hl 0 rfl) ?_
  refine lv_bipush (v := 41) hx hb dQ_attach_194 (by decide) ?_
  obtain ⟨r196, z196, h196, hf⟩ := lc_bnd_some hf
  refine lc_callv (va_runV (As := [.int 41]) (rest := []) ⟨hx, hb, hml, hown, hts⟩ (cQ_expect l G h196) (lc_cwV hts kvQ_172 (lc_room (by decide) (by decide))) (lc_preV hE hH lc_h80 rfl _) rfl rfl hl.1 rfl (lv_room (Nat.le_of_ble_eq_true rfl)) dQ_attach_196 ⟨Nat.zero_le _, Nat.zero_le _⟩) hH (fun H locs hH => ?_)
  refine lv_aload_n hx hb dQ_attach_199 rfl (lv_at hl 0 rfl) ?_
  refine lv_dup hx hb dQ_attach_200 rfl ?_
  refine lc_geti hx hb hts hown hE hH flQ_185 lc_h80 rfl dQ_attach_201 ?_
  refine lv_iconst (v := 1) hx hb dQ_attach_204 (by decide) ?_
  refine lv_isub hx hb dQ_attach_205 ?_
  refine lc_puti hx hb hts hown hE hH fpQ_185 lc_h80 rfl rfl rfl dQ_attach_206 (fun H locs hH => ?_)
  refine lv_iload_n hx hb dQ_attach_209 rfl (lv_at hl 1 rfl) ?_
  exact lc_iret hx hb hr hlocks hH hf dQ_attach_210
set_option maxHeartbeats 4000000 in
set_option maxRecDepth 100000 in
theorem bQ_attach_140 {p : Program} {l : Launch} {e : Env} {s : State} {m : MethodId} {args : Array Value} {below : List Frame} {meth : Method} {c : Code} {G : lc_G} (hx : p.tables.exec = Jvm.exec) (hb : c.code = prog_10_method_20_code) (hml : c.maxLocals = 5) (hr : meth.sig.returnType = (some .int)) (hlocks : meth.locks = false) (hown : s.vm.findClass "LinearCellsModel" = some m.cls) (hts : ∀ w ∈ lc_ALL, w.before args s = true) (hE : lc_E G s) {r : Int32} {z' : lc_S} : ∀ {x2 : Int32} {x4 : Int32} {z : lc_S} {H : Heap} {locs : List Loc} {ls : Array Slot}, fQ_attach_140 x2 x4 z = some (r, z') → lv_has ls 5 [(0, .ref (lc_ad G 80)), (2, .int x2), (4, .int x4)] → lc_H G z s.heap H locs → W p l e (lc_rm 3) s m args below meth c H locs 0 0 (MQ below (lc_Q G (some (.int r)) z') args s 0 0 (lc_A G)) (F0 m 140 ls []) := by
  intro x2 x4 z H locs ls hf hl hH
  rw [fQ_attach_140] at hf
  refine lv_aload_n hx hb dQ_attach_140 rfl (lv_at hl 0 rfl) ?_
  refine lc_getf (d := 13) (q := 93) hx hb hts hown hE hH flQ_47 lc_h80 rfl rfl dQ_attach_141 ?_
  refine lv_aload_n hx hb dQ_attach_144 rfl (lv_at hl 0 rfl) ?_
  refine lc_geti hx hb hts hown hE hH flQ_185 lc_h80 rfl dQ_attach_145 ?_
  refine lv_iconst (v := 1) hx hb dQ_attach_148 (by decide) ?_
  refine lv_isub hx hb dQ_attach_149 ?_
  obtain ⟨hi150, hf⟩ := lc_chk_some hf
  refine lc_iald hx hb hE hH lc_h93 rfl hi150 dQ_attach_150 ?_
  refine lv_iload hx hb dQ_attach_151 (lv_at hl 2 rfl) ?_
  obtain ⟨r153, z153, h153, hf⟩ := lc_bnd_some hf
  refine lc_calli (va_runS (As := [.int x4]) (rest := [.int (lcI z 93 ((lcI z 80 16) - 1).toNatClampNeg)]) ⟨hx, hb, hml, hown, hts⟩ (cQ_partsOf l G h153) (lc_cwS hts ksQ_214 (lc_room (by decide) (by decide))) (lc_preS hE hH _) rfl rfl hl.1 rfl (lv_room (Nat.le_of_ble_eq_true rfl)) dQ_attach_153 ⟨Nat.zero_le _, Nat.zero_le _⟩) hH (fun H locs hH => ?_)
  refine lv_icmp_ge (tgt := 161) hx hb dQ_attach_156 (by decide) (fun hc => ?_) (fun hc => ?_)
  · replace hf := lc_ite_pos hc hf
    refine lv_aload_n hx hb dQ_attach_161 rfl (lv_at hl 0 rfl) ?_
    refine lv_dup hx hb dQ_attach_162 rfl ?_
    refine lc_geti hx hb hts hown hE hH flQ_179 lc_h80 rfl dQ_attach_163 ?_
    refine lv_iload hx hb dQ_attach_166 (lv_at hl 2 rfl) ?_
    refine lv_bipush (v := 58) hx hb dQ_attach_168 (by decide) ?_
    refine lv_icmp_ne (tgt := 177) hx hb dQ_attach_170 (by decide) (fun hc => ?_) (fun hc => ?_)
    · replace hf := lc_ite_neg hc hf
      refine lv_iload hx hb dQ_attach_177 (lv_at hl 2 rfl) ?_
      refine lv_bipush (v := 47) hx hb dQ_attach_179 (by decide) ?_
      refine lv_icmp_ne (tgt := 188) hx hb dQ_attach_181 (by decide) (fun hc => ?_) (fun hc => ?_)
      · replace hf := lc_ite_neg hc hf
        refine lv_iconst (v := 0) hx hb dQ_attach_188 (by decide) ?_
        exact bQ_attach_189 hx hb hml hr hlocks hown hts hE hf (lv_sub hl [0, 1] rfl) hH
      · replace hf := lc_ite_pos hc hf
        refine lv_iconst (v := 2) hx hb dQ_attach_184 (by decide) ?_
        refine lv_goto (tgt := 189) hx hb dQ_attach_185 (by decide) ?_
        exact bQ_attach_189 hx hb hml hr hlocks hown hts hE hf (lv_sub hl [0, 1] rfl) hH
    · replace hf := lc_ite_pos hc hf
      refine lv_iconst (v := 1) hx hb dQ_attach_173 (by decide) ?_
      refine lv_goto (tgt := 189) hx hb dQ_attach_174 (by decide) ?_
      exact bQ_attach_189 hx hb hml hr hlocks hown hts hE hf (lv_sub hl [0, 1] rfl) hH
  · replace hf := lc_ite_neg hc hf
    refine lv_iconst (v := (-1)) hx hb dQ_attach_159 (by decide) ?_
    exact lc_iret hx hb hr hlocks hH hf dQ_attach_160
set_option maxHeartbeats 4000000 in
set_option maxRecDepth 100000 in
theorem bQ_attach_101 {p : Program} {l : Launch} {e : Env} {s : State} {m : MethodId} {args : Array Value} {below : List Frame} {meth : Method} {c : Code} {G : lc_G} (hx : p.tables.exec = Jvm.exec) (hb : c.code = prog_10_method_20_code) (hml : c.maxLocals = 5) (hr : meth.sig.returnType = (some .int)) (hlocks : meth.locks = false) (hown : s.vm.findClass "LinearCellsModel" = some m.cls) (hts : ∀ w ∈ lc_ALL, w.before args s = true) (hE : lc_E G s) {r : Int32} {z' : lc_S} : ∀ {x2 : Int32} {x4 : Int32} {z : lc_S} {H : Heap} {locs : List Loc} {ls : Array Slot}, fQ_attach_101 x2 x4 z = some (r, z') → lv_has ls 5 [(0, .ref (lc_ad G 80)), (2, .int x2), (4, .int x4)] → lc_H G z s.heap H locs → W p l e (lc_rm 3) s m args below meth c H locs 0 0 (MQ below (lc_Q G (some (.int r)) z') args s 0 0 (lc_A G)) (F0 m 101 ls []) := by
  intro x2 x4 z H locs ls hf hl hH
  rw [fQ_attach_101] at hf
  refine lv_aload_n hx hb dQ_attach_101 rfl (lv_at hl 0 rfl) ?_
  refine lv_aload_n hx hb dQ_attach_102 rfl (lv_at hl 0 rfl) ?_
  refine lc_getf (d := 3) (q := 83) hx hb hts hown hE hH flQ_16 lc_h80 rfl rfl dQ_attach_103 ?_
  refine lv_iload_n hx hb dQ_attach_106 rfl (lv_at hl 1 rfl) ?_
  obtain ⟨hi107, hf⟩ := lc_chk_some hf
  refine lc_iald hx hb hE hH lc_h83 rfl hi107 dQ_attach_107 ?_
  refine lv_sipush (v := 256) hx hb dQ_attach_108 (by decide) ?_
  refine lv_irem hx hb dQ_attach_111 (by decide) ?_
  refine lv_iload_n hx hb dQ_attach_112 rfl (lv_at hl 1 rfl) ?_
  refine lv_iconst (v := 0) hx hb dQ_attach_113 (by decide) ?_
  obtain ⟨r114, z114, h114, hf⟩ := lc_bnd_some hf
  refine lc_callv (va_runV (As := [.int ((lcI z 83 x2.toNatClampNeg) - (lcI z 83 x2.toNatClampNeg) / 256 * 256), .int x2, .int 0]) (rest := []) ⟨hx, hb, hml, hown, hts⟩ (cQ_bind l G h114) (lc_cwV hts kvQ_191 (lc_room (by decide) (by decide))) (lc_preV hE hH lc_h80 rfl _) rfl rfl hl.1 rfl (lv_room (Nat.le_of_ble_eq_true rfl)) dQ_attach_114 ⟨Nat.zero_le _, Nat.zero_le _⟩) hH (fun H locs hH => ?_)
  refine lv_iload hx hb dQ_attach_117 (lv_at hl 2 rfl) ?_
  refine lv_bipush (v := 47) hx hb dQ_attach_119 (by decide) ?_
  refine lv_icmp_ne (tgt := 140) hx hb dQ_attach_121 (by decide) (fun hc => ?_) (fun hc => ?_)
  · replace hf := lc_ite_neg hc hf
    exact bQ_attach_140 hx hb hml hr hlocks hown hts hE hf (lv_sub hl [0, 1, 2] rfl) hH
  · replace hf := lc_ite_pos hc hf
    refine lv_aload_n hx hb dQ_attach_124 rfl (lv_at hl 0 rfl) ?_
    refine lv_aload_n hx hb dQ_attach_125 rfl (lv_at hl 0 rfl) ?_
    refine lc_getf (d := 3) (q := 83) hx hb hts hown hE hH flQ_16 lc_h80 rfl rfl dQ_attach_126 ?_
    refine lv_iload_n hx hb dQ_attach_129 rfl (lv_at hl 1 rfl) ?_
    obtain ⟨hi130, hf⟩ := lc_chk_some hf
    refine lc_iald hx hb hE hH lc_h83 rfl hi130 dQ_attach_130 ?_
    refine lv_sipush (v := 256) hx hb dQ_attach_131 (by decide) ?_
    refine lv_idiv hx hb dQ_attach_134 (by decide) ?_
    refine lv_iload_n hx hb dQ_attach_135 rfl (lv_at hl 1 rfl) ?_
    refine lv_iconst (v := 1) hx hb dQ_attach_136 (by decide) ?_
    obtain ⟨r137, z137, h137, hf⟩ := lc_bnd_some hf
    refine lc_callv (va_runV (As := [.int ((lcI z114 83 x2.toNatClampNeg) / 256), .int x2, .int 1]) (rest := []) ⟨hx, hb, hml, hown, hts⟩ (cQ_bind l G h137) (lc_cwV hts kvQ_191 (lc_room (by decide) (by decide))) (lc_preV hE hH lc_h80 rfl _) rfl rfl hl.1 rfl (lv_room (Nat.le_of_ble_eq_true rfl)) dQ_attach_137 ⟨Nat.zero_le _, Nat.zero_le _⟩) hH (fun H locs hH => ?_)
    exact bQ_attach_140 hx hb hml hr hlocks hown hts hE hf (lv_sub hl [0, 1, 2] rfl) hH
set_option maxHeartbeats 4000000 in
set_option maxRecDepth 100000 in
theorem bQ_attach_68 {p : Program} {l : Launch} {e : Env} {s : State} {m : MethodId} {args : Array Value} {below : List Frame} {meth : Method} {c : Code} {G : lc_G} (hx : p.tables.exec = Jvm.exec) (hb : c.code = prog_10_method_20_code) (hml : c.maxLocals = 5) (hr : meth.sig.returnType = (some .int)) (hlocks : meth.locks = false) (hown : s.vm.findClass "LinearCellsModel" = some m.cls) (hts : ∀ w ∈ lc_ALL, w.before args s = true) (hE : lc_E G s) {r : Int32} {z' : lc_S} : ∀ {x2 : Int32} {x3 : Int32} {x4 : Int32} {z : lc_S} {H : Heap} {locs : List Loc} {ls : Array Slot}, fQ_attach_68 x2 x3 x4 z = some (r, z') → lv_has ls 5 [(0, .ref (lc_ad G 80)), (2, .int x2), (3, .int x3), (4, .int x4)] → lc_H G z s.heap H locs → W p l e (lc_rm 3) s m args below meth c H locs 0 0 (MQ below (lc_Q G (some (.int r)) z') args s 0 0 (lc_A G)) (F0 m 68 ls []) := by
  intro x2 x3 x4 z H locs ls hf hl hH
  rw [fQ_attach_68] at hf
  refine lv_aload_n hx hb dQ_attach_68 rfl (lv_at hl 0 rfl) ?_
  refine lc_getf (d := 13) (q := 93) hx hb hts hown hE hH flQ_47 lc_h80 rfl rfl dQ_attach_69 ?_
  refine lv_aload_n hx hb dQ_attach_72 rfl (lv_at hl 0 rfl) ?_
  refine lc_geti hx hb hts hown hE hH flQ_185 lc_h80 rfl dQ_attach_73 ?_
  refine lv_iconst (v := 1) hx hb dQ_attach_76 (by decide) ?_
  refine lv_isub hx hb dQ_attach_77 ?_
  refine lv_dup2_11 hx hb dQ_attach_78 rfl rfl ?_
  obtain ⟨hi79, hf⟩ := lc_chk_some hf
  refine lc_iald hx hb hE hH lc_h93 rfl hi79 dQ_attach_79 ?_
  refine lv_iconst (v := 1) hx hb dQ_attach_80 (by decide) ?_
  refine lv_iadd hx hb dQ_attach_81 ?_
  obtain ⟨hi82, hf⟩ := lc_chk_some hf
  refine lc_iast hx hb hE hH lc_h93 rfl hi82 dQ_attach_82 (fun H locs hH => ?_)
  refine lv_iload_n hx hb dQ_attach_83 rfl (lv_at hl 2 rfl) ?_
  refine lv_if_ne (tgt := 140) hx hb dQ_attach_84 (by decide) (fun hc => ?_) (fun hc => ?_)
  · replace hf := lc_ite_neg hc hf
    exact bQ_attach_140 hx hb hml hr hlocks hown hts hE hf (lv_sub hl [0, 1, 3] rfl) hH
  · replace hf := lc_ite_pos hc hf
    refine lv_iload hx hb dQ_attach_87 (lv_at hl 3 rfl) ?_
    refine lv_bipush (v := 58) hx hb dQ_attach_89 (by decide) ?_
    refine lv_icmp_eq (tgt := 101) hx hb dQ_attach_91 (by decide) (fun hc => ?_) (fun hc => ?_)
    · replace hf := lc_ite_pos hc hf
      exact bQ_attach_101 hx hb hml hr hlocks hown hts hE hf (lv_sub hl [0, 1, 3] rfl) hH
    · replace hf := lc_ite_neg hc hf
      refine lv_iload hx hb dQ_attach_94 (lv_at hl 3 rfl) ?_
      refine lv_bipush (v := 47) hx hb dQ_attach_96 (by decide) ?_
      refine lv_icmp_ne (tgt := 140) hx hb dQ_attach_98 (by decide) (fun hc => ?_) (fun hc => ?_)
      · replace hf := lc_ite_neg hc hf
        exact bQ_attach_140 hx hb hml hr hlocks hown hts hE hf (lv_sub hl [0, 1, 3] rfl) hH
      · replace hf := lc_ite_pos hc hf
        exact bQ_attach_101 hx hb hml hr hlocks hown hts hE hf (lv_sub hl [0, 1, 3] rfl) hH
set_option maxHeartbeats 4000000 in
set_option maxRecDepth 100000 in
theorem cQ_attach (l : Launch) (G : lc_G) {a1 : Int32} {r : Int32} {z z' : lc_S} (hf : fQ_attach a1 z = some (r, z')) : lc_M l G yQ_attach wQ_attach 3 [.ref (lc_ad G 80), .int a1] z (some (.int r)) z' := by
  refine lc_M_of (cc := prog_10_method_20_code) (maxL := 5) (ret := (some .int)) (own := "LinearCellsModel") (by decide) rfl (fun w h => List.mem_cons_of_mem _ h) (Nat.le_of_ble_eq_true rfl) rfl ?_
  intro p e s m below meth c hx hb hml hr hlocks hown hts hE ls hl hH
  replace hl : lv_has ls 5 [(0, .ref (lc_ad G 80)), (1, .int a1)] := hl
  rw [fQ_attach] at hf
  refine lv_aload_n hx hb dQ_attach_0 rfl (lv_at hl 0 rfl) ?_
  refine lc_getf (d := 12) (q := 92) hx hb hts hown hE hH flQ_44 lc_h80 rfl rfl dQ_attach_1 ?_
  refine lv_aload_n hx hb dQ_attach_4 rfl (lv_at hl 0 rfl) ?_
  refine lc_geti hx hb hts hown hE hH flQ_185 lc_h80 rfl dQ_attach_5 ?_
  refine lv_iconst (v := 1) hx hb dQ_attach_8 (by decide) ?_
  refine lv_isub hx hb dQ_attach_9 ?_
  obtain ⟨hi10, hf⟩ := lc_chk_some hf
  refine lc_iald hx hb hE hH lc_h92 rfl hi10 dQ_attach_10 ?_
  refine lv_topi (fun x11 e11 => ?_)
  replace hf := lc_let_of e11 hf
  refine lv_istore_n hx hb dQ_attach_11 rfl hl (by decide) rfl (fun ls hl => ?_)
  replace hl : lv_has ls 5 [(2, .int x11), (0, .ref (lc_ad G 80)), (1, .int a1)] := hl
  refine lv_aload_n hx hb dQ_attach_12 rfl (lv_at hl 1 rfl) ?_
  refine lc_getf (d := 13) (q := 93) hx hb hts hown hE hH flQ_47 lc_h80 rfl rfl dQ_attach_13 ?_
  refine lv_aload_n hx hb dQ_attach_16 rfl (lv_at hl 1 rfl) ?_
  refine lc_geti hx hb hts hown hE hH flQ_185 lc_h80 rfl dQ_attach_17 ?_
  refine lv_iconst (v := 1) hx hb dQ_attach_20 (by decide) ?_
  refine lv_isub hx hb dQ_attach_21 ?_
  obtain ⟨hi22, hf⟩ := lc_chk_some hf
  refine lc_iald hx hb hE hH lc_h93 rfl hi22 dQ_attach_22 ?_
  refine lv_topi (fun x23 e23 => ?_)
  replace hf := lc_let_of e23 hf
  refine lv_istore_n hx hb dQ_attach_23 rfl hl (by decide) rfl (fun ls hl => ?_)
  replace hl : lv_has ls 5 [(3, .int x23), (2, .int x11), (0, .ref (lc_ad G 80)), (1, .int a1)] := hl
  refine lv_aload_n hx hb dQ_attach_24 rfl (lv_at hl 2 rfl) ?_
  refine lc_getf (d := 2) (q := 82) hx hb hts hown hE hH flQ_13 lc_h80 rfl rfl dQ_attach_25 ?_
  refine lv_iload_n hx hb dQ_attach_28 rfl (lv_at hl 1 rfl) ?_
  obtain ⟨hi29, hf⟩ := lc_chk_some hf
  refine lc_iald hx hb hE hH lc_h82 rfl hi29 dQ_attach_29 ?_
  refine lv_topi (fun x30 e30 => ?_)
  replace hf := lc_let_of e30 hf
  refine lv_istore hx hb dQ_attach_30 hl (by decide) rfl (fun ls hl => ?_)
  replace hl : lv_has ls 5 [(4, .int x30), (3, .int x23), (2, .int x11), (0, .ref (lc_ad G 80)), (1, .int a1)] := hl
  refine lv_iload_n hx hb dQ_attach_32 rfl (lv_at hl 1 rfl) ?_
  refine lv_if_ne (tgt := 46) hx hb dQ_attach_33 (by decide) (fun hc => ?_) (fun hc => ?_)
  · replace hf := lc_ite_neg hc hf
    refine lv_iload_n hx hb dQ_attach_46 rfl (lv_at hl 1 rfl) ?_
    refine lv_iconst (v := 1) hx hb dQ_attach_47 (by decide) ?_
    refine lv_icmp_ne (tgt := 61) hx hb dQ_attach_48 (by decide) (fun hc => ?_) (fun hc => ?_)
    · replace hf := lc_ite_neg hc hf
      refine lv_aload_n hx hb dQ_attach_61 rfl (lv_at hl 3 rfl) ?_
      refine lc_getf (d := 6) (q := 86) hx hb hts hown hE hH flQ_25 lc_h80 rfl rfl dQ_attach_62 ?_
      refine lv_iload_n hx hb dQ_attach_65 rfl (lv_at hl 2 rfl) ?_
      refine lv_iload_n hx hb dQ_attach_66 rfl (lv_at hl 4 rfl) ?_
      obtain ⟨hi67, hf⟩ := lc_chk_some hf
      refine lc_iast hx hb hE hH lc_h86 rfl hi67 dQ_attach_67 (fun H locs hH => ?_)
      exact bQ_attach_68 hx hb hml hr hlocks hown hts hE hf (lv_sub hl [3, 2, 1, 0] rfl) hH
    · replace hf := lc_ite_pos hc hf
      refine lv_aload_n hx hb dQ_attach_51 rfl (lv_at hl 3 rfl) ?_
      refine lc_getf (d := 5) (q := 85) hx hb hts hown hE hH flQ_22 lc_h80 rfl rfl dQ_attach_52 ?_
      refine lv_iload_n hx hb dQ_attach_55 rfl (lv_at hl 2 rfl) ?_
      refine lv_iload_n hx hb dQ_attach_56 rfl (lv_at hl 4 rfl) ?_
      obtain ⟨hi57, hf⟩ := lc_chk_some hf
      refine lc_iast hx hb hE hH lc_h85 rfl hi57 dQ_attach_57 (fun H locs hH => ?_)
      refine lv_goto (tgt := 68) hx hb dQ_attach_58 (by decide) ?_
      exact bQ_attach_68 hx hb hml hr hlocks hown hts hE hf (lv_sub hl [3, 2, 1, 0] rfl) hH
  · replace hf := lc_ite_pos hc hf
    refine lv_aload_n hx hb dQ_attach_36 rfl (lv_at hl 3 rfl) ?_
    refine lc_getf (d := 4) (q := 84) hx hb hts hown hE hH flQ_19 lc_h80 rfl rfl dQ_attach_37 ?_
    refine lv_iload_n hx hb dQ_attach_40 rfl (lv_at hl 2 rfl) ?_
    refine lv_iload_n hx hb dQ_attach_41 rfl (lv_at hl 4 rfl) ?_
    obtain ⟨hi42, hf⟩ := lc_chk_some hf
    refine lc_iast hx hb hE hH lc_h84 rfl hi42 dQ_attach_42 (fun H locs hH => ?_)
    refine lv_goto (tgt := 68) hx hb dQ_attach_43 (by decide) ?_
    exact bQ_attach_68 hx hb hml hr hlocks hown hts hE hf (lv_sub hl [3, 2, 1, 0] rfl) hH
theorem dQ_read_0 : decode prog_10_method_17_code 0 = .ok (.aload_n 0, 1) := by decide +kernel
theorem dQ_read_1 : decode prog_10_method_17_code 1 = .ok (.iconst 0, 1) := by decide +kernel
theorem dQ_read_2 : decode prog_10_method_17_code 2 = .ok (.putfield 148, 3) := by decide +kernel
theorem dQ_read_5 : decode prog_10_method_17_code 5 = .ok (.aload_n 0, 1) := by decide +kernel
theorem dQ_read_6 : decode prog_10_method_17_code 6 = .ok (.iconst 0, 1) := by decide +kernel
theorem dQ_read_7 : decode prog_10_method_17_code 7 = .ok (.putfield 155, 3) := by decide +kernel
theorem dQ_read_10 : decode prog_10_method_17_code 10 = .ok (.aload_n 0, 1) := by decide +kernel
theorem dQ_read_11 : decode prog_10_method_17_code 11 = .ok (.iconst 0, 1) := by decide +kernel
theorem dQ_read_12 : decode prog_10_method_17_code 12 = .ok (.putfield 182, 3) := by decide +kernel
theorem dQ_read_15 : decode prog_10_method_17_code 15 = .ok (.aload_n 0, 1) := by decide +kernel
theorem dQ_read_16 : decode prog_10_method_17_code 16 = .ok (.iconst 0, 1) := by decide +kernel
theorem dQ_read_17 : decode prog_10_method_17_code 17 = .ok (.putfield 185, 3) := by decide +kernel
theorem dQ_read_20 : decode prog_10_method_17_code 20 = .ok (.aload_n 0, 1) := by decide +kernel
theorem dQ_read_21 : decode prog_10_method_17_code 21 = .ok (.iconst 0, 1) := by decide +kernel
theorem dQ_read_22 : decode prog_10_method_17_code 22 = .ok (.putfield 179, 3) := by decide +kernel
theorem dQ_read_25 : decode prog_10_method_17_code 25 = .ok (.aload_n 0, 1) := by decide +kernel
theorem dQ_read_26 : decode prog_10_method_17_code 26 = .ok (.getfield 35, 3) := by decide +kernel
theorem dQ_read_29 : decode prog_10_method_17_code 29 = .ok (.iconst 0, 1) := by decide +kernel
theorem dQ_read_30 : decode prog_10_method_17_code 30 = .ok (.iconst 0, 1) := by decide +kernel
theorem dQ_read_31 : decode prog_10_method_17_code 31 = .ok (.iastore, 1) := by decide +kernel
theorem dQ_read_32 : decode prog_10_method_17_code 32 = .ok (.aload_n 0, 1) := by decide +kernel
theorem dQ_read_33 : decode prog_10_method_17_code 33 = .ok (.aload_n 0, 1) := by decide +kernel
theorem dQ_read_34 : decode prog_10_method_17_code 34 = .ok (.invokevirtual 188, 3) := by decide +kernel
theorem dQ_read_37 : decode prog_10_method_17_code 37 = .ok (.iconst (-1), 1) := by decide +kernel
theorem dQ_read_38 : decode prog_10_method_17_code 38 = .ok (.iconst 0, 1) := by decide +kernel
theorem dQ_read_39 : decode prog_10_method_17_code 39 = .ok (.invokevirtual 191, 3) := by decide +kernel
theorem dQ_read_42 : decode prog_10_method_17_code 42 = .ok (.aload_n 0, 1) := by decide +kernel
theorem dQ_read_43 : decode prog_10_method_17_code 43 = .ok (.aload_n 0, 1) := by decide +kernel
theorem dQ_read_44 : decode prog_10_method_17_code 44 = .ok (.getfield 126, 3) := by decide +kernel
theorem dQ_read_47 : decode prog_10_method_17_code 47 = .ok (.invokevirtual 195, 3) := by decide +kernel
theorem dQ_read_50 : decode prog_10_method_17_code 50 = .ok (.iconst 0, 1) := by decide +kernel
theorem dQ_read_51 : decode prog_10_method_17_code 51 = .ok (.istore_n 1, 1) := by decide +kernel
theorem dQ_read_52 : decode prog_10_method_17_code 52 = .ok (.iload_n 1, 1) := by decide +kernel
theorem dQ_read_53 : decode prog_10_method_17_code 53 = .ok (.bipush 120, 2) := by decide +kernel
theorem dQ_read_55 : decode prog_10_method_17_code 55 = .ok (.if_icmp .ge 21, 3) := by decide +kernel
theorem dQ_read_58 : decode prog_10_method_17_code 58 = .ok (.aload_n 0, 1) := by decide +kernel
theorem dQ_read_59 : decode prog_10_method_17_code 59 = .ok (.getfield 38, 3) := by decide +kernel
theorem dQ_read_62 : decode prog_10_method_17_code 62 = .ok (.iload_n 1, 1) := by decide +kernel
theorem dQ_read_63 : decode prog_10_method_17_code 63 = .ok (.aload_n 0, 1) := by decide +kernel
theorem dQ_read_64 : decode prog_10_method_17_code 64 = .ok (.getfield 126, 3) := by decide +kernel
theorem dQ_read_67 : decode prog_10_method_17_code 67 = .ok (.iload_n 1, 1) := by decide +kernel
theorem dQ_read_68 : decode prog_10_method_17_code 68 = .ok (.iaload, 1) := by decide +kernel
theorem dQ_read_69 : decode prog_10_method_17_code 69 = .ok (.iastore, 1) := by decide +kernel
theorem dQ_read_70 : decode prog_10_method_17_code 70 = .ok (.iinc 1 1, 3) := by decide +kernel
theorem dQ_read_73 : decode prog_10_method_17_code 73 = .ok (.goto (-21), 3) := by decide +kernel
theorem dQ_read_76 : decode prog_10_method_17_code 76 = .ok (.aload_n 0, 1) := by decide +kernel
theorem dQ_read_77 : decode prog_10_method_17_code 77 = .ok (.getfield 155, 3) := by decide +kernel
theorem dQ_read_80 : decode prog_10_method_17_code 80 = .ok (.ifCond .ne 11, 3) := by decide +kernel
theorem dQ_read_83 : decode prog_10_method_17_code 83 = .ok (.aload_n 0, 1) := by decide +kernel
theorem dQ_read_84 : decode prog_10_method_17_code 84 = .ok (.aload_n 0, 1) := by decide +kernel
theorem dQ_read_85 : decode prog_10_method_17_code 85 = .ok (.getfield 126, 3) := by decide +kernel
theorem dQ_read_88 : decode prog_10_method_17_code 88 = .ok (.invokevirtual 195, 3) := by decide +kernel
theorem dQ_read_91 : decode prog_10_method_17_code 91 = .ok (.iconst 0, 1) := by decide +kernel
theorem dQ_read_92 : decode prog_10_method_17_code 92 = .ok (.istore_n 1, 1) := by decide +kernel
theorem dQ_read_93 : decode prog_10_method_17_code 93 = .ok (.iload_n 1, 1) := by decide +kernel
theorem dQ_read_94 : decode prog_10_method_17_code 94 = .ok (.bipush 120, 2) := by decide +kernel
theorem dQ_read_96 : decode prog_10_method_17_code 96 = .ok (.if_icmp .ge 21, 3) := by decide +kernel
theorem dQ_read_99 : decode prog_10_method_17_code 99 = .ok (.aload_n 0, 1) := by decide +kernel
theorem dQ_read_100 : decode prog_10_method_17_code 100 = .ok (.getfield 41, 3) := by decide +kernel
theorem dQ_read_103 : decode prog_10_method_17_code 103 = .ok (.iload_n 1, 1) := by decide +kernel
theorem dQ_read_104 : decode prog_10_method_17_code 104 = .ok (.aload_n 0, 1) := by decide +kernel
theorem dQ_read_105 : decode prog_10_method_17_code 105 = .ok (.getfield 126, 3) := by decide +kernel
theorem dQ_read_108 : decode prog_10_method_17_code 108 = .ok (.iload_n 1, 1) := by decide +kernel
theorem dQ_read_109 : decode prog_10_method_17_code 109 = .ok (.iaload, 1) := by decide +kernel
theorem dQ_read_110 : decode prog_10_method_17_code 110 = .ok (.iastore, 1) := by decide +kernel
theorem dQ_read_111 : decode prog_10_method_17_code 111 = .ok (.iinc 1 1, 3) := by decide +kernel
theorem dQ_read_114 : decode prog_10_method_17_code 114 = .ok (.goto (-21), 3) := by decide +kernel
theorem dQ_read_117 : decode prog_10_method_17_code 117 = .ok (.iconst (-1), 1) := by decide +kernel
theorem dQ_read_118 : decode prog_10_method_17_code 118 = .ok (.istore_n 1, 1) := by decide +kernel
theorem dQ_read_119 : decode prog_10_method_17_code 119 = .ok (.aload_n 0, 1) := by decide +kernel
theorem dQ_read_120 : decode prog_10_method_17_code 120 = .ok (.getfield 155, 3) := by decide +kernel
theorem dQ_read_123 : decode prog_10_method_17_code 123 = .ok (.ifCond .ne 34, 3) := by decide +kernel
theorem dQ_read_126 : decode prog_10_method_17_code 126 = .ok (.iload_n 1, 1) := by decide +kernel
theorem dQ_read_127 : decode prog_10_method_17_code 127 = .ok (.ifCond .lt 10, 3) := by decide +kernel
theorem dQ_read_130 : decode prog_10_method_17_code 130 = .ok (.aload_n 0, 1) := by decide +kernel
theorem dQ_read_131 : decode prog_10_method_17_code 131 = .ok (.getfield 185, 3) := by decide +kernel
theorem dQ_read_134 : decode prog_10_method_17_code 134 = .ok (.ifCond .le 23, 3) := by decide +kernel
theorem dQ_read_137 : decode prog_10_method_17_code 137 = .ok (.iload_n 1, 1) := by decide +kernel
theorem dQ_read_138 : decode prog_10_method_17_code 138 = .ok (.ifCond .ge 10, 3) := by decide +kernel
theorem dQ_read_141 : decode prog_10_method_17_code 141 = .ok (.aload_n 0, 1) := by decide +kernel
theorem dQ_read_142 : decode prog_10_method_17_code 142 = .ok (.invokevirtual 199, 3) := by decide +kernel
theorem dQ_read_145 : decode prog_10_method_17_code 145 = .ok (.goto 8, 3) := by decide +kernel
theorem dQ_read_148 : decode prog_10_method_17_code 148 = .ok (.aload_n 0, 1) := by decide +kernel
theorem dQ_read_149 : decode prog_10_method_17_code 149 = .ok (.iload_n 1, 1) := by decide +kernel
theorem dQ_read_150 : decode prog_10_method_17_code 150 = .ok (.invokevirtual 202, 3) := by decide +kernel
theorem dQ_read_153 : decode prog_10_method_17_code 153 = .ok (.istore_n 1, 1) := by decide +kernel
theorem dQ_read_154 : decode prog_10_method_17_code 154 = .ok (.goto (-35), 3) := by decide +kernel
theorem dQ_read_157 : decode prog_10_method_17_code 157 = .ok (.aload_n 0, 1) := by decide +kernel
theorem dQ_read_158 : decode prog_10_method_17_code 158 = .ok (.aload_n 0, 1) := by decide +kernel
theorem dQ_read_159 : decode prog_10_method_17_code 159 = .ok (.getfield 155, 3) := by decide +kernel
theorem dQ_read_162 : decode prog_10_method_17_code 162 = .ok (.ifCond .ne 10, 3) := by decide +kernel
theorem dQ_read_165 : decode prog_10_method_17_code 165 = .ok (.aload_n 0, 1) := by decide +kernel
theorem dQ_read_166 : decode prog_10_method_17_code 166 = .ok (.invokevirtual 151, 3) := by decide +kernel
theorem dQ_read_169 : decode prog_10_method_17_code 169 = .ok (.ifCond .eq 7, 3) := by decide +kernel
theorem dQ_read_172 : decode prog_10_method_17_code 172 = .ok (.iconst 1, 1) := by decide +kernel
theorem dQ_read_173 : decode prog_10_method_17_code 173 = .ok (.goto 4, 3) := by decide +kernel
theorem dQ_read_176 : decode prog_10_method_17_code 176 = .ok (.iconst 0, 1) := by decide +kernel
theorem dQ_read_177 : decode prog_10_method_17_code 177 = .ok (.putfield 155, 3) := by decide +kernel
theorem dQ_read_180 : decode prog_10_method_17_code 180 = .ok (.return_, 1) := by decide +kernel
def fQ_read_153 (k119 : Int32 → lc_S → Option ((Unit) × lc_S)) (t0 : Int32) (z : lc_S) : Option ((Unit) × lc_S) :=
  k119 t0 z
def fQ_read_137 (k119 : Int32 → lc_S → Option ((Unit) × lc_S)) (x1 : Int32) (z : lc_S) : Option ((Unit) × lc_S) :=
  if 0 ≤ x1 then (lc_bnd (fQ_attach x1 z) (fun r150 z150 => fQ_read_153 k119 r150 z150)) else (lc_bnd (fQ_begin z) (fun r142 z142 => fQ_read_153 k119 r142 z142))
def fQ_read_177 (t1 : Int32) (z : lc_S) : Option ((Unit) × lc_S) :=
  lc_chk (lc_zok t1) (some ((), lcUI z 80 14 t1))
def fQ_read_172 (z : lc_S) : Option ((Unit) × lc_S) :=
  fQ_read_177 1 z
def fQ_read_157 (z : lc_S) : Option ((Unit) × lc_S) :=
  if (lcI z 80 14) = 0 then (lc_bnd (fQ_peek z) (fun r166 z166 => if r166 = 0 then (fQ_read_177 0 z166) else (fQ_read_172 z166))) else (fQ_read_172 z)
def fQ_read_119 : Nat → Int32 → lc_S → Option ((Unit) × lc_S)
  | 0, _, _ => none
  | n + 1, x1, z => if (lcI z 80 14) = 0 then (if x1 < 0 then (fQ_read_137 (fQ_read_119 n) x1 z) else (if (lcI z 80 16) ≤ 0 then (fQ_read_157 z) else (fQ_read_137 (fQ_read_119 n) x1 z))) else (fQ_read_157 z)
def fQ_read_93 : Nat → Int32 → lc_S → Option ((Unit) × lc_S)
  | 0, _, _ => none
  | n + 1, x1, z => if 120 ≤ x1 then (fQ_read_119 lc_FU (-1) z) else (lc_chk (lc_in x1 130) (lc_chk (lc_in x1 600) (lc_let (x1 + 1) (fun x111 => fQ_read_93 n x111 (lcUI z 91 x1.toNatClampNeg (lcI z 119 x1.toNatClampNeg))))))
def fQ_read_91 (z : lc_S) : Option ((Unit) × lc_S) :=
  fQ_read_93 lc_FU 0 z
def fQ_read_52 : Nat → Int32 → lc_S → Option ((Unit) × lc_S)
  | 0, _, _ => none
  | n + 1, x1, z => if 120 ≤ x1 then (if (lcI z 80 14) = 0 then (lc_bnd (fQ_type 119 z) (fun r88 z88 => fQ_read_91 z88)) else (fQ_read_91 z)) else (lc_chk (lc_in x1 130) (lc_chk (lc_in x1 600) (lc_let (x1 + 1) (fun x70 => fQ_read_52 n x70 (lcUI z 90 x1.toNatClampNeg (lcI z 119 x1.toNatClampNeg))))))
def fQ_read (z : lc_S) : Option ((Unit) × lc_S) :=
  lc_bnd (fQ_letter (lcUI (lcUI (lcUI (lcUI (lcUI (lcUI z 80 13 0) 80 14 0) 80 15 0) 80 16 0) 80 19 0) 89 (0 : Int32).toNatClampNeg 0)) (fun r34 z34 => lc_bnd (fQ_bind r34 (-1) 0 z34) (fun r39 z39 => lc_bnd (fQ_type 119 z39) (fun r47 z47 => fQ_read_52 lc_FU 0 z47)))
set_option maxHeartbeats 4000000 in
set_option maxRecDepth 100000 in
theorem bQ_read_153 {p : Program} {l : Launch} {e : Env} {s : State} {m : MethodId} {args : Array Value} {below : List Frame} {meth : Method} {c : Code} {G : lc_G} (hx : p.tables.exec = Jvm.exec) (hb : c.code = prog_10_method_17_code) (hml : c.maxLocals = 2) (hr : meth.sig.returnType = none) (hlocks : meth.locks = false) (hown : s.vm.findClass "LinearCellsModel" = some m.cls) (hts : ∀ w ∈ lc_ALL, w.before args s = true) (hE : lc_E G s) {k119 : Int32 → lc_S → Option ((Unit) × lc_S)} {r : Unit} {z' : lc_S} (hk119 : ∀ {x1 : Int32} {z : lc_S} {H : Heap} {locs : List Loc} {ls : Array Slot}, k119 x1 z = some (r, z') → lv_has ls 2 [(0, .ref (lc_ad G 80)), (1, .int x1)] → lc_H G z s.heap H locs → W p l e (lc_rm 4) s m args below meth c H locs 0 0 (MQ below (lc_Q G none z') args s 0 0 (lc_A G)) (F0 m 119 ls [])) : ∀ {t0 : Int32} {z : lc_S} {H : Heap} {locs : List Loc} {ls : Array Slot}, fQ_read_153 k119 t0 z = some (r, z') → lv_has ls 2 [(0, .ref (lc_ad G 80))] → lc_H G z s.heap H locs → W p l e (lc_rm 4) s m args below meth c H locs 0 0 (MQ below (lc_Q G none z') args s 0 0 (lc_A G)) (F0 m 153 ls [.int t0]) := by
  intro t0 z H locs ls hf hl hH
  rw [fQ_read_153] at hf
  refine lv_istore_n hx hb dQ_read_153 rfl hl (by decide) rfl (fun ls hl => ?_)
  replace hl : lv_has ls 2 [(1, .int t0), (0, .ref (lc_ad G 80))] := hl
  refine lv_goto (tgt := 119) hx hb dQ_read_154 (by decide) ?_
  exact hk119 hf (lv_sub hl [1, 0] rfl) hH
set_option maxHeartbeats 4000000 in
set_option maxRecDepth 100000 in
theorem bQ_read_137 {p : Program} {l : Launch} {e : Env} {s : State} {m : MethodId} {args : Array Value} {below : List Frame} {meth : Method} {c : Code} {G : lc_G} (hx : p.tables.exec = Jvm.exec) (hb : c.code = prog_10_method_17_code) (hml : c.maxLocals = 2) (hr : meth.sig.returnType = none) (hlocks : meth.locks = false) (hown : s.vm.findClass "LinearCellsModel" = some m.cls) (hts : ∀ w ∈ lc_ALL, w.before args s = true) (hE : lc_E G s) {k119 : Int32 → lc_S → Option ((Unit) × lc_S)} {r : Unit} {z' : lc_S} (hk119 : ∀ {x1 : Int32} {z : lc_S} {H : Heap} {locs : List Loc} {ls : Array Slot}, k119 x1 z = some (r, z') → lv_has ls 2 [(0, .ref (lc_ad G 80)), (1, .int x1)] → lc_H G z s.heap H locs → W p l e (lc_rm 4) s m args below meth c H locs 0 0 (MQ below (lc_Q G none z') args s 0 0 (lc_A G)) (F0 m 119 ls [])) : ∀ {x1 : Int32} {z : lc_S} {H : Heap} {locs : List Loc} {ls : Array Slot}, fQ_read_137 k119 x1 z = some (r, z') → lv_has ls 2 [(0, .ref (lc_ad G 80)), (1, .int x1)] → lc_H G z s.heap H locs → W p l e (lc_rm 4) s m args below meth c H locs 0 0 (MQ below (lc_Q G none z') args s 0 0 (lc_A G)) (F0 m 137 ls []) := by
  intro x1 z H locs ls hf hl hH
  rw [fQ_read_137] at hf
  refine lv_iload_n hx hb dQ_read_137 rfl (lv_at hl 1 rfl) ?_
  refine lv_if_ge (tgt := 148) hx hb dQ_read_138 (by decide) (fun hc => ?_) (fun hc => ?_)
  · replace hf := lc_ite_pos hc hf
    refine lv_aload_n hx hb dQ_read_148 rfl (lv_at hl 0 rfl) ?_
    refine lv_iload_n hx hb dQ_read_149 rfl (lv_at hl 1 rfl) ?_
    obtain ⟨r150, z150, h150, hf⟩ := lc_bnd_some hf
    refine lc_calli (va_runV (As := [.int x1]) (rest := []) ⟨hx, hb, hml, hown, hts⟩ (cQ_attach l G h150) (lc_cwV hts kvQ_202 (lc_room (by decide) (by decide))) (lc_preV hE hH lc_h80 rfl _) rfl rfl hl.1 rfl (lv_room (Nat.le_of_ble_eq_true rfl)) dQ_read_150 ⟨Nat.zero_le _, Nat.zero_le _⟩) hH (fun H locs hH => ?_)
    exact bQ_read_153 hx hb hml hr hlocks hown hts hE (fun hf hl hH => hk119 hf hl hH) hf (lv_sub hl [0] rfl) hH
  · replace hf := lc_ite_neg hc hf
    refine lv_aload_n hx hb dQ_read_141 rfl (lv_at hl 0 rfl) ?_
    obtain ⟨r142, z142, h142, hf⟩ := lc_bnd_some hf
    refine lc_calli (va_runV (As := []) (rest := []) ⟨hx, hb, hml, hown, hts⟩ (cQ_begin l G h142) (lc_cwV hts kvQ_199 (lc_room (by decide) (by decide))) (lc_preV hE hH lc_h80 rfl _) rfl rfl hl.1 rfl (lv_room (Nat.le_of_ble_eq_true rfl)) dQ_read_142 ⟨Nat.zero_le _, Nat.zero_le _⟩) hH (fun H locs hH => ?_)
    refine lv_goto (tgt := 153) hx hb dQ_read_145 (by decide) ?_
    exact bQ_read_153 hx hb hml hr hlocks hown hts hE (fun hf hl hH => hk119 hf hl hH) hf (lv_sub hl [0] rfl) hH
set_option maxHeartbeats 4000000 in
set_option maxRecDepth 100000 in
theorem bQ_read_177 {p : Program} {l : Launch} {e : Env} {s : State} {m : MethodId} {args : Array Value} {below : List Frame} {meth : Method} {c : Code} {G : lc_G} (hx : p.tables.exec = Jvm.exec) (hb : c.code = prog_10_method_17_code) (hml : c.maxLocals = 2) (hr : meth.sig.returnType = none) (hlocks : meth.locks = false) (hown : s.vm.findClass "LinearCellsModel" = some m.cls) (hts : ∀ w ∈ lc_ALL, w.before args s = true) (hE : lc_E G s) {r : Unit} {z' : lc_S} : ∀ {t1 : Int32} {z : lc_S} {H : Heap} {locs : List Loc} {ls : Array Slot}, fQ_read_177 t1 z = some (r, z') → lv_has ls 2 [] → lc_H G z s.heap H locs → W p l e (lc_rm 4) s m args below meth c H locs 0 0 (MQ below (lc_Q G none z') args s 0 0 (lc_A G)) (F0 m 177 ls [.int t1, .ref (lc_ad G 80)]) := by
  intro t1 z H locs ls hf hl hH
  rw [fQ_read_177] at hf
  obtain ⟨hz177, hf⟩ := lc_chk_some hf
  refine lc_puti hx hb hts hown hE hH fpQ_155 lc_h80 rfl (lc_zn hz177) (lc_zf hz177) dQ_read_177 (fun H locs hH => ?_)
  exact lc_vret hx hb hr hlocks hH hf dQ_read_180
set_option maxHeartbeats 4000000 in
set_option maxRecDepth 100000 in
theorem bQ_read_172 {p : Program} {l : Launch} {e : Env} {s : State} {m : MethodId} {args : Array Value} {below : List Frame} {meth : Method} {c : Code} {G : lc_G} (hx : p.tables.exec = Jvm.exec) (hb : c.code = prog_10_method_17_code) (hml : c.maxLocals = 2) (hr : meth.sig.returnType = none) (hlocks : meth.locks = false) (hown : s.vm.findClass "LinearCellsModel" = some m.cls) (hts : ∀ w ∈ lc_ALL, w.before args s = true) (hE : lc_E G s) {r : Unit} {z' : lc_S} : ∀ {z : lc_S} {H : Heap} {locs : List Loc} {ls : Array Slot}, fQ_read_172 z = some (r, z') → lv_has ls 2 [] → lc_H G z s.heap H locs → W p l e (lc_rm 4) s m args below meth c H locs 0 0 (MQ below (lc_Q G none z') args s 0 0 (lc_A G)) (F0 m 172 ls [.ref (lc_ad G 80)]) := by
  intro z H locs ls hf hl hH
  rw [fQ_read_172] at hf
  refine lv_iconst (v := 1) hx hb dQ_read_172 (by decide) ?_
  refine lv_goto (tgt := 177) hx hb dQ_read_173 (by decide) ?_
  exact bQ_read_177 hx hb hml hr hlocks hown hts hE hf (lv_sub hl [] rfl) hH
set_option maxHeartbeats 4000000 in
set_option maxRecDepth 100000 in
theorem bQ_read_157 {p : Program} {l : Launch} {e : Env} {s : State} {m : MethodId} {args : Array Value} {below : List Frame} {meth : Method} {c : Code} {G : lc_G} (hx : p.tables.exec = Jvm.exec) (hb : c.code = prog_10_method_17_code) (hml : c.maxLocals = 2) (hr : meth.sig.returnType = none) (hlocks : meth.locks = false) (hown : s.vm.findClass "LinearCellsModel" = some m.cls) (hts : ∀ w ∈ lc_ALL, w.before args s = true) (hE : lc_E G s) {r : Unit} {z' : lc_S} : ∀ {z : lc_S} {H : Heap} {locs : List Loc} {ls : Array Slot}, fQ_read_157 z = some (r, z') → lv_has ls 2 [(0, .ref (lc_ad G 80))] → lc_H G z s.heap H locs → W p l e (lc_rm 4) s m args below meth c H locs 0 0 (MQ below (lc_Q G none z') args s 0 0 (lc_A G)) (F0 m 157 ls []) := by
  intro z H locs ls hf hl hH
  rw [fQ_read_157] at hf
  refine lv_aload_n hx hb dQ_read_157 rfl (lv_at hl 0 rfl) ?_
  refine lv_aload_n hx hb dQ_read_158 rfl (lv_at hl 0 rfl) ?_
  refine lc_geti hx hb hts hown hE hH flQ_155 lc_h80 rfl dQ_read_159 ?_
  refine lv_if_ne (tgt := 172) hx hb dQ_read_162 (by decide) (fun hc => ?_) (fun hc => ?_)
  · replace hf := lc_ite_neg hc hf
    exact bQ_read_172 hx hb hml hr hlocks hown hts hE hf (lv_sub hl [] rfl) hH
  · replace hf := lc_ite_pos hc hf
    refine lv_aload_n hx hb dQ_read_165 rfl (lv_at hl 0 rfl) ?_
    obtain ⟨r166, z166, h166, hf⟩ := lc_bnd_some hf
    refine lc_calli (va_runV (As := []) (rest := [.ref (lc_ad G 80)]) ⟨hx, hb, hml, hown, hts⟩ (cQ_peek l G h166) (lc_cwV hts kvQ_151 (lc_room (by decide) (by decide))) (lc_preV hE hH lc_h80 rfl _) rfl rfl hl.1 rfl (lv_room (Nat.le_of_ble_eq_true rfl)) dQ_read_166 ⟨Nat.zero_le _, Nat.zero_le _⟩) hH (fun H locs hH => ?_)
    refine lv_if_eq (tgt := 176) hx hb dQ_read_169 (by decide) (fun hc => ?_) (fun hc => ?_)
    · replace hf := lc_ite_pos hc hf
      refine lv_iconst (v := 0) hx hb dQ_read_176 (by decide) ?_
      exact bQ_read_177 hx hb hml hr hlocks hown hts hE hf (lv_sub hl [] rfl) hH
    · replace hf := lc_ite_neg hc hf
      exact bQ_read_172 hx hb hml hr hlocks hown hts hE hf (lv_sub hl [] rfl) hH
set_option maxHeartbeats 4000000 in
set_option maxRecDepth 100000 in
theorem bQ_read_119 {p : Program} {l : Launch} {e : Env} {s : State} {m : MethodId} {args : Array Value} {below : List Frame} {meth : Method} {c : Code} {G : lc_G} (hx : p.tables.exec = Jvm.exec) (hb : c.code = prog_10_method_17_code) (hml : c.maxLocals = 2) (hr : meth.sig.returnType = none) (hlocks : meth.locks = false) (hown : s.vm.findClass "LinearCellsModel" = some m.cls) (hts : ∀ w ∈ lc_ALL, w.before args s = true) (hE : lc_E G s) {r : Unit} {z' : lc_S} : ∀ (n : Nat) {x1 : Int32} {z : lc_S} {H : Heap} {locs : List Loc} {ls : Array Slot}, fQ_read_119 n x1 z = some (r, z') → lv_has ls 2 [(0, .ref (lc_ad G 80)), (1, .int x1)] → lc_H G z s.heap H locs → W p l e (lc_rm 4) s m args below meth c H locs 0 0 (MQ below (lc_Q G none z') args s 0 0 (lc_A G)) (F0 m 119 ls []) := by
  intro n
  induction n with
  | zero =>
    intro x1 z H locs ls hf hl hH
    exact absurd (show (none : Option ((Unit) × lc_S)) = some (r, z') from hf) (fun h => by cases h)
  | succ n ih =>
    intro x1 z H locs ls hf hl hH
    rw [fQ_read_119] at hf
    refine lv_aload_n hx hb dQ_read_119 rfl (lv_at hl 0 rfl) ?_
    refine lc_geti hx hb hts hown hE hH flQ_155 lc_h80 rfl dQ_read_120 ?_
    refine lv_if_ne (tgt := 157) hx hb dQ_read_123 (by decide) (fun hc => ?_) (fun hc => ?_)
    · replace hf := lc_ite_neg hc hf
      exact bQ_read_157 hx hb hml hr hlocks hown hts hE hf (lv_sub hl [0] rfl) hH
    · replace hf := lc_ite_pos hc hf
      refine lv_iload_n hx hb dQ_read_126 rfl (lv_at hl 1 rfl) ?_
      refine lv_if_lt (tgt := 137) hx hb dQ_read_127 (by decide) (fun hc => ?_) (fun hc => ?_)
      · replace hf := lc_ite_pos hc hf
        exact bQ_read_137 hx hb hml hr hlocks hown hts hE (fun hf hl hH => ih hf hl hH) hf (lv_sub hl [0, 1] rfl) hH
      · replace hf := lc_ite_neg hc hf
        refine lv_aload_n hx hb dQ_read_130 rfl (lv_at hl 0 rfl) ?_
        refine lc_geti hx hb hts hown hE hH flQ_185 lc_h80 rfl dQ_read_131 ?_
        refine lv_if_le (tgt := 157) hx hb dQ_read_134 (by decide) (fun hc => ?_) (fun hc => ?_)
        · replace hf := lc_ite_pos hc hf
          exact bQ_read_157 hx hb hml hr hlocks hown hts hE hf (lv_sub hl [0] rfl) hH
        · replace hf := lc_ite_neg hc hf
          exact bQ_read_137 hx hb hml hr hlocks hown hts hE (fun hf hl hH => ih hf hl hH) hf (lv_sub hl [0, 1] rfl) hH
set_option maxHeartbeats 4000000 in
set_option maxRecDepth 100000 in
theorem bQ_read_93 {p : Program} {l : Launch} {e : Env} {s : State} {m : MethodId} {args : Array Value} {below : List Frame} {meth : Method} {c : Code} {G : lc_G} (hx : p.tables.exec = Jvm.exec) (hb : c.code = prog_10_method_17_code) (hml : c.maxLocals = 2) (hr : meth.sig.returnType = none) (hlocks : meth.locks = false) (hown : s.vm.findClass "LinearCellsModel" = some m.cls) (hts : ∀ w ∈ lc_ALL, w.before args s = true) (hE : lc_E G s) {r : Unit} {z' : lc_S} : ∀ (n : Nat) {x1 : Int32} {z : lc_S} {H : Heap} {locs : List Loc} {ls : Array Slot}, fQ_read_93 n x1 z = some (r, z') → lv_has ls 2 [(0, .ref (lc_ad G 80)), (1, .int x1)] → lc_H G z s.heap H locs → W p l e (lc_rm 4) s m args below meth c H locs 0 0 (MQ below (lc_Q G none z') args s 0 0 (lc_A G)) (F0 m 93 ls []) := by
  intro n
  induction n with
  | zero =>
    intro x1 z H locs ls hf hl hH
    exact absurd (show (none : Option ((Unit) × lc_S)) = some (r, z') from hf) (fun h => by cases h)
  | succ n ih =>
    intro x1 z H locs ls hf hl hH
    rw [fQ_read_93] at hf
    refine lv_iload_n hx hb dQ_read_93 rfl (lv_at hl 1 rfl) ?_
    refine lv_bipush (v := 120) hx hb dQ_read_94 (by decide) ?_
    refine lv_icmp_ge (tgt := 117) hx hb dQ_read_96 (by decide) (fun hc => ?_) (fun hc => ?_)
    · replace hf := lc_ite_pos hc hf
      refine lv_iconst (v := (-1)) hx hb dQ_read_117 (by decide) ?_
      refine lv_istore_n hx hb dQ_read_118 rfl hl (by decide) rfl (fun ls hl => ?_)
      replace hl : lv_has ls 2 [(1, .int (-1)), (0, .ref (lc_ad G 80))] := hl
      exact bQ_read_119 hx hb hml hr hlocks hown hts hE _ hf (lv_sub hl [1, 0] rfl) hH
    · replace hf := lc_ite_neg hc hf
      refine lv_aload_n hx hb dQ_read_99 rfl (lv_at hl 0 rfl) ?_
      refine lc_getf (d := 11) (q := 91) hx hb hts hown hE hH flQ_41 lc_h80 rfl rfl dQ_read_100 ?_
      refine lv_iload_n hx hb dQ_read_103 rfl (lv_at hl 1 rfl) ?_
      refine lv_aload_n hx hb dQ_read_104 rfl (lv_at hl 0 rfl) ?_
      refine lc_getf (d := 39) (q := 119) hx hb hts hown hE hH flQ_126 lc_h80 rfl rfl dQ_read_105 ?_
      refine lv_iload_n hx hb dQ_read_108 rfl (lv_at hl 1 rfl) ?_
      obtain ⟨hi109, hf⟩ := lc_chk_some hf
      refine lc_iald hx hb hE hH lc_h119 rfl hi109 dQ_read_109 ?_
      obtain ⟨hi110, hf⟩ := lc_chk_some hf
      refine lc_iast hx hb hE hH lc_h91 rfl hi110 dQ_read_110 (fun H locs hH => ?_)
      obtain ⟨x111, e111⟩ : ∃ x : Int32, x = x1 + 1 := ⟨_, rfl⟩
      replace hf := lc_let_of e111 hf
      refine lv_iinc (k := 1) (v := x111) hx hb dQ_read_111 hl rfl ((lc_incv _ (by decide)).trans e111.symm) (by decide) rfl (fun ls hl => ?_)
      replace hl : lv_has ls 2 [(1, .int x111), (0, .ref (lc_ad G 80))] := hl
      refine lv_goto (tgt := 93) hx hb dQ_read_114 (by decide) ?_
      exact ih hf (lv_sub hl [1, 0] rfl) hH
set_option maxHeartbeats 4000000 in
set_option maxRecDepth 100000 in
theorem bQ_read_91 {p : Program} {l : Launch} {e : Env} {s : State} {m : MethodId} {args : Array Value} {below : List Frame} {meth : Method} {c : Code} {G : lc_G} (hx : p.tables.exec = Jvm.exec) (hb : c.code = prog_10_method_17_code) (hml : c.maxLocals = 2) (hr : meth.sig.returnType = none) (hlocks : meth.locks = false) (hown : s.vm.findClass "LinearCellsModel" = some m.cls) (hts : ∀ w ∈ lc_ALL, w.before args s = true) (hE : lc_E G s) {r : Unit} {z' : lc_S} : ∀ {z : lc_S} {H : Heap} {locs : List Loc} {ls : Array Slot}, fQ_read_91 z = some (r, z') → lv_has ls 2 [(0, .ref (lc_ad G 80))] → lc_H G z s.heap H locs → W p l e (lc_rm 4) s m args below meth c H locs 0 0 (MQ below (lc_Q G none z') args s 0 0 (lc_A G)) (F0 m 91 ls []) := by
  intro z H locs ls hf hl hH
  rw [fQ_read_91] at hf
  refine lv_iconst (v := 0) hx hb dQ_read_91 (by decide) ?_
  refine lv_istore_n hx hb dQ_read_92 rfl hl (by decide) rfl (fun ls hl => ?_)
  replace hl : lv_has ls 2 [(1, .int 0), (0, .ref (lc_ad G 80))] := hl
  exact bQ_read_93 hx hb hml hr hlocks hown hts hE _ hf (lv_sub hl [1, 0] rfl) hH
set_option maxHeartbeats 4000000 in
set_option maxRecDepth 100000 in
theorem bQ_read_52 {p : Program} {l : Launch} {e : Env} {s : State} {m : MethodId} {args : Array Value} {below : List Frame} {meth : Method} {c : Code} {G : lc_G} (hx : p.tables.exec = Jvm.exec) (hb : c.code = prog_10_method_17_code) (hml : c.maxLocals = 2) (hr : meth.sig.returnType = none) (hlocks : meth.locks = false) (hown : s.vm.findClass "LinearCellsModel" = some m.cls) (hts : ∀ w ∈ lc_ALL, w.before args s = true) (hE : lc_E G s) {r : Unit} {z' : lc_S} : ∀ (n : Nat) {x1 : Int32} {z : lc_S} {H : Heap} {locs : List Loc} {ls : Array Slot}, fQ_read_52 n x1 z = some (r, z') → lv_has ls 2 [(0, .ref (lc_ad G 80)), (1, .int x1)] → lc_H G z s.heap H locs → W p l e (lc_rm 4) s m args below meth c H locs 0 0 (MQ below (lc_Q G none z') args s 0 0 (lc_A G)) (F0 m 52 ls []) := by
  intro n
  induction n with
  | zero =>
    intro x1 z H locs ls hf hl hH
    exact absurd (show (none : Option ((Unit) × lc_S)) = some (r, z') from hf) (fun h => by cases h)
  | succ n ih =>
    intro x1 z H locs ls hf hl hH
    rw [fQ_read_52] at hf
    refine lv_iload_n hx hb dQ_read_52 rfl (lv_at hl 1 rfl) ?_
    refine lv_bipush (v := 120) hx hb dQ_read_53 (by decide) ?_
    refine lv_icmp_ge (tgt := 76) hx hb dQ_read_55 (by decide) (fun hc => ?_) (fun hc => ?_)
    · replace hf := lc_ite_pos hc hf
      refine lv_aload_n hx hb dQ_read_76 rfl (lv_at hl 0 rfl) ?_
      refine lc_geti hx hb hts hown hE hH flQ_155 lc_h80 rfl dQ_read_77 ?_
      refine lv_if_ne (tgt := 91) hx hb dQ_read_80 (by decide) (fun hc => ?_) (fun hc => ?_)
      · replace hf := lc_ite_neg hc hf
        exact bQ_read_91 hx hb hml hr hlocks hown hts hE hf (lv_sub hl [0] rfl) hH
      · replace hf := lc_ite_pos hc hf
        refine lv_aload_n hx hb dQ_read_83 rfl (lv_at hl 0 rfl) ?_
        refine lv_aload_n hx hb dQ_read_84 rfl (lv_at hl 0 rfl) ?_
        refine lc_getf (d := 39) (q := 119) hx hb hts hown hE hH flQ_126 lc_h80 rfl rfl dQ_read_85 ?_
        obtain ⟨r88, z88, h88, hf⟩ := lc_bnd_some hf
        refine lc_callv (va_runV (As := [.ref (lc_ad G 119)]) (rest := []) ⟨hx, hb, hml, hown, hts⟩ (cQ_type l G h88) (lc_cwV hts kvQ_195 (lc_room (by decide) (by decide))) (lc_preV hE hH lc_h80 rfl _) rfl rfl hl.1 rfl (lv_room (Nat.le_of_ble_eq_true rfl)) dQ_read_88 ⟨Nat.zero_le _, Nat.zero_le _⟩) hH (fun H locs hH => ?_)
        exact bQ_read_91 hx hb hml hr hlocks hown hts hE hf (lv_sub hl [0] rfl) hH
    · replace hf := lc_ite_neg hc hf
      refine lv_aload_n hx hb dQ_read_58 rfl (lv_at hl 0 rfl) ?_
      refine lc_getf (d := 10) (q := 90) hx hb hts hown hE hH flQ_38 lc_h80 rfl rfl dQ_read_59 ?_
      refine lv_iload_n hx hb dQ_read_62 rfl (lv_at hl 1 rfl) ?_
      refine lv_aload_n hx hb dQ_read_63 rfl (lv_at hl 0 rfl) ?_
      refine lc_getf (d := 39) (q := 119) hx hb hts hown hE hH flQ_126 lc_h80 rfl rfl dQ_read_64 ?_
      refine lv_iload_n hx hb dQ_read_67 rfl (lv_at hl 1 rfl) ?_
      obtain ⟨hi68, hf⟩ := lc_chk_some hf
      refine lc_iald hx hb hE hH lc_h119 rfl hi68 dQ_read_68 ?_
      obtain ⟨hi69, hf⟩ := lc_chk_some hf
      refine lc_iast hx hb hE hH lc_h90 rfl hi69 dQ_read_69 (fun H locs hH => ?_)
      obtain ⟨x70, e70⟩ : ∃ x : Int32, x = x1 + 1 := ⟨_, rfl⟩
      replace hf := lc_let_of e70 hf
      refine lv_iinc (k := 1) (v := x70) hx hb dQ_read_70 hl rfl ((lc_incv _ (by decide)).trans e70.symm) (by decide) rfl (fun ls hl => ?_)
      replace hl : lv_has ls 2 [(1, .int x70), (0, .ref (lc_ad G 80))] := hl
      refine lv_goto (tgt := 52) hx hb dQ_read_73 (by decide) ?_
      exact ih hf (lv_sub hl [1, 0] rfl) hH
set_option maxHeartbeats 4000000 in
set_option maxRecDepth 100000 in
theorem cQ_read (l : Launch) (G : lc_G) {r : Unit} {z z' : lc_S} (hf : fQ_read z = some (r, z')) : lc_M l G yQ_read wQ_read 4 [.ref (lc_ad G 80)] z none z' := by
  refine lc_M_of (cc := prog_10_method_17_code) (maxL := 2) (ret := none) (own := "LinearCellsModel") (by decide) rfl (fun w h => List.mem_cons_of_mem _ h) (Nat.le_of_ble_eq_true rfl) rfl ?_
  intro p e s m below meth c hx hb hml hr hlocks hown hts hE ls hl hH
  replace hl : lv_has ls 2 [(0, .ref (lc_ad G 80))] := hl
  rw [fQ_read] at hf
  refine lv_aload_n hx hb dQ_read_0 rfl (lv_at hl 0 rfl) ?_
  refine lv_iconst (v := 0) hx hb dQ_read_1 (by decide) ?_
  refine lc_puti hx hb hts hown hE hH fpQ_148 lc_h80 rfl rfl rfl dQ_read_2 (fun H locs hH => ?_)
  refine lv_aload_n hx hb dQ_read_5 rfl (lv_at hl 0 rfl) ?_
  refine lv_iconst (v := 0) hx hb dQ_read_6 (by decide) ?_
  refine lc_puti hx hb hts hown hE hH fpQ_155 lc_h80 rfl (by decide) (by decide) dQ_read_7 (fun H locs hH => ?_)
  refine lv_aload_n hx hb dQ_read_10 rfl (lv_at hl 0 rfl) ?_
  refine lv_iconst (v := 0) hx hb dQ_read_11 (by decide) ?_
  refine lc_puti hx hb hts hown hE hH fpQ_182 lc_h80 rfl (by decide) (by decide) dQ_read_12 (fun H locs hH => ?_)
  refine lv_aload_n hx hb dQ_read_15 rfl (lv_at hl 0 rfl) ?_
  refine lv_iconst (v := 0) hx hb dQ_read_16 (by decide) ?_
  refine lc_puti hx hb hts hown hE hH fpQ_185 lc_h80 rfl rfl rfl dQ_read_17 (fun H locs hH => ?_)
  refine lv_aload_n hx hb dQ_read_20 rfl (lv_at hl 0 rfl) ?_
  refine lv_iconst (v := 0) hx hb dQ_read_21 (by decide) ?_
  refine lc_puti hx hb hts hown hE hH fpQ_179 lc_h80 rfl rfl rfl dQ_read_22 (fun H locs hH => ?_)
  refine lv_aload_n hx hb dQ_read_25 rfl (lv_at hl 0 rfl) ?_
  refine lc_getf (d := 9) (q := 89) hx hb hts hown hE hH flQ_35 lc_h80 rfl rfl dQ_read_26 ?_
  refine lv_iconst (v := 0) hx hb dQ_read_29 (by decide) ?_
  refine lv_iconst (v := 0) hx hb dQ_read_30 (by decide) ?_
  refine lc_iast hx hb hE hH lc_h89 rfl (by decide) dQ_read_31 (fun H locs hH => ?_)
  refine lv_aload_n hx hb dQ_read_32 rfl (lv_at hl 0 rfl) ?_
  refine lv_aload_n hx hb dQ_read_33 rfl (lv_at hl 0 rfl) ?_
  obtain ⟨r34, z34, h34, hf⟩ := lc_bnd_some hf
  refine lc_calli (va_runV (As := []) (rest := [.ref (lc_ad G 80)]) ⟨hx, hb, hml, hown, hts⟩ (cQ_letter l G h34) (lc_cwV hts kvQ_188 (lc_room (by decide) (by decide))) (lc_preV hE hH lc_h80 rfl _) rfl rfl hl.1 rfl (lv_room (Nat.le_of_ble_eq_true rfl)) dQ_read_34 ⟨Nat.zero_le _, Nat.zero_le _⟩) hH (fun H locs hH => ?_)
  refine lv_iconst (v := (-1)) hx hb dQ_read_37 (by decide) ?_
  refine lv_iconst (v := 0) hx hb dQ_read_38 (by decide) ?_
  obtain ⟨r39, z39, h39, hf⟩ := lc_bnd_some hf
  refine lc_callv (va_runV (As := [.int r34, .int (-1), .int 0]) (rest := []) ⟨hx, hb, hml, hown, hts⟩ (cQ_bind l G h39) (lc_cwV hts kvQ_191 (lc_room (by decide) (by decide))) (lc_preV hE hH lc_h80 rfl _) rfl rfl hl.1 rfl (lv_room (Nat.le_of_ble_eq_true rfl)) dQ_read_39 ⟨Nat.zero_le _, Nat.zero_le _⟩) hH (fun H locs hH => ?_)
  refine lv_aload_n hx hb dQ_read_42 rfl (lv_at hl 0 rfl) ?_
  refine lv_aload_n hx hb dQ_read_43 rfl (lv_at hl 0 rfl) ?_
  refine lc_getf (d := 39) (q := 119) hx hb hts hown hE hH flQ_126 lc_h80 rfl rfl dQ_read_44 ?_
  obtain ⟨r47, z47, h47, hf⟩ := lc_bnd_some hf
  refine lc_callv (va_runV (As := [.ref (lc_ad G 119)]) (rest := []) ⟨hx, hb, hml, hown, hts⟩ (cQ_type l G h47) (lc_cwV hts kvQ_195 (lc_room (by decide) (by decide))) (lc_preV hE hH lc_h80 rfl _) rfl rfl hl.1 rfl (lv_room (Nat.le_of_ble_eq_true rfl)) dQ_read_47 ⟨Nat.zero_le _, Nat.zero_le _⟩) hH (fun H locs hH => ?_)
  refine lv_iconst (v := 0) hx hb dQ_read_50 (by decide) ?_
  refine lv_istore_n hx hb dQ_read_51 rfl hl (by decide) rfl (fun ls hl => ?_)
  replace hl : lv_has ls 2 [(1, .int 0), (0, .ref (lc_ad G 80))] := hl
  exact bQ_read_52 hx hb hml hr hlocks hown hts hE _ hf (lv_sub hl [1, 0] rfl) hH
