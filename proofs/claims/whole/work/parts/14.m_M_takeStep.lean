theorem dM_takeStep_0 : decode prog_3_method_11_code 0 = .ok (.aload_n 0, 1) := by decide +kernel
theorem dM_takeStep_1 : decode prog_3_method_11_code 1 = .ok (.getfield 73, 3) := by decide +kernel
theorem dM_takeStep_4 : decode prog_3_method_11_code 4 = .ok (.iconst 1, 1) := by decide +kernel
theorem dM_takeStep_5 : decode prog_3_method_11_code 5 = .ok (.isub, 1) := by decide +kernel
theorem dM_takeStep_6 : decode prog_3_method_11_code 6 = .ok (.istore_n 1, 1) := by decide +kernel
theorem dM_takeStep_7 : decode prog_3_method_11_code 7 = .ok (.aload_n 0, 1) := by decide +kernel
theorem dM_takeStep_8 : decode prog_3_method_11_code 8 = .ok (.getfield 34, 3) := by decide +kernel
theorem dM_takeStep_11 : decode prog_3_method_11_code 11 = .ok (.iload_n 1, 1) := by decide +kernel
theorem dM_takeStep_12 : decode prog_3_method_11_code 12 = .ok (.iaload, 1) := by decide +kernel
theorem dM_takeStep_13 : decode prog_3_method_11_code 13 = .ok (.istore_n 2, 1) := by decide +kernel
theorem dM_takeStep_14 : decode prog_3_method_11_code 14 = .ok (.aload_n 0, 1) := by decide +kernel
theorem dM_takeStep_15 : decode prog_3_method_11_code 15 = .ok (.getfield 30, 3) := by decide +kernel
theorem dM_takeStep_18 : decode prog_3_method_11_code 18 = .ok (.iload_n 1, 1) := by decide +kernel
theorem dM_takeStep_19 : decode prog_3_method_11_code 19 = .ok (.iaload, 1) := by decide +kernel
theorem dM_takeStep_20 : decode prog_3_method_11_code 20 = .ok (.istore_n 3, 1) := by decide +kernel
theorem dM_takeStep_21 : decode prog_3_method_11_code 21 = .ok (.aload_n 0, 1) := by decide +kernel
theorem dM_takeStep_22 : decode prog_3_method_11_code 22 = .ok (.getfield 37, 3) := by decide +kernel
theorem dM_takeStep_25 : decode prog_3_method_11_code 25 = .ok (.iload_n 1, 1) := by decide +kernel
theorem dM_takeStep_26 : decode prog_3_method_11_code 26 = .ok (.iaload, 1) := by decide +kernel
theorem dM_takeStep_27 : decode prog_3_method_11_code 27 = .ok (.istore 4, 2) := by decide +kernel
theorem dM_takeStep_29 : decode prog_3_method_11_code 29 = .ok (.aload_n 0, 1) := by decide +kernel
theorem dM_takeStep_30 : decode prog_3_method_11_code 30 = .ok (.getfield 22, 3) := by decide +kernel
theorem dM_takeStep_33 : decode prog_3_method_11_code 33 = .ok (.iload_n 2, 1) := by decide +kernel
theorem dM_takeStep_34 : decode prog_3_method_11_code 34 = .ok (.aaload, 1) := by decide +kernel
theorem dM_takeStep_35 : decode prog_3_method_11_code 35 = .ok (.getfield 104, 3) := by decide +kernel
theorem dM_takeStep_38 : decode prog_3_method_11_code 38 = .ok (.iload_n 3, 1) := by decide +kernel
theorem dM_takeStep_39 : decode prog_3_method_11_code 39 = .ok (.iaload, 1) := by decide +kernel
theorem dM_takeStep_40 : decode prog_3_method_11_code 40 = .ok (.istore 5, 2) := by decide +kernel
theorem dM_takeStep_42 : decode prog_3_method_11_code 42 = .ok (.aload_n 0, 1) := by decide +kernel
theorem dM_takeStep_43 : decode prog_3_method_11_code 43 = .ok (.getfield 37, 3) := by decide +kernel
theorem dM_takeStep_46 : decode prog_3_method_11_code 46 = .ok (.iload_n 1, 1) := by decide +kernel
theorem dM_takeStep_47 : decode prog_3_method_11_code 47 = .ok (.dup2, 1) := by decide +kernel
theorem dM_takeStep_48 : decode prog_3_method_11_code 48 = .ok (.iaload, 1) := by decide +kernel
theorem dM_takeStep_49 : decode prog_3_method_11_code 49 = .ok (.iconst 1, 1) := by decide +kernel
theorem dM_takeStep_50 : decode prog_3_method_11_code 50 = .ok (.iadd, 1) := by decide +kernel
theorem dM_takeStep_51 : decode prog_3_method_11_code 51 = .ok (.iastore, 1) := by decide +kernel
theorem dM_takeStep_52 : decode prog_3_method_11_code 52 = .ok (.iload 5, 2) := by decide +kernel
theorem dM_takeStep_54 : decode prog_3_method_11_code 54 = .ok (.bipush 35, 2) := by decide +kernel
theorem dM_takeStep_56 : decode prog_3_method_11_code 56 = .ok (.if_icmp .ne 25, 3) := by decide +kernel
theorem dM_takeStep_59 : decode prog_3_method_11_code 59 = .ok (.aload_n 0, 1) := by decide +kernel
theorem dM_takeStep_60 : decode prog_3_method_11_code 60 = .ok (.iconst 1, 1) := by decide +kernel
theorem dM_takeStep_61 : decode prog_3_method_11_code 61 = .ok (.aload_n 0, 1) := by decide +kernel
theorem dM_takeStep_62 : decode prog_3_method_11_code 62 = .ok (.getfield 22, 3) := by decide +kernel
theorem dM_takeStep_65 : decode prog_3_method_11_code 65 = .ok (.iload_n 2, 1) := by decide +kernel
theorem dM_takeStep_66 : decode prog_3_method_11_code 66 = .ok (.aaload, 1) := by decide +kernel
theorem dM_takeStep_67 : decode prog_3_method_11_code 67 = .ok (.getfield 107, 3) := by decide +kernel
theorem dM_takeStep_70 : decode prog_3_method_11_code 70 = .ok (.iload_n 3, 1) := by decide +kernel
theorem dM_takeStep_71 : decode prog_3_method_11_code 71 = .ok (.iaload, 1) := by decide +kernel
theorem dM_takeStep_72 : decode prog_3_method_11_code 72 = .ok (.invokestatic 76, 3) := by decide +kernel
theorem dM_takeStep_75 : decode prog_3_method_11_code 75 = .ok (.invokevirtual 110, 3) := by decide +kernel
theorem dM_takeStep_78 : decode prog_3_method_11_code 78 = .ok (.goto 99, 3) := by decide +kernel
theorem dM_takeStep_81 : decode prog_3_method_11_code 81 = .ok (.iload 5, 2) := by decide +kernel
theorem dM_takeStep_83 : decode prog_3_method_11_code 83 = .ok (.bipush 118, 2) := by decide +kernel
theorem dM_takeStep_85 : decode prog_3_method_11_code 85 = .ok (.if_icmp .ne 16, 3) := by decide +kernel
theorem dM_takeStep_88 : decode prog_3_method_11_code 88 = .ok (.aload_n 0, 1) := by decide +kernel
theorem dM_takeStep_89 : decode prog_3_method_11_code 89 = .ok (.aload_n 0, 1) := by decide +kernel
theorem dM_takeStep_90 : decode prog_3_method_11_code 90 = .ok (.iload_n 3, 1) := by decide +kernel
theorem dM_takeStep_91 : decode prog_3_method_11_code 91 = .ok (.iload_n 2, 1) := by decide +kernel
theorem dM_takeStep_92 : decode prog_3_method_11_code 92 = .ok (.invokevirtual 114, 3) := by decide +kernel
theorem dM_takeStep_95 : decode prog_3_method_11_code 95 = .ok (.invokevirtual 110, 3) := by decide +kernel
theorem dM_takeStep_98 : decode prog_3_method_11_code 98 = .ok (.goto 79, 3) := by decide +kernel
theorem dM_takeStep_101 : decode prog_3_method_11_code 101 = .ok (.iload 4, 2) := by decide +kernel
theorem dM_takeStep_103 : decode prog_3_method_11_code 103 = .ok (.ifCond .ne 22, 3) := by decide +kernel
theorem dM_takeStep_106 : decode prog_3_method_11_code 106 = .ok (.aload_n 0, 1) := by decide +kernel
theorem dM_takeStep_107 : decode prog_3_method_11_code 107 = .ok (.aload_n 0, 1) := by decide +kernel
theorem dM_takeStep_108 : decode prog_3_method_11_code 108 = .ok (.getfield 22, 3) := by decide +kernel
theorem dM_takeStep_111 : decode prog_3_method_11_code 111 = .ok (.iload_n 2, 1) := by decide +kernel
theorem dM_takeStep_112 : decode prog_3_method_11_code 112 = .ok (.aaload, 1) := by decide +kernel
theorem dM_takeStep_113 : decode prog_3_method_11_code 113 = .ok (.getfield 117, 3) := by decide +kernel
theorem dM_takeStep_116 : decode prog_3_method_11_code 116 = .ok (.iload_n 3, 1) := by decide +kernel
theorem dM_takeStep_117 : decode prog_3_method_11_code 117 = .ok (.iaload, 1) := by decide +kernel
theorem dM_takeStep_118 : decode prog_3_method_11_code 118 = .ok (.iload_n 2, 1) := by decide +kernel
theorem dM_takeStep_119 : decode prog_3_method_11_code 119 = .ok (.invokevirtual 101, 3) := by decide +kernel
theorem dM_takeStep_122 : decode prog_3_method_11_code 122 = .ok (.goto 55, 3) := by decide +kernel
theorem dM_takeStep_125 : decode prog_3_method_11_code 125 = .ok (.iload 4, 2) := by decide +kernel
theorem dM_takeStep_127 : decode prog_3_method_11_code 127 = .ok (.iconst 1, 1) := by decide +kernel
theorem dM_takeStep_128 : decode prog_3_method_11_code 128 = .ok (.if_icmp .ne 33, 3) := by decide +kernel
theorem dM_takeStep_131 : decode prog_3_method_11_code 131 = .ok (.iload 5, 2) := by decide +kernel
theorem dM_takeStep_133 : decode prog_3_method_11_code 133 = .ok (.bipush 110, 2) := by decide +kernel
theorem dM_takeStep_135 : decode prog_3_method_11_code 135 = .ok (.if_icmp .eq 26, 3) := by decide +kernel
theorem dM_takeStep_138 : decode prog_3_method_11_code 138 = .ok (.iload 5, 2) := by decide +kernel
theorem dM_takeStep_140 : decode prog_3_method_11_code 140 = .ok (.bipush 103, 2) := by decide +kernel
theorem dM_takeStep_142 : decode prog_3_method_11_code 142 = .ok (.if_icmp .eq 19, 3) := by decide +kernel
theorem dM_takeStep_145 : decode prog_3_method_11_code 145 = .ok (.iload 5, 2) := by decide +kernel
theorem dM_takeStep_147 : decode prog_3_method_11_code 147 = .ok (.bipush 100, 2) := by decide +kernel
theorem dM_takeStep_149 : decode prog_3_method_11_code 149 = .ok (.if_icmp .eq 12, 3) := by decide +kernel
theorem dM_takeStep_152 : decode prog_3_method_11_code 152 = .ok (.aload_n 0, 1) := by decide +kernel
theorem dM_takeStep_153 : decode prog_3_method_11_code 153 = .ok (.iload_n 3, 1) := by decide +kernel
theorem dM_takeStep_154 : decode prog_3_method_11_code 154 = .ok (.iload_n 2, 1) := by decide +kernel
theorem dM_takeStep_155 : decode prog_3_method_11_code 155 = .ok (.invokevirtual 120, 3) := by decide +kernel
theorem dM_takeStep_158 : decode prog_3_method_11_code 158 = .ok (.goto 19, 3) := by decide +kernel
theorem dM_takeStep_161 : decode prog_3_method_11_code 161 = .ok (.aload_n 0, 1) := by decide +kernel
theorem dM_takeStep_162 : decode prog_3_method_11_code 162 = .ok (.iload 5, 2) := by decide +kernel
theorem dM_takeStep_164 : decode prog_3_method_11_code 164 = .ok (.aload_n 0, 1) := by decide +kernel
theorem dM_takeStep_165 : decode prog_3_method_11_code 165 = .ok (.getfield 40, 3) := by decide +kernel
theorem dM_takeStep_168 : decode prog_3_method_11_code 168 = .ok (.iload_n 1, 1) := by decide +kernel
theorem dM_takeStep_169 : decode prog_3_method_11_code 169 = .ok (.laload, 1) := by decide +kernel
theorem dM_takeStep_170 : decode prog_3_method_11_code 170 = .ok (.aload_n 0, 1) := by decide +kernel
theorem dM_takeStep_171 : decode prog_3_method_11_code 171 = .ok (.getfield 47, 3) := by decide +kernel
theorem dM_takeStep_174 : decode prog_3_method_11_code 174 = .ok (.invokevirtual 123, 3) := by decide +kernel
theorem dM_takeStep_177 : decode prog_3_method_11_code 177 = .ok (.return_, 1) := by decide +kernel
def fM_takeStep_161 (x1 : Int32) (x5 : Int32) (z : lc_S) : Option ((Unit) × lc_S) :=
  lc_chk (lc_in x1 408) (lc_bnd (fM_finish x5 (lcL z 34 x1.toNatClampNeg) (lcL z 19 4) z) (fun r174 z174 => some ((), z174)))
def fM_takeStep (z : lc_S) : Option ((Unit) × lc_S) :=
  lc_let ((lcI z 19 11) - 1) (fun x6 => lc_chk (lc_in x6 408) (lc_let (lcI z 32 x6.toNatClampNeg) (fun x13 => lc_chk (lc_in x6 408) (lc_let (lcI z 31 x6.toNatClampNeg) (fun x20 => lc_chk (lc_in x6 408) (lc_let (lcI z 33 x6.toNatClampNeg) (fun x27 => lc_chk (lc_in x13 25) (lc_bnr (lcR z 29 x13.toNatClampNeg) (fun q34 => lc_chk (lc_sh q34 = (0, 1, 0)) (lc_chk (lc_in x20 120) (lc_let (lcI z (q34 + 2) x20.toNatClampNeg) (fun x40 => lc_chk (lc_in x6 408) (lc_chk (lc_in x6 408) (if x40 = 35 then (lc_chk (lc_in x13 25) (lc_bnr (lcR (lcUI z 33 x6.toNatClampNeg ((lcI z 33 x6.toNatClampNeg) + 1)) 29 x13.toNatClampNeg) (fun q66 => lc_chk (lc_sh q66 = (0, 1, 0)) (lc_chk (lc_in x20 120) (lc_bnd (fV_of 1 (lcI (lcUI z 33 x6.toNatClampNeg ((lcI z 33 x6.toNatClampNeg) + 1)) (q66 + 6) x20.toNatClampNeg) (lcUI z 33 x6.toNatClampNeg ((lcI z 33 x6.toNatClampNeg) + 1))) (fun r72 z72 => lc_bnd (fM_end r72 z72) (fun r75 z75 => some ((), z75)))))))) else (if x40 = 118 then (lc_bnd (fM_valueOfVariable x20 x13 (lcUI z 33 x6.toNatClampNeg ((lcI z 33 x6.toNatClampNeg) + 1))) (fun r92 z92 => lc_bnd (fM_end r92 z92) (fun r95 z95 => some ((), z95)))) else (if x27 = 0 then (lc_chk (lc_in x13 25) (lc_bnr (lcR (lcUI z 33 x6.toNatClampNeg ((lcI z 33 x6.toNatClampNeg) + 1)) 29 x13.toNatClampNeg) (fun q112 => lc_chk (lc_sh q112 = (0, 1, 0)) (lc_chk (lc_in x20 120) (lc_bnd (fM_begin (lcI (lcUI z 33 x6.toNatClampNeg ((lcI z 33 x6.toNatClampNeg) + 1)) (q112 + 3) x20.toNatClampNeg) x13 (lcUI z 33 x6.toNatClampNeg ((lcI z 33 x6.toNatClampNeg) + 1))) (fun r119 z119 => some ((), z119))))))) else (if x27 = 1 then (if x40 = 110 then (fM_takeStep_161 x6 x40 (lcUI z 33 x6.toNatClampNeg ((lcI z 33 x6.toNatClampNeg) + 1))) else (if x40 = 103 then (fM_takeStep_161 x6 x40 (lcUI z 33 x6.toNatClampNeg ((lcI z 33 x6.toNatClampNeg) + 1))) else (if x40 = 100 then (fM_takeStep_161 x6 x40 (lcUI z 33 x6.toNatClampNeg ((lcI z 33 x6.toNatClampNeg) + 1))) else (lc_bnd (fM_goOn x20 x13 (lcUI z 33 x6.toNatClampNeg ((lcI z 33 x6.toNatClampNeg) + 1))) (fun r155 z155 => some ((), z155)))))) else (fM_takeStep_161 x6 x40 (lcUI z 33 x6.toNatClampNeg ((lcI z 33 x6.toNatClampNeg) + 1))))))))))))))))))))
set_option maxHeartbeats 4000000 in
set_option maxRecDepth 100000 in
theorem bM_takeStep_161 {p : Program} {l : Launch} {e : Env} {s : State} {m : MethodId} {args : Array Value} {below : List Frame} {meth : Method} {c : Code} {G : lc_G} (hx : p.tables.exec = Jvm.exec) (hb : c.code = prog_3_method_11_code) (hml : c.maxLocals = 6) (hr : meth.sig.returnType = none) (hlocks : meth.locks = false) (hown : s.vm.findClass "LinearCells$Machine" = some m.cls) (hts : ∀ w ∈ lc_ALL, w.before args s = true) (hE : lc_E G s) {r : Unit} {z' : lc_S} : ∀ {x1 : Int32} {x5 : Int32} {z : lc_S} {H : Heap} {locs : List Loc} {ls : Array Slot}, fM_takeStep_161 x1 x5 z = some (r, z') → lv_has ls 6 [(0, .ref (lc_ad G 19)), (1, .int x1), (5, .int x5)] → lc_H G z s.heap H locs → W p l e (lc_rm 4) s m args below meth c H locs 0 0 (MQ below (lc_Q G none z') args s 0 0 (lc_A G)) (F0 m 161 ls []) := by
  intro x1 x5 z H locs ls hf hl hH
  rw [fM_takeStep_161] at hf
  refine lv_aload_n hx hb dM_takeStep_161 rfl (lv_at hl 0 rfl) ?_
  refine lv_iload hx hb dM_takeStep_162 (lv_at hl 2 rfl) ?_
  refine lv_aload_n hx hb dM_takeStep_164 rfl (lv_at hl 0 rfl) ?_
  refine lc_getf (d := 15) (q := 34) hx hb hts hown hE hH flM_40 lc_h19 rfl rfl dM_takeStep_165 ?_
  refine lv_iload_n hx hb dM_takeStep_168 rfl (lv_at hl 1 rfl) ?_
  obtain ⟨hi169, hf⟩ := lc_chk_some hf
  refine lc_lald hx hb hE hH lc_h34 rfl hi169 dM_takeStep_169 ?_
  refine lv_aload_n hx hb dM_takeStep_170 rfl (lv_at hl 0 rfl) ?_
  refine lc_getl hx hb hts hown hE hH flM_47 lc_h19 rfl dM_takeStep_171 ?_
  obtain ⟨r174, z174, h174, hf⟩ := lc_bnd_some hf
  refine lc_callv (va_runV (As := [.int x5, .long (lcL z 34 x1.toNatClampNeg), .long (lcL z 19 4)]) (rest := []) ⟨hx, hb, hml, hown, hts⟩ (cM_finish l G h174) (lc_cwV hts kvM_123 (lc_room (by decide) (by decide))) (lc_preV hE hH lc_h19 rfl _) rfl rfl hl.1 rfl (lv_room (Nat.le_of_ble_eq_true rfl)) dM_takeStep_174 ⟨Nat.zero_le _, Nat.zero_le _⟩) hH (fun H locs hH => ?_)
  exact lc_vret hx hb hr hlocks hH hf dM_takeStep_177
set_option maxHeartbeats 4000000 in
set_option maxRecDepth 100000 in
theorem cM_takeStep (l : Launch) (G : lc_G) {r : Unit} {z z' : lc_S} (hf : fM_takeStep z = some (r, z')) : lc_M l G yM_takeStep wM_takeStep 4 [.ref (lc_ad G 19)] z none z' := by
  refine lc_M_of (cc := prog_3_method_11_code) (maxL := 6) (ret := none) (own := "LinearCells$Machine") (by decide) rfl (fun w h => List.mem_cons_of_mem _ h) (Nat.le_of_ble_eq_true rfl) rfl ?_
  intro p e s m below meth c hx hb hml hr hlocks hown hts hE ls hl hH
  replace hl : lv_has ls 6 [(0, .ref (lc_ad G 19))] := hl
  rw [fM_takeStep] at hf
  refine lv_aload_n hx hb dM_takeStep_0 rfl (lv_at hl 0 rfl) ?_
  refine lc_geti hx hb hts hown hE hH flM_73 lc_h19 rfl dM_takeStep_1 ?_
  refine lv_iconst (v := 1) hx hb dM_takeStep_4 (by decide) ?_
  refine lv_isub hx hb dM_takeStep_5 ?_
  refine lv_topi (fun x6 e6 => ?_)
  replace hf := lc_let_of e6 hf
  refine lv_istore_n hx hb dM_takeStep_6 rfl hl (by decide) rfl (fun ls hl => ?_)
  replace hl : lv_has ls 6 [(1, .int x6), (0, .ref (lc_ad G 19))] := hl
  refine lv_aload_n hx hb dM_takeStep_7 rfl (lv_at hl 1 rfl) ?_
  refine lc_getf (d := 13) (q := 32) hx hb hts hown hE hH flM_34 lc_h19 rfl rfl dM_takeStep_8 ?_
  refine lv_iload_n hx hb dM_takeStep_11 rfl (lv_at hl 0 rfl) ?_
  obtain ⟨hi12, hf⟩ := lc_chk_some hf
  refine lc_iald hx hb hE hH lc_h32 rfl hi12 dM_takeStep_12 ?_
  refine lv_topi (fun x13 e13 => ?_)
  replace hf := lc_let_of e13 hf
  refine lv_istore_n hx hb dM_takeStep_13 rfl hl (by decide) rfl (fun ls hl => ?_)
  replace hl : lv_has ls 6 [(2, .int x13), (1, .int x6), (0, .ref (lc_ad G 19))] := hl
  refine lv_aload_n hx hb dM_takeStep_14 rfl (lv_at hl 2 rfl) ?_
  refine lc_getf (d := 12) (q := 31) hx hb hts hown hE hH flM_30 lc_h19 rfl rfl dM_takeStep_15 ?_
  refine lv_iload_n hx hb dM_takeStep_18 rfl (lv_at hl 1 rfl) ?_
  obtain ⟨hi19, hf⟩ := lc_chk_some hf
  refine lc_iald hx hb hE hH lc_h31 rfl hi19 dM_takeStep_19 ?_
  refine lv_topi (fun x20 e20 => ?_)
  replace hf := lc_let_of e20 hf
  refine lv_istore_n hx hb dM_takeStep_20 rfl hl (by decide) rfl (fun ls hl => ?_)
  replace hl : lv_has ls 6 [(3, .int x20), (2, .int x13), (1, .int x6), (0, .ref (lc_ad G 19))] := hl
  refine lv_aload_n hx hb dM_takeStep_21 rfl (lv_at hl 3 rfl) ?_
  refine lc_getf (d := 14) (q := 33) hx hb hts hown hE hH flM_37 lc_h19 rfl rfl dM_takeStep_22 ?_
  refine lv_iload_n hx hb dM_takeStep_25 rfl (lv_at hl 2 rfl) ?_
  obtain ⟨hi26, hf⟩ := lc_chk_some hf
  refine lc_iald hx hb hE hH lc_h33 rfl hi26 dM_takeStep_26 ?_
  refine lv_topi (fun x27 e27 => ?_)
  replace hf := lc_let_of e27 hf
  refine lv_istore hx hb dM_takeStep_27 hl (by decide) rfl (fun ls hl => ?_)
  replace hl : lv_has ls 6 [(4, .int x27), (3, .int x20), (2, .int x13), (1, .int x6), (0, .ref (lc_ad G 19))] := hl
  refine lv_aload_n hx hb dM_takeStep_29 rfl (lv_at hl 4 rfl) ?_
  refine lc_getf (d := 10) (q := 29) hx hb hts hown hE hH flM_22 lc_h19 rfl rfl dM_takeStep_30 ?_
  refine lv_iload_n hx hb dM_takeStep_33 rfl (lv_at hl 2 rfl) ?_
  obtain ⟨hi34, hf⟩ := lc_chk_some hf
  obtain ⟨q34, hq34, hf⟩ := lc_bnr_some hf
  refine lc_aald hx hb hE hH lc_h29 rfl hi34 hq34 dM_takeStep_34 ?_
  obtain ⟨hs35_0, hf⟩ := lc_chk_some hf
  refine lc_getf (d := 2) (q := q34 + 2) hx hb hts hown hE hH flM_104 hs35_0 rfl rfl dM_takeStep_35 ?_
  refine lv_iload_n hx hb dM_takeStep_38 rfl (lv_at hl 1 rfl) ?_
  obtain ⟨hi39, hf⟩ := lc_chk_some hf
  refine lc_iald hx hb hE hH (lc_pr2 hs35_0) rfl hi39 dM_takeStep_39 ?_
  refine lv_topi (fun x40 e40 => ?_)
  replace hf := lc_let_of e40 hf
  refine lv_istore hx hb dM_takeStep_40 hl (by decide) rfl (fun ls hl => ?_)
  replace hl : lv_has ls 6 [(5, .int x40), (4, .int x27), (3, .int x20), (2, .int x13), (1, .int x6), (0, .ref (lc_ad G 19))] := hl
  refine lv_aload_n hx hb dM_takeStep_42 rfl (lv_at hl 5 rfl) ?_
  refine lc_getf (d := 14) (q := 33) hx hb hts hown hE hH flM_37 lc_h19 rfl rfl dM_takeStep_43 ?_
  refine lv_iload_n hx hb dM_takeStep_46 rfl (lv_at hl 4 rfl) ?_
  refine lv_dup2_11 hx hb dM_takeStep_47 rfl rfl ?_
  obtain ⟨hi48, hf⟩ := lc_chk_some hf
  refine lc_iald hx hb hE hH lc_h33 rfl hi48 dM_takeStep_48 ?_
  refine lv_iconst (v := 1) hx hb dM_takeStep_49 (by decide) ?_
  refine lv_iadd hx hb dM_takeStep_50 ?_
  obtain ⟨hi51, hf⟩ := lc_chk_some hf
  refine lc_iast hx hb hE hH lc_h33 rfl hi51 dM_takeStep_51 (fun H locs hH => ?_)
  refine lv_iload hx hb dM_takeStep_52 (lv_at hl 0 rfl) ?_
  refine lv_bipush (v := 35) hx hb dM_takeStep_54 (by decide) ?_
  refine lv_icmp_ne (tgt := 81) hx hb dM_takeStep_56 (by decide) (fun hc => ?_) (fun hc => ?_)
  · replace hf := lc_ite_neg hc hf
    refine lv_iload hx hb dM_takeStep_81 (lv_at hl 0 rfl) ?_
    refine lv_bipush (v := 118) hx hb dM_takeStep_83 (by decide) ?_
    refine lv_icmp_ne (tgt := 101) hx hb dM_takeStep_85 (by decide) (fun hc => ?_) (fun hc => ?_)
    · replace hf := lc_ite_neg hc hf
      refine lv_iload hx hb dM_takeStep_101 (lv_at hl 1 rfl) ?_
      refine lv_if_ne (tgt := 125) hx hb dM_takeStep_103 (by decide) (fun hc => ?_) (fun hc => ?_)
      · replace hf := lc_ite_neg hc hf
        refine lv_iload hx hb dM_takeStep_125 (lv_at hl 1 rfl) ?_
        refine lv_iconst (v := 1) hx hb dM_takeStep_127 (by decide) ?_
        refine lv_icmp_ne (tgt := 161) hx hb dM_takeStep_128 (by decide) (fun hc => ?_) (fun hc => ?_)
        · replace hf := lc_ite_neg hc hf
          exact bM_takeStep_161 hx hb hml hr hlocks hown hts hE hf (lv_sub hl [5, 4, 0] rfl) hH
        · replace hf := lc_ite_pos hc hf
          refine lv_iload hx hb dM_takeStep_131 (lv_at hl 0 rfl) ?_
          refine lv_bipush (v := 110) hx hb dM_takeStep_133 (by decide) ?_
          refine lv_icmp_eq (tgt := 161) hx hb dM_takeStep_135 (by decide) (fun hc => ?_) (fun hc => ?_)
          · replace hf := lc_ite_pos hc hf
            exact bM_takeStep_161 hx hb hml hr hlocks hown hts hE hf (lv_sub hl [5, 4, 0] rfl) hH
          · replace hf := lc_ite_neg hc hf
            refine lv_iload hx hb dM_takeStep_138 (lv_at hl 0 rfl) ?_
            refine lv_bipush (v := 103) hx hb dM_takeStep_140 (by decide) ?_
            refine lv_icmp_eq (tgt := 161) hx hb dM_takeStep_142 (by decide) (fun hc => ?_) (fun hc => ?_)
            · replace hf := lc_ite_pos hc hf
              exact bM_takeStep_161 hx hb hml hr hlocks hown hts hE hf (lv_sub hl [5, 4, 0] rfl) hH
            · replace hf := lc_ite_neg hc hf
              refine lv_iload hx hb dM_takeStep_145 (lv_at hl 0 rfl) ?_
              refine lv_bipush (v := 100) hx hb dM_takeStep_147 (by decide) ?_
              refine lv_icmp_eq (tgt := 161) hx hb dM_takeStep_149 (by decide) (fun hc => ?_) (fun hc => ?_)
              · replace hf := lc_ite_pos hc hf
                exact bM_takeStep_161 hx hb hml hr hlocks hown hts hE hf (lv_sub hl [5, 4, 0] rfl) hH
              · replace hf := lc_ite_neg hc hf
                refine lv_aload_n hx hb dM_takeStep_152 rfl (lv_at hl 5 rfl) ?_
                refine lv_iload_n hx hb dM_takeStep_153 rfl (lv_at hl 2 rfl) ?_
                refine lv_iload_n hx hb dM_takeStep_154 rfl (lv_at hl 3 rfl) ?_
                obtain ⟨r155, z155, h155, hf⟩ := lc_bnd_some hf
                refine lc_callv (va_runV (As := [.int x20, .int x13]) (rest := []) ⟨hx, hb, hml, hown, hts⟩ (cM_goOn l G h155) (lc_cwV hts kvM_120 (lc_room (by decide) (by decide))) (lc_preV hE hH lc_h19 rfl _) rfl rfl hl.1 rfl (lv_room (Nat.le_of_ble_eq_true rfl)) dM_takeStep_155 ⟨Nat.zero_le _, Nat.zero_le _⟩) hH (fun H locs hH => ?_)
                refine lv_goto (tgt := 177) hx hb dM_takeStep_158 (by decide) ?_
                exact lc_vret hx hb hr hlocks hH hf dM_takeStep_177
      · replace hf := lc_ite_pos hc hf
        refine lv_aload_n hx hb dM_takeStep_106 rfl (lv_at hl 5 rfl) ?_
        refine lv_aload_n hx hb dM_takeStep_107 rfl (lv_at hl 5 rfl) ?_
        refine lc_getf (d := 10) (q := 29) hx hb hts hown hE hH flM_22 lc_h19 rfl rfl dM_takeStep_108 ?_
        refine lv_iload_n hx hb dM_takeStep_111 rfl (lv_at hl 3 rfl) ?_
        obtain ⟨hi112, hf⟩ := lc_chk_some hf
        obtain ⟨q112, hq112, hf⟩ := lc_bnr_some hf
        refine lc_aald hx hb hE hH lc_h29 rfl hi112 hq112 dM_takeStep_112 ?_
        obtain ⟨hs113_0, hf⟩ := lc_chk_some hf
        refine lc_getf (d := 3) (q := q112 + 3) hx hb hts hown hE hH flM_117 hs113_0 rfl rfl dM_takeStep_113 ?_
        refine lv_iload_n hx hb dM_takeStep_116 rfl (lv_at hl 2 rfl) ?_
        obtain ⟨hi117, hf⟩ := lc_chk_some hf
        refine lc_iald hx hb hE hH (lc_pr3 hs113_0) rfl hi117 dM_takeStep_117 ?_
        refine lv_iload_n hx hb dM_takeStep_118 rfl (lv_at hl 3 rfl) ?_
        obtain ⟨r119, z119, h119, hf⟩ := lc_bnd_some hf
        refine lc_callv (va_runV (As := [.int (lcI (lcUI z 33 x6.toNatClampNeg ((lcI z 33 x6.toNatClampNeg) + 1)) (q112 + 3) x20.toNatClampNeg), .int x13]) (rest := []) ⟨hx, hb, hml, hown, hts⟩ (cM_begin l G h119) (lc_cwV hts kvM_101 (lc_room (by decide) (by decide))) (lc_preV hE hH lc_h19 rfl _) rfl rfl hl.1 rfl (lv_room (Nat.le_of_ble_eq_true rfl)) dM_takeStep_119 ⟨Nat.zero_le _, Nat.zero_le _⟩) hH (fun H locs hH => ?_)
        refine lv_goto (tgt := 177) hx hb dM_takeStep_122 (by decide) ?_
        exact lc_vret hx hb hr hlocks hH hf dM_takeStep_177
    · replace hf := lc_ite_pos hc hf
      refine lv_aload_n hx hb dM_takeStep_88 rfl (lv_at hl 5 rfl) ?_
      refine lv_aload_n hx hb dM_takeStep_89 rfl (lv_at hl 5 rfl) ?_
      refine lv_iload_n hx hb dM_takeStep_90 rfl (lv_at hl 2 rfl) ?_
      refine lv_iload_n hx hb dM_takeStep_91 rfl (lv_at hl 3 rfl) ?_
      obtain ⟨r92, z92, h92, hf⟩ := lc_bnd_some hf
      refine lc_calll (va_runV (As := [.int x20, .int x13]) (rest := [.ref (lc_ad G 19)]) ⟨hx, hb, hml, hown, hts⟩ (cM_valueOfVariable l G h92) (lc_cwV hts kvM_114 (lc_room (by decide) (by decide))) (lc_preV hE hH lc_h19 rfl _) rfl rfl hl.1 rfl (lv_room (Nat.le_of_ble_eq_true rfl)) dM_takeStep_92 ⟨Nat.zero_le _, Nat.zero_le _⟩) hH (fun H locs hH => ?_)
      obtain ⟨r95, z95, h95, hf⟩ := lc_bnd_some hf
      refine lc_callv (va_runV (As := [.long r92]) (rest := []) ⟨hx, hb, hml, hown, hts⟩ (cM_end l G h95) (lc_cwV hts kvM_110 (lc_room (by decide) (by decide))) (lc_preV hE hH lc_h19 rfl _) rfl rfl hl.1 rfl (lv_room (Nat.le_of_ble_eq_true rfl)) dM_takeStep_95 ⟨Nat.zero_le _, Nat.zero_le _⟩) hH (fun H locs hH => ?_)
      refine lv_goto (tgt := 177) hx hb dM_takeStep_98 (by decide) ?_
      exact lc_vret hx hb hr hlocks hH hf dM_takeStep_177
  · replace hf := lc_ite_pos hc hf
    refine lv_aload_n hx hb dM_takeStep_59 rfl (lv_at hl 5 rfl) ?_
    refine lv_iconst (v := 1) hx hb dM_takeStep_60 (by decide) ?_
    refine lv_aload_n hx hb dM_takeStep_61 rfl (lv_at hl 5 rfl) ?_
    refine lc_getf (d := 10) (q := 29) hx hb hts hown hE hH flM_22 lc_h19 rfl rfl dM_takeStep_62 ?_
    refine lv_iload_n hx hb dM_takeStep_65 rfl (lv_at hl 3 rfl) ?_
    obtain ⟨hi66, hf⟩ := lc_chk_some hf
    obtain ⟨q66, hq66, hf⟩ := lc_bnr_some hf
    refine lc_aald hx hb hE hH lc_h29 rfl hi66 hq66 dM_takeStep_66 ?_
    obtain ⟨hs67_0, hf⟩ := lc_chk_some hf
    refine lc_getf (d := 6) (q := q66 + 6) hx hb hts hown hE hH flM_107 hs67_0 rfl rfl dM_takeStep_67 ?_
    refine lv_iload_n hx hb dM_takeStep_70 rfl (lv_at hl 2 rfl) ?_
    obtain ⟨hi71, hf⟩ := lc_chk_some hf
    refine lc_iald hx hb hE hH (lc_pr6 hs67_0) rfl hi71 dM_takeStep_71 ?_
    obtain ⟨r72, z72, h72, hf⟩ := lc_bnd_some hf
    refine lc_calll (va_runS (As := [.int 1, .int (lcI (lcUI z 33 x6.toNatClampNeg ((lcI z 33 x6.toNatClampNeg) + 1)) (q66 + 6) x20.toNatClampNeg)]) (rest := [.ref (lc_ad G 19)]) ⟨hx, hb, hml, hown, hts⟩ (cV_of l G h72) (lc_cwS hts ksM_76 (lc_room (by decide) (by decide))) (lc_preS hE hH _) rfl rfl hl.1 rfl (lv_room (Nat.le_of_ble_eq_true rfl)) dM_takeStep_72 ⟨Nat.zero_le _, Nat.zero_le _⟩) hH (fun H locs hH => ?_)
    obtain ⟨r75, z75, h75, hf⟩ := lc_bnd_some hf
    refine lc_callv (va_runV (As := [.long r72]) (rest := []) ⟨hx, hb, hml, hown, hts⟩ (cM_end l G h75) (lc_cwV hts kvM_110 (lc_room (by decide) (by decide))) (lc_preV hE hH lc_h19 rfl _) rfl rfl hl.1 rfl (lv_room (Nat.le_of_ble_eq_true rfl)) dM_takeStep_75 ⟨Nat.zero_le _, Nat.zero_le _⟩) hH (fun H locs hH => ?_)
    refine lv_goto (tgt := 177) hx hb dM_takeStep_78 (by decide) ?_
    exact lc_vret hx hb hr hlocks hH hf dM_takeStep_177
theorem dY_cellsIn_0 : decode prog_4_method_15_code 0 = .ok (.lload_n 1, 1) := by decide +kernel
theorem dY_cellsIn_1 : decode prog_4_method_15_code 1 = .ok (.invokestatic 66, 3) := by decide +kernel
theorem dY_cellsIn_4 : decode prog_4_method_15_code 4 = .ok (.istore_n 3, 1) := by decide +kernel
theorem dY_cellsIn_5 : decode prog_4_method_15_code 5 = .ok (.lload_n 1, 1) := by decide +kernel
theorem dY_cellsIn_6 : decode prog_4_method_15_code 6 = .ok (.invokestatic 71, 3) := by decide +kernel
theorem dY_cellsIn_9 : decode prog_4_method_15_code 9 = .ok (.ifCond .eq 18, 3) := by decide +kernel
theorem dY_cellsIn_12 : decode prog_4_method_15_code 12 = .ok (.aload_n 0, 1) := by decide +kernel
theorem dY_cellsIn_13 : decode prog_4_method_15_code 13 = .ok (.iload_n 3, 1) := by decide +kernel
theorem dY_cellsIn_14 : decode prog_4_method_15_code 14 = .ok (.invokevirtual 74, 3) := by decide +kernel
theorem dY_cellsIn_17 : decode prog_4_method_15_code 17 = .ok (.ifCond .eq 10, 3) := by decide +kernel
theorem dY_cellsIn_20 : decode prog_4_method_15_code 20 = .ok (.aload_n 0, 1) := by decide +kernel
theorem dY_cellsIn_21 : decode prog_4_method_15_code 21 = .ok (.getfield 26, 3) := by decide +kernel
theorem dY_cellsIn_24 : decode prog_4_method_15_code 24 = .ok (.iload_n 3, 1) := by decide +kernel
theorem dY_cellsIn_25 : decode prog_4_method_15_code 25 = .ok (.iaload, 1) := by decide +kernel
theorem dY_cellsIn_26 : decode prog_4_method_15_code 26 = .ok (.ireturn, 1) := by decide +kernel
theorem dY_cellsIn_27 : decode prog_4_method_15_code 27 = .ok (.lload_n 1, 1) := by decide +kernel
theorem dY_cellsIn_28 : decode prog_4_method_15_code 28 = .ok (.invokestatic 77, 3) := by decide +kernel
theorem dY_cellsIn_31 : decode prog_4_method_15_code 31 = .ok (.ifCond .eq 7, 3) := by decide +kernel
theorem dY_cellsIn_34 : decode prog_4_method_15_code 34 = .ok (.iconst 1, 1) := by decide +kernel
theorem dY_cellsIn_35 : decode prog_4_method_15_code 35 = .ok (.goto 4, 3) := by decide +kernel
theorem dY_cellsIn_38 : decode prog_4_method_15_code 38 = .ok (.iconst 0, 1) := by decide +kernel
theorem dY_cellsIn_39 : decode prog_4_method_15_code 39 = .ok (.ireturn, 1) := by decide +kernel
def fY_cellsIn_27 (x1 : Int64) (z : lc_S) : Option ((Int32) × lc_S) :=
  lc_bnd (fV_isCell x1 z) (fun r28 z28 => if r28 = 0 then (some (0, z28)) else (some (1, z28)))
def fY_cellsIn (a1 : Int64) (z : lc_S) : Option ((Int32) × lc_S) :=
  lc_bnd (fV_wordOf a1 z) (fun r1 z1 => lc_bnd (fV_isPair a1 z1) (fun r6 z6 => if r6 = 0 then (fY_cellsIn_27 a1 z6) else (lc_bnd (fY_isMade r1 z6) (fun r14 z14 => if r14 = 0 then (fY_cellsIn_27 a1 z14) else (lc_chk (lc_in r1 120) (some (lcI z14 25 r1.toNatClampNeg, z14)))))))
set_option maxHeartbeats 4000000 in
set_option maxRecDepth 100000 in
theorem bY_cellsIn_27 {p : Program} {l : Launch} {e : Env} {s : State} {m : MethodId} {args : Array Value} {below : List Frame} {meth : Method} {c : Code} {G : lc_G} (hx : p.tables.exec = Jvm.exec) (hb : c.code = prog_4_method_15_code) (hml : c.maxLocals = 4) (hr : meth.sig.returnType = (some .int)) (hlocks : meth.locks = false) (hown : s.vm.findClass "LinearCells$Memory" = some m.cls) (hts : ∀ w ∈ lc_ALL, w.before args s = true) (hE : lc_E G s) {r : Int32} {z' : lc_S} : ∀ {x1 : Int64} {z : lc_S} {H : Heap} {locs : List Loc} {ls : Array Slot}, fY_cellsIn_27 x1 z = some (r, z') → lv_has ls 4 [(1, .long x1)] → lc_H G z s.heap H locs → W p l e (lc_rm 1) s m args below meth c H locs 0 0 (MQ below (lc_Q G (some (.int r)) z') args s 0 0 (lc_A G)) (F0 m 27 ls []) := by
  intro x1 z H locs ls hf hl hH
  rw [fY_cellsIn_27] at hf
  refine lv_lload_n hx hb dY_cellsIn_27 rfl (lv_at hl 0 rfl) ?_
  obtain ⟨r28, z28, h28, hf⟩ := lc_bnd_some hf
  refine lc_calli (va_runS (As := [.long x1]) (rest := []) ⟨hx, hb, hml, hown, hts⟩ (cV_isCell l G h28) (lc_cwS hts ksY_77 (lc_room (by decide) (by decide))) (lc_preS hE hH _) rfl rfl hl.1 rfl (lv_room (Nat.le_of_ble_eq_true rfl)) dY_cellsIn_28 ⟨Nat.zero_le _, Nat.zero_le _⟩) hH (fun H locs hH => ?_)
  refine lv_if_eq (tgt := 38) hx hb dY_cellsIn_31 (by decide) (fun hc => ?_) (fun hc => ?_)
  · replace hf := lc_ite_pos hc hf
    refine lv_iconst (v := 0) hx hb dY_cellsIn_38 (by decide) ?_
    exact lc_iret hx hb hr hlocks hH hf dY_cellsIn_39
  · replace hf := lc_ite_neg hc hf
    refine lv_iconst (v := 1) hx hb dY_cellsIn_34 (by decide) ?_
    refine lv_goto (tgt := 39) hx hb dY_cellsIn_35 (by decide) ?_
    exact lc_iret hx hb hr hlocks hH hf dY_cellsIn_39
set_option maxHeartbeats 4000000 in
set_option maxRecDepth 100000 in
theorem cY_cellsIn (l : Launch) (G : lc_G) {a1 : Int64} {r : Int32} {z z' : lc_S} (hf : fY_cellsIn a1 z = some (r, z')) : lc_M l G yY_cellsIn wY_cellsIn 1 [.ref (lc_ad G 20), .long a1] z (some (.int r)) z' := by
  refine lc_M_of (cc := prog_4_method_15_code) (maxL := 4) (ret := (some .int)) (own := "LinearCells$Memory") (by decide) rfl (fun w h => List.mem_cons_of_mem _ h) (Nat.le_of_ble_eq_true rfl) rfl ?_
  intro p e s m below meth c hx hb hml hr hlocks hown hts hE ls hl hH
  replace hl : lv_has ls 4 [(0, .ref (lc_ad G 20)), (1, .long a1)] := hl
  rw [fY_cellsIn] at hf
  refine lv_lload_n hx hb dY_cellsIn_0 rfl (lv_at hl 1 rfl) ?_
  obtain ⟨r1, z1, h1, hf⟩ := lc_bnd_some hf
  refine lc_calli (va_runS (As := [.long a1]) (rest := []) ⟨hx, hb, hml, hown, hts⟩ (cV_wordOf l G h1) (lc_cwS hts ksY_66 (lc_room (by decide) (by decide))) (lc_preS hE hH _) rfl rfl hl.1 rfl (lv_room (Nat.le_of_ble_eq_true rfl)) dY_cellsIn_1 ⟨Nat.zero_le _, Nat.zero_le _⟩) hH (fun H locs hH => ?_)
  refine lv_istore_n hx hb dY_cellsIn_4 rfl hl (by decide) rfl (fun ls hl => ?_)
  replace hl : lv_has ls 4 [(3, .int r1), (0, .ref (lc_ad G 20)), (1, .long a1)] := hl
  refine lv_lload_n hx hb dY_cellsIn_5 rfl (lv_at hl 2 rfl) ?_
  obtain ⟨r6, z6, h6, hf⟩ := lc_bnd_some hf
  refine lc_calli (va_runS (As := [.long a1]) (rest := []) ⟨hx, hb, hml, hown, hts⟩ (cV_isPair l G h6) (lc_cwS hts ksY_71 (lc_room (by decide) (by decide))) (lc_preS hE hH _) rfl rfl hl.1 rfl (lv_room (Nat.le_of_ble_eq_true rfl)) dY_cellsIn_6 ⟨Nat.zero_le _, Nat.zero_le _⟩) hH (fun H locs hH => ?_)
  refine lv_if_eq (tgt := 27) hx hb dY_cellsIn_9 (by decide) (fun hc => ?_) (fun hc => ?_)
  · replace hf := lc_ite_pos hc hf
    exact bY_cellsIn_27 hx hb hml hr hlocks hown hts hE hf (lv_sub hl [2] rfl) hH
  · replace hf := lc_ite_neg hc hf
    refine lv_aload_n hx hb dY_cellsIn_12 rfl (lv_at hl 1 rfl) ?_
    refine lv_iload_n hx hb dY_cellsIn_13 rfl (lv_at hl 0 rfl) ?_
    obtain ⟨r14, z14, h14, hf⟩ := lc_bnd_some hf
    refine lc_calli (va_runV (As := [.int r1]) (rest := []) ⟨hx, hb, hml, hown, hts⟩ (cY_isMade l G h14) (lc_cwV hts kvY_74 (lc_room (by decide) (by decide))) (lc_preV hE hH lc_h20 rfl _) rfl rfl hl.1 rfl (lv_room (Nat.le_of_ble_eq_true rfl)) dY_cellsIn_14 ⟨Nat.zero_le _, Nat.zero_le _⟩) hH (fun H locs hH => ?_)
    refine lv_if_eq (tgt := 27) hx hb dY_cellsIn_17 (by decide) (fun hc => ?_) (fun hc => ?_)
    · replace hf := lc_ite_pos hc hf
      exact bY_cellsIn_27 hx hb hml hr hlocks hown hts hE hf (lv_sub hl [2] rfl) hH
    · replace hf := lc_ite_neg hc hf
      refine lv_aload_n hx hb dY_cellsIn_20 rfl (lv_at hl 1 rfl) ?_
      refine lc_getf (d := 5) (q := 25) hx hb hts hown hE hH flY_26 lc_h20 rfl rfl dY_cellsIn_21 ?_
      refine lv_iload_n hx hb dY_cellsIn_24 rfl (lv_at hl 0 rfl) ?_
      obtain ⟨hi25, hf⟩ := lc_chk_some hf
      refine lc_iald hx hb hE hH lc_h25 rfl hi25 dY_cellsIn_25 ?_
      exact lc_iret hx hb hr hlocks hH hf dY_cellsIn_26
theorem dY_numbersIn_0 : decode prog_4_method_16_code 0 = .ok (.lload_n 1, 1) := by decide +kernel
theorem dY_numbersIn_1 : decode prog_4_method_16_code 1 = .ok (.invokestatic 66, 3) := by decide +kernel
theorem dY_numbersIn_4 : decode prog_4_method_16_code 4 = .ok (.istore_n 3, 1) := by decide +kernel
theorem dY_numbersIn_5 : decode prog_4_method_16_code 5 = .ok (.lload_n 1, 1) := by decide +kernel
theorem dY_numbersIn_6 : decode prog_4_method_16_code 6 = .ok (.invokestatic 71, 3) := by decide +kernel
theorem dY_numbersIn_9 : decode prog_4_method_16_code 9 = .ok (.ifCond .eq 18, 3) := by decide +kernel
theorem dY_numbersIn_12 : decode prog_4_method_16_code 12 = .ok (.aload_n 0, 1) := by decide +kernel
theorem dY_numbersIn_13 : decode prog_4_method_16_code 13 = .ok (.iload_n 3, 1) := by decide +kernel
theorem dY_numbersIn_14 : decode prog_4_method_16_code 14 = .ok (.invokevirtual 74, 3) := by decide +kernel
theorem dY_numbersIn_17 : decode prog_4_method_16_code 17 = .ok (.ifCond .eq 10, 3) := by decide +kernel
theorem dY_numbersIn_20 : decode prog_4_method_16_code 20 = .ok (.aload_n 0, 1) := by decide +kernel
theorem dY_numbersIn_21 : decode prog_4_method_16_code 21 = .ok (.getfield 29, 3) := by decide +kernel
theorem dY_numbersIn_24 : decode prog_4_method_16_code 24 = .ok (.iload_n 3, 1) := by decide +kernel
theorem dY_numbersIn_25 : decode prog_4_method_16_code 25 = .ok (.iaload, 1) := by decide +kernel
theorem dY_numbersIn_26 : decode prog_4_method_16_code 26 = .ok (.ireturn, 1) := by decide +kernel
theorem dY_numbersIn_27 : decode prog_4_method_16_code 27 = .ok (.lload_n 1, 1) := by decide +kernel
theorem dY_numbersIn_28 : decode prog_4_method_16_code 28 = .ok (.invokestatic 80, 3) := by decide +kernel
theorem dY_numbersIn_31 : decode prog_4_method_16_code 31 = .ok (.ifCond .eq 7, 3) := by decide +kernel
theorem dY_numbersIn_34 : decode prog_4_method_16_code 34 = .ok (.iconst 1, 1) := by decide +kernel
theorem dY_numbersIn_35 : decode prog_4_method_16_code 35 = .ok (.goto 4, 3) := by decide +kernel
theorem dY_numbersIn_38 : decode prog_4_method_16_code 38 = .ok (.iconst 0, 1) := by decide +kernel
theorem dY_numbersIn_39 : decode prog_4_method_16_code 39 = .ok (.ireturn, 1) := by decide +kernel
def fY_numbersIn_27 (x1 : Int64) (z : lc_S) : Option ((Int32) × lc_S) :=
  lc_bnd (fV_isNumber x1 z) (fun r28 z28 => if r28 = 0 then (some (0, z28)) else (some (1, z28)))
def fY_numbersIn (a1 : Int64) (z : lc_S) : Option ((Int32) × lc_S) :=
  lc_bnd (fV_wordOf a1 z) (fun r1 z1 => lc_bnd (fV_isPair a1 z1) (fun r6 z6 => if r6 = 0 then (fY_numbersIn_27 a1 z6) else (lc_bnd (fY_isMade r1 z6) (fun r14 z14 => if r14 = 0 then (fY_numbersIn_27 a1 z14) else (lc_chk (lc_in r1 120) (some (lcI z14 26 r1.toNatClampNeg, z14)))))))
set_option maxHeartbeats 4000000 in
set_option maxRecDepth 100000 in
theorem bY_numbersIn_27 {p : Program} {l : Launch} {e : Env} {s : State} {m : MethodId} {args : Array Value} {below : List Frame} {meth : Method} {c : Code} {G : lc_G} (hx : p.tables.exec = Jvm.exec) (hb : c.code = prog_4_method_16_code) (hml : c.maxLocals = 4) (hr : meth.sig.returnType = (some .int)) (hlocks : meth.locks = false) (hown : s.vm.findClass "LinearCells$Memory" = some m.cls) (hts : ∀ w ∈ lc_ALL, w.before args s = true) (hE : lc_E G s) {r : Int32} {z' : lc_S} : ∀ {x1 : Int64} {z : lc_S} {H : Heap} {locs : List Loc} {ls : Array Slot}, fY_numbersIn_27 x1 z = some (r, z') → lv_has ls 4 [(1, .long x1)] → lc_H G z s.heap H locs → W p l e (lc_rm 1) s m args below meth c H locs 0 0 (MQ below (lc_Q G (some (.int r)) z') args s 0 0 (lc_A G)) (F0 m 27 ls []) := by
  intro x1 z H locs ls hf hl hH
  rw [fY_numbersIn_27] at hf
  refine lv_lload_n hx hb dY_numbersIn_27 rfl (lv_at hl 0 rfl) ?_
  obtain ⟨r28, z28, h28, hf⟩ := lc_bnd_some hf
  refine lc_calli (va_runS (As := [.long x1]) (rest := []) ⟨hx, hb, hml, hown, hts⟩ (cV_isNumber l G h28) (lc_cwS hts ksY_80 (lc_room (by decide) (by decide))) (lc_preS hE hH _) rfl rfl hl.1 rfl (lv_room (Nat.le_of_ble_eq_true rfl)) dY_numbersIn_28 ⟨Nat.zero_le _, Nat.zero_le _⟩) hH (fun H locs hH => ?_)
  refine lv_if_eq (tgt := 38) hx hb dY_numbersIn_31 (by decide) (fun hc => ?_) (fun hc => ?_)
  · replace hf := lc_ite_pos hc hf
    refine lv_iconst (v := 0) hx hb dY_numbersIn_38 (by decide) ?_
    exact lc_iret hx hb hr hlocks hH hf dY_numbersIn_39
  · replace hf := lc_ite_neg hc hf
    refine lv_iconst (v := 1) hx hb dY_numbersIn_34 (by decide) ?_
    refine lv_goto (tgt := 39) hx hb dY_numbersIn_35 (by decide) ?_
    exact lc_iret hx hb hr hlocks hH hf dY_numbersIn_39
set_option maxHeartbeats 4000000 in
set_option maxRecDepth 100000 in
theorem cY_numbersIn (l : Launch) (G : lc_G) {a1 : Int64} {r : Int32} {z z' : lc_S} (hf : fY_numbersIn a1 z = some (r, z')) : lc_M l G yY_numbersIn wY_numbersIn 1 [.ref (lc_ad G 20), .long a1] z (some (.int r)) z' := by
  refine lc_M_of (cc := prog_4_method_16_code) (maxL := 4) (ret := (some .int)) (own := "LinearCells$Memory") (by decide) rfl (fun w h => List.mem_cons_of_mem _ h) (Nat.le_of_ble_eq_true rfl) rfl ?_
  intro p e s m below meth c hx hb hml hr hlocks hown hts hE ls hl hH
  replace hl : lv_has ls 4 [(0, .ref (lc_ad G 20)), (1, .long a1)] := hl
  rw [fY_numbersIn] at hf
  refine lv_lload_n hx hb dY_numbersIn_0 rfl (lv_at hl 1 rfl) ?_
  obtain ⟨r1, z1, h1, hf⟩ := lc_bnd_some hf
  refine lc_calli (va_runS (As := [.long a1]) (rest := []) ⟨hx, hb, hml, hown, hts⟩ (cV_wordOf l G h1) (lc_cwS hts ksY_66 (lc_room (by decide) (by decide))) (lc_preS hE hH _) rfl rfl hl.1 rfl (lv_room (Nat.le_of_ble_eq_true rfl)) dY_numbersIn_1 ⟨Nat.zero_le _, Nat.zero_le _⟩) hH (fun H locs hH => ?_)
  refine lv_istore_n hx hb dY_numbersIn_4 rfl hl (by decide) rfl (fun ls hl => ?_)
  replace hl : lv_has ls 4 [(3, .int r1), (0, .ref (lc_ad G 20)), (1, .long a1)] := hl
  refine lv_lload_n hx hb dY_numbersIn_5 rfl (lv_at hl 2 rfl) ?_
  obtain ⟨r6, z6, h6, hf⟩ := lc_bnd_some hf
  refine lc_calli (va_runS (As := [.long a1]) (rest := []) ⟨hx, hb, hml, hown, hts⟩ (cV_isPair l G h6) (lc_cwS hts ksY_71 (lc_room (by decide) (by decide))) (lc_preS hE hH _) rfl rfl hl.1 rfl (lv_room (Nat.le_of_ble_eq_true rfl)) dY_numbersIn_6 ⟨Nat.zero_le _, Nat.zero_le _⟩) hH (fun H locs hH => ?_)
  refine lv_if_eq (tgt := 27) hx hb dY_numbersIn_9 (by decide) (fun hc => ?_) (fun hc => ?_)
  · replace hf := lc_ite_pos hc hf
    exact bY_numbersIn_27 hx hb hml hr hlocks hown hts hE hf (lv_sub hl [2] rfl) hH
  · replace hf := lc_ite_neg hc hf
    refine lv_aload_n hx hb dY_numbersIn_12 rfl (lv_at hl 1 rfl) ?_
    refine lv_iload_n hx hb dY_numbersIn_13 rfl (lv_at hl 0 rfl) ?_
    obtain ⟨r14, z14, h14, hf⟩ := lc_bnd_some hf
    refine lc_calli (va_runV (As := [.int r1]) (rest := []) ⟨hx, hb, hml, hown, hts⟩ (cY_isMade l G h14) (lc_cwV hts kvY_74 (lc_room (by decide) (by decide))) (lc_preV hE hH lc_h20 rfl _) rfl rfl hl.1 rfl (lv_room (Nat.le_of_ble_eq_true rfl)) dY_numbersIn_14 ⟨Nat.zero_le _, Nat.zero_le _⟩) hH (fun H locs hH => ?_)
    refine lv_if_eq (tgt := 27) hx hb dY_numbersIn_17 (by decide) (fun hc => ?_) (fun hc => ?_)
    · replace hf := lc_ite_pos hc hf
      exact bY_numbersIn_27 hx hb hml hr hlocks hown hts hE hf (lv_sub hl [2] rfl) hH
    · replace hf := lc_ite_neg hc hf
      refine lv_aload_n hx hb dY_numbersIn_20 rfl (lv_at hl 1 rfl) ?_
      refine lc_getf (d := 6) (q := 26) hx hb hts hown hE hH flY_29 lc_h20 rfl rfl dY_numbersIn_21 ?_
      refine lv_iload_n hx hb dY_numbersIn_24 rfl (lv_at hl 0 rfl) ?_
      obtain ⟨hi25, hf⟩ := lc_chk_some hf
      refine lc_iald hx hb hE hH lc_h26 rfl hi25 dY_numbersIn_25 ?_
      exact lc_iret hx hb hr hlocks hH hf dY_numbersIn_26
theorem dY_hasNumber_0 : decode prog_4_method_17_code 0 = .ok (.lload_n 1, 1) := by decide +kernel
theorem dY_hasNumber_1 : decode prog_4_method_17_code 1 = .ok (.invokestatic 66, 3) := by decide +kernel
theorem dY_hasNumber_4 : decode prog_4_method_17_code 4 = .ok (.istore_n 3, 1) := by decide +kernel
theorem dY_hasNumber_5 : decode prog_4_method_17_code 5 = .ok (.lload_n 1, 1) := by decide +kernel
theorem dY_hasNumber_6 : decode prog_4_method_17_code 6 = .ok (.invokestatic 71, 3) := by decide +kernel
theorem dY_hasNumber_9 : decode prog_4_method_17_code 9 = .ok (.ifCond .eq 18, 3) := by decide +kernel
theorem dY_hasNumber_12 : decode prog_4_method_17_code 12 = .ok (.aload_n 0, 1) := by decide +kernel
theorem dY_hasNumber_13 : decode prog_4_method_17_code 13 = .ok (.iload_n 3, 1) := by decide +kernel
theorem dY_hasNumber_14 : decode prog_4_method_17_code 14 = .ok (.invokevirtual 74, 3) := by decide +kernel
theorem dY_hasNumber_17 : decode prog_4_method_17_code 17 = .ok (.ifCond .eq 10, 3) := by decide +kernel
theorem dY_hasNumber_20 : decode prog_4_method_17_code 20 = .ok (.aload_n 0, 1) := by decide +kernel
theorem dY_hasNumber_21 : decode prog_4_method_17_code 21 = .ok (.getfield 32, 3) := by decide +kernel
theorem dY_hasNumber_24 : decode prog_4_method_17_code 24 = .ok (.iload_n 3, 1) := by decide +kernel
theorem dY_hasNumber_25 : decode prog_4_method_17_code 25 = .ok (.baload, 1) := by decide +kernel
theorem dY_hasNumber_26 : decode prog_4_method_17_code 26 = .ok (.ireturn, 1) := by decide +kernel
theorem dY_hasNumber_27 : decode prog_4_method_17_code 27 = .ok (.lload_n 1, 1) := by decide +kernel
theorem dY_hasNumber_28 : decode prog_4_method_17_code 28 = .ok (.invokestatic 80, 3) := by decide +kernel
theorem dY_hasNumber_31 : decode prog_4_method_17_code 31 = .ok (.ireturn, 1) := by decide +kernel
def fY_hasNumber_27 (x1 : Int64) (z : lc_S) : Option ((Int32) × lc_S) :=
  lc_bnd (fV_isNumber x1 z) (fun r28 z28 => lc_chk (lc_zok r28) (some (r28, z28)))
def fY_hasNumber (a1 : Int64) (z : lc_S) : Option ((Int32) × lc_S) :=
  lc_bnd (fV_wordOf a1 z) (fun r1 z1 => lc_bnd (fV_isPair a1 z1) (fun r6 z6 => if r6 = 0 then (fY_hasNumber_27 a1 z6) else (lc_bnd (fY_isMade r1 z6) (fun r14 z14 => if r14 = 0 then (fY_hasNumber_27 a1 z14) else (lc_chk (lc_in r1 120) (lc_chk (lc_zok (lcI z14 27 r1.toNatClampNeg)) (some (lcI z14 27 r1.toNatClampNeg, z14))))))))
set_option maxHeartbeats 4000000 in
set_option maxRecDepth 100000 in
theorem bY_hasNumber_27 {p : Program} {l : Launch} {e : Env} {s : State} {m : MethodId} {args : Array Value} {below : List Frame} {meth : Method} {c : Code} {G : lc_G} (hx : p.tables.exec = Jvm.exec) (hb : c.code = prog_4_method_17_code) (hml : c.maxLocals = 4) (hr : meth.sig.returnType = (some .boolean)) (hlocks : meth.locks = false) (hown : s.vm.findClass "LinearCells$Memory" = some m.cls) (hts : ∀ w ∈ lc_ALL, w.before args s = true) (hE : lc_E G s) {r : Int32} {z' : lc_S} : ∀ {x1 : Int64} {z : lc_S} {H : Heap} {locs : List Loc} {ls : Array Slot}, fY_hasNumber_27 x1 z = some (r, z') → lv_has ls 4 [(1, .long x1)] → lc_H G z s.heap H locs → W p l e (lc_rm 1) s m args below meth c H locs 0 0 (MQ below (lc_Q G (some (.int r)) z') args s 0 0 (lc_A G)) (F0 m 27 ls []) := by
  intro x1 z H locs ls hf hl hH
  rw [fY_hasNumber_27] at hf
  refine lv_lload_n hx hb dY_hasNumber_27 rfl (lv_at hl 0 rfl) ?_
  obtain ⟨r28, z28, h28, hf⟩ := lc_bnd_some hf
  refine lc_calli (va_runS (As := [.long x1]) (rest := []) ⟨hx, hb, hml, hown, hts⟩ (cV_isNumber l G h28) (lc_cwS hts ksY_80 (lc_room (by decide) (by decide))) (lc_preS hE hH _) rfl rfl hl.1 rfl (lv_room (Nat.le_of_ble_eq_true rfl)) dY_hasNumber_28 ⟨Nat.zero_le _, Nat.zero_le _⟩) hH (fun H locs hH => ?_)
  obtain ⟨hz31, hf⟩ := lc_chk_some hf
  exact lc_zret hx hb hr hlocks (lc_zn hz31) hH hf dY_hasNumber_31
set_option maxHeartbeats 4000000 in
set_option maxRecDepth 100000 in
theorem cY_hasNumber (l : Launch) (G : lc_G) {a1 : Int64} {r : Int32} {z z' : lc_S} (hf : fY_hasNumber a1 z = some (r, z')) : lc_M l G yY_hasNumber wY_hasNumber 1 [.ref (lc_ad G 20), .long a1] z (some (.int r)) z' := by
  refine lc_M_of (cc := prog_4_method_17_code) (maxL := 4) (ret := (some .boolean)) (own := "LinearCells$Memory") (by decide) rfl (fun w h => List.mem_cons_of_mem _ h) (Nat.le_of_ble_eq_true rfl) rfl ?_
  intro p e s m below meth c hx hb hml hr hlocks hown hts hE ls hl hH
  replace hl : lv_has ls 4 [(0, .ref (lc_ad G 20)), (1, .long a1)] := hl
  rw [fY_hasNumber] at hf
  refine lv_lload_n hx hb dY_hasNumber_0 rfl (lv_at hl 1 rfl) ?_
  obtain ⟨r1, z1, h1, hf⟩ := lc_bnd_some hf
  refine lc_calli (va_runS (As := [.long a1]) (rest := []) ⟨hx, hb, hml, hown, hts⟩ (cV_wordOf l G h1) (lc_cwS hts ksY_66 (lc_room (by decide) (by decide))) (lc_preS hE hH _) rfl rfl hl.1 rfl (lv_room (Nat.le_of_ble_eq_true rfl)) dY_hasNumber_1 ⟨Nat.zero_le _, Nat.zero_le _⟩) hH (fun H locs hH => ?_)
  refine lv_istore_n hx hb dY_hasNumber_4 rfl hl (by decide) rfl (fun ls hl => ?_)
  replace hl : lv_has ls 4 [(3, .int r1), (0, .ref (lc_ad G 20)), (1, .long a1)] := hl
  refine lv_lload_n hx hb dY_hasNumber_5 rfl (lv_at hl 2 rfl) ?_
  obtain ⟨r6, z6, h6, hf⟩ := lc_bnd_some hf
  refine lc_calli (va_runS (As := [.long a1]) (rest := []) ⟨hx, hb, hml, hown, hts⟩ (cV_isPair l G h6) (lc_cwS hts ksY_71 (lc_room (by decide) (by decide))) (lc_preS hE hH _) rfl rfl hl.1 rfl (lv_room (Nat.le_of_ble_eq_true rfl)) dY_hasNumber_6 ⟨Nat.zero_le _, Nat.zero_le _⟩) hH (fun H locs hH => ?_)
  refine lv_if_eq (tgt := 27) hx hb dY_hasNumber_9 (by decide) (fun hc => ?_) (fun hc => ?_)
  · replace hf := lc_ite_pos hc hf
    exact bY_hasNumber_27 hx hb hml hr hlocks hown hts hE hf (lv_sub hl [2] rfl) hH
  · replace hf := lc_ite_neg hc hf
    refine lv_aload_n hx hb dY_hasNumber_12 rfl (lv_at hl 1 rfl) ?_
    refine lv_iload_n hx hb dY_hasNumber_13 rfl (lv_at hl 0 rfl) ?_
    obtain ⟨r14, z14, h14, hf⟩ := lc_bnd_some hf
    refine lc_calli (va_runV (As := [.int r1]) (rest := []) ⟨hx, hb, hml, hown, hts⟩ (cY_isMade l G h14) (lc_cwV hts kvY_74 (lc_room (by decide) (by decide))) (lc_preV hE hH lc_h20 rfl _) rfl rfl hl.1 rfl (lv_room (Nat.le_of_ble_eq_true rfl)) dY_hasNumber_14 ⟨Nat.zero_le _, Nat.zero_le _⟩) hH (fun H locs hH => ?_)
    refine lv_if_eq (tgt := 27) hx hb dY_hasNumber_17 (by decide) (fun hc => ?_) (fun hc => ?_)
    · replace hf := lc_ite_pos hc hf
      exact bY_hasNumber_27 hx hb hml hr hlocks hown hts hE hf (lv_sub hl [2] rfl) hH
    · replace hf := lc_ite_neg hc hf
      refine lv_aload_n hx hb dY_hasNumber_20 rfl (lv_at hl 1 rfl) ?_
      refine lc_getf (d := 7) (q := 27) hx hb hts hown hE hH flY_32 lc_h20 rfl rfl dY_hasNumber_21 ?_
      refine lv_iload_n hx hb dY_hasNumber_24 rfl (lv_at hl 0 rfl) ?_
      obtain ⟨hi25, hf⟩ := lc_chk_some hf
      refine lc_zald hx hb hE hH lc_h27 rfl hi25 dY_hasNumber_25 ?_
      obtain ⟨hz26, hf⟩ := lc_chk_some hf
      exact lc_zret hx hb hr hlocks (lc_zn hz26) hH hf dY_hasNumber_26
theorem dY_firstNumberIn_0 : decode prog_4_method_18_code 0 = .ok (.lload_n 1, 1) := by decide +kernel
theorem dY_firstNumberIn_1 : decode prog_4_method_18_code 1 = .ok (.invokestatic 66, 3) := by decide +kernel
theorem dY_firstNumberIn_4 : decode prog_4_method_18_code 4 = .ok (.istore_n 3, 1) := by decide +kernel
theorem dY_firstNumberIn_5 : decode prog_4_method_18_code 5 = .ok (.lload_n 1, 1) := by decide +kernel
theorem dY_firstNumberIn_6 : decode prog_4_method_18_code 6 = .ok (.invokestatic 71, 3) := by decide +kernel
theorem dY_firstNumberIn_9 : decode prog_4_method_18_code 9 = .ok (.ifCond .eq 18, 3) := by decide +kernel
theorem dY_firstNumberIn_12 : decode prog_4_method_18_code 12 = .ok (.aload_n 0, 1) := by decide +kernel
theorem dY_firstNumberIn_13 : decode prog_4_method_18_code 13 = .ok (.iload_n 3, 1) := by decide +kernel
theorem dY_firstNumberIn_14 : decode prog_4_method_18_code 14 = .ok (.invokevirtual 74, 3) := by decide +kernel
theorem dY_firstNumberIn_17 : decode prog_4_method_18_code 17 = .ok (.ifCond .eq 10, 3) := by decide +kernel
theorem dY_firstNumberIn_20 : decode prog_4_method_18_code 20 = .ok (.aload_n 0, 1) := by decide +kernel
theorem dY_firstNumberIn_21 : decode prog_4_method_18_code 21 = .ok (.getfield 35, 3) := by decide +kernel
theorem dY_firstNumberIn_24 : decode prog_4_method_18_code 24 = .ok (.iload_n 3, 1) := by decide +kernel
theorem dY_firstNumberIn_25 : decode prog_4_method_18_code 25 = .ok (.iaload, 1) := by decide +kernel
theorem dY_firstNumberIn_26 : decode prog_4_method_18_code 26 = .ok (.ireturn, 1) := by decide +kernel
theorem dY_firstNumberIn_27 : decode prog_4_method_18_code 27 = .ok (.lload_n 1, 1) := by decide +kernel
theorem dY_firstNumberIn_28 : decode prog_4_method_18_code 28 = .ok (.invokestatic 80, 3) := by decide +kernel
theorem dY_firstNumberIn_31 : decode prog_4_method_18_code 31 = .ok (.ifCond .eq 7, 3) := by decide +kernel
theorem dY_firstNumberIn_34 : decode prog_4_method_18_code 34 = .ok (.iload_n 3, 1) := by decide +kernel
theorem dY_firstNumberIn_35 : decode prog_4_method_18_code 35 = .ok (.goto 4, 3) := by decide +kernel
theorem dY_firstNumberIn_38 : decode prog_4_method_18_code 38 = .ok (.iconst 0, 1) := by decide +kernel
theorem dY_firstNumberIn_39 : decode prog_4_method_18_code 39 = .ok (.ireturn, 1) := by decide +kernel
def fY_firstNumberIn_27 (x1 : Int64) (x3 : Int32) (z : lc_S) : Option ((Int32) × lc_S) :=
  lc_bnd (fV_isNumber x1 z) (fun r28 z28 => if r28 = 0 then (some (0, z28)) else (some (x3, z28)))
def fY_firstNumberIn (a1 : Int64) (z : lc_S) : Option ((Int32) × lc_S) :=
  lc_bnd (fV_wordOf a1 z) (fun r1 z1 => lc_bnd (fV_isPair a1 z1) (fun r6 z6 => if r6 = 0 then (fY_firstNumberIn_27 a1 r1 z6) else (lc_bnd (fY_isMade r1 z6) (fun r14 z14 => if r14 = 0 then (fY_firstNumberIn_27 a1 r1 z14) else (lc_chk (lc_in r1 120) (some (lcI z14 28 r1.toNatClampNeg, z14)))))))
set_option maxHeartbeats 4000000 in
set_option maxRecDepth 100000 in
theorem bY_firstNumberIn_27 {p : Program} {l : Launch} {e : Env} {s : State} {m : MethodId} {args : Array Value} {below : List Frame} {meth : Method} {c : Code} {G : lc_G} (hx : p.tables.exec = Jvm.exec) (hb : c.code = prog_4_method_18_code) (hml : c.maxLocals = 4) (hr : meth.sig.returnType = (some .int)) (hlocks : meth.locks = false) (hown : s.vm.findClass "LinearCells$Memory" = some m.cls) (hts : ∀ w ∈ lc_ALL, w.before args s = true) (hE : lc_E G s) {r : Int32} {z' : lc_S} : ∀ {x1 : Int64} {x3 : Int32} {z : lc_S} {H : Heap} {locs : List Loc} {ls : Array Slot}, fY_firstNumberIn_27 x1 x3 z = some (r, z') → lv_has ls 4 [(1, .long x1), (3, .int x3)] → lc_H G z s.heap H locs → W p l e (lc_rm 1) s m args below meth c H locs 0 0 (MQ below (lc_Q G (some (.int r)) z') args s 0 0 (lc_A G)) (F0 m 27 ls []) := by
  intro x1 x3 z H locs ls hf hl hH
  rw [fY_firstNumberIn_27] at hf
  refine lv_lload_n hx hb dY_firstNumberIn_27 rfl (lv_at hl 0 rfl) ?_
  obtain ⟨r28, z28, h28, hf⟩ := lc_bnd_some hf
  refine lc_calli (va_runS (As := [.long x1]) (rest := []) ⟨hx, hb, hml, hown, hts⟩ (cV_isNumber l G h28) (lc_cwS hts ksY_80 (lc_room (by decide) (by decide))) (lc_preS hE hH _) rfl rfl hl.1 rfl (lv_room (Nat.le_of_ble_eq_true rfl)) dY_firstNumberIn_28 ⟨Nat.zero_le _, Nat.zero_le _⟩) hH (fun H locs hH => ?_)
  refine lv_if_eq (tgt := 38) hx hb dY_firstNumberIn_31 (by decide) (fun hc => ?_) (fun hc => ?_)
  · replace hf := lc_ite_pos hc hf
    refine lv_iconst (v := 0) hx hb dY_firstNumberIn_38 (by decide) ?_
    exact lc_iret hx hb hr hlocks hH hf dY_firstNumberIn_39
  · replace hf := lc_ite_neg hc hf
    refine lv_iload_n hx hb dY_firstNumberIn_34 rfl (lv_at hl 1 rfl) ?_
    refine lv_goto (tgt := 39) hx hb dY_firstNumberIn_35 (by decide) ?_
    exact lc_iret hx hb hr hlocks hH hf dY_firstNumberIn_39
set_option maxHeartbeats 4000000 in
set_option maxRecDepth 100000 in
theorem cY_firstNumberIn (l : Launch) (G : lc_G) {a1 : Int64} {r : Int32} {z z' : lc_S} (hf : fY_firstNumberIn a1 z = some (r, z')) : lc_M l G yY_firstNumberIn wY_firstNumberIn 1 [.ref (lc_ad G 20), .long a1] z (some (.int r)) z' := by
  refine lc_M_of (cc := prog_4_method_18_code) (maxL := 4) (ret := (some .int)) (own := "LinearCells$Memory") (by decide) rfl (fun w h => List.mem_cons_of_mem _ h) (Nat.le_of_ble_eq_true rfl) rfl ?_
  intro p e s m below meth c hx hb hml hr hlocks hown hts hE ls hl hH
  replace hl : lv_has ls 4 [(0, .ref (lc_ad G 20)), (1, .long a1)] := hl
  rw [fY_firstNumberIn] at hf
  refine lv_lload_n hx hb dY_firstNumberIn_0 rfl (lv_at hl 1 rfl) ?_
  obtain ⟨r1, z1, h1, hf⟩ := lc_bnd_some hf
  refine lc_calli (va_runS (As := [.long a1]) (rest := []) ⟨hx, hb, hml, hown, hts⟩ (cV_wordOf l G h1) (lc_cwS hts ksY_66 (lc_room (by decide) (by decide))) (lc_preS hE hH _) rfl rfl hl.1 rfl (lv_room (Nat.le_of_ble_eq_true rfl)) dY_firstNumberIn_1 ⟨Nat.zero_le _, Nat.zero_le _⟩) hH (fun H locs hH => ?_)
  refine lv_istore_n hx hb dY_firstNumberIn_4 rfl hl (by decide) rfl (fun ls hl => ?_)
  replace hl : lv_has ls 4 [(3, .int r1), (0, .ref (lc_ad G 20)), (1, .long a1)] := hl
  refine lv_lload_n hx hb dY_firstNumberIn_5 rfl (lv_at hl 2 rfl) ?_
  obtain ⟨r6, z6, h6, hf⟩ := lc_bnd_some hf
  refine lc_calli (va_runS (As := [.long a1]) (rest := []) ⟨hx, hb, hml, hown, hts⟩ (cV_isPair l G h6) (lc_cwS hts ksY_71 (lc_room (by decide) (by decide))) (lc_preS hE hH _) rfl rfl hl.1 rfl (lv_room (Nat.le_of_ble_eq_true rfl)) dY_firstNumberIn_6 ⟨Nat.zero_le _, Nat.zero_le _⟩) hH (fun H locs hH => ?_)
  refine lv_if_eq (tgt := 27) hx hb dY_firstNumberIn_9 (by decide) (fun hc => ?_) (fun hc => ?_)
  · replace hf := lc_ite_pos hc hf
    exact bY_firstNumberIn_27 hx hb hml hr hlocks hown hts hE hf (lv_sub hl [2, 0] rfl) hH
  · replace hf := lc_ite_neg hc hf
    refine lv_aload_n hx hb dY_firstNumberIn_12 rfl (lv_at hl 1 rfl) ?_
    refine lv_iload_n hx hb dY_firstNumberIn_13 rfl (lv_at hl 0 rfl) ?_
    obtain ⟨r14, z14, h14, hf⟩ := lc_bnd_some hf
    refine lc_calli (va_runV (As := [.int r1]) (rest := []) ⟨hx, hb, hml, hown, hts⟩ (cY_isMade l G h14) (lc_cwV hts kvY_74 (lc_room (by decide) (by decide))) (lc_preV hE hH lc_h20 rfl _) rfl rfl hl.1 rfl (lv_room (Nat.le_of_ble_eq_true rfl)) dY_firstNumberIn_14 ⟨Nat.zero_le _, Nat.zero_le _⟩) hH (fun H locs hH => ?_)
    refine lv_if_eq (tgt := 27) hx hb dY_firstNumberIn_17 (by decide) (fun hc => ?_) (fun hc => ?_)
    · replace hf := lc_ite_pos hc hf
      exact bY_firstNumberIn_27 hx hb hml hr hlocks hown hts hE hf (lv_sub hl [2, 0] rfl) hH
    · replace hf := lc_ite_neg hc hf
      refine lv_aload_n hx hb dY_firstNumberIn_20 rfl (lv_at hl 1 rfl) ?_
      refine lc_getf (d := 8) (q := 28) hx hb hts hown hE hH flY_35 lc_h20 rfl rfl dY_firstNumberIn_21 ?_
      refine lv_iload_n hx hb dY_firstNumberIn_24 rfl (lv_at hl 0 rfl) ?_
      obtain ⟨hi25, hf⟩ := lc_chk_some hf
      refine lc_iald hx hb hE hH lc_h28 rfl hi25 dY_firstNumberIn_25 ?_
      exact lc_iret hx hb hr hlocks hH hf dY_firstNumberIn_26
theorem dY_sumUpPairs_0 : decode prog_4_method_12_code 0 = .ok (.iconst 0, 1) := by decide +kernel
theorem dY_sumUpPairs_1 : decode prog_4_method_12_code 1 = .ok (.istore_n 1, 1) := by decide +kernel
theorem dY_sumUpPairs_2 : decode prog_4_method_12_code 2 = .ok (.iload_n 1, 1) := by decide +kernel
theorem dY_sumUpPairs_3 : decode prog_4_method_12_code 3 = .ok (.aload_n 0, 1) := by decide +kernel
theorem dY_sumUpPairs_4 : decode prog_4_method_12_code 4 = .ok (.getfield 45, 3) := by decide +kernel
theorem dY_sumUpPairs_7 : decode prog_4_method_12_code 7 = .ok (.if_icmp .ge 116, 3) := by decide +kernel
theorem dY_sumUpPairs_10 : decode prog_4_method_12_code 10 = .ok (.aload_n 0, 1) := by decide +kernel
theorem dY_sumUpPairs_11 : decode prog_4_method_12_code 11 = .ok (.getfield 19, 3) := by decide +kernel
theorem dY_sumUpPairs_14 : decode prog_4_method_12_code 14 = .ok (.iload_n 1, 1) := by decide +kernel
theorem dY_sumUpPairs_15 : decode prog_4_method_12_code 15 = .ok (.laload, 1) := by decide +kernel
theorem dY_sumUpPairs_16 : decode prog_4_method_12_code 16 = .ok (.lstore_n 2, 1) := by decide +kernel
theorem dY_sumUpPairs_17 : decode prog_4_method_12_code 17 = .ok (.aload_n 0, 1) := by decide +kernel
theorem dY_sumUpPairs_18 : decode prog_4_method_12_code 18 = .ok (.getfield 23, 3) := by decide +kernel
theorem dY_sumUpPairs_21 : decode prog_4_method_12_code 21 = .ok (.iload_n 1, 1) := by decide +kernel
theorem dY_sumUpPairs_22 : decode prog_4_method_12_code 22 = .ok (.laload, 1) := by decide +kernel
theorem dY_sumUpPairs_23 : decode prog_4_method_12_code 23 = .ok (.lstore 4, 2) := by decide +kernel
theorem dY_sumUpPairs_25 : decode prog_4_method_12_code 25 = .ok (.aload_n 0, 1) := by decide +kernel
theorem dY_sumUpPairs_26 : decode prog_4_method_12_code 26 = .ok (.getfield 26, 3) := by decide +kernel
theorem dY_sumUpPairs_29 : decode prog_4_method_12_code 29 = .ok (.iload_n 1, 1) := by decide +kernel
theorem dY_sumUpPairs_30 : decode prog_4_method_12_code 30 = .ok (.aload_n 0, 1) := by decide +kernel
theorem dY_sumUpPairs_31 : decode prog_4_method_12_code 31 = .ok (.lload_n 2, 1) := by decide +kernel
theorem dY_sumUpPairs_32 : decode prog_4_method_12_code 32 = .ok (.invokevirtual 52, 3) := by decide +kernel
theorem dY_sumUpPairs_35 : decode prog_4_method_12_code 35 = .ok (.aload_n 0, 1) := by decide +kernel
theorem dY_sumUpPairs_36 : decode prog_4_method_12_code 36 = .ok (.lload 4, 2) := by decide +kernel
theorem dY_sumUpPairs_38 : decode prog_4_method_12_code 38 = .ok (.invokevirtual 52, 3) := by decide +kernel
theorem dY_sumUpPairs_41 : decode prog_4_method_12_code 41 = .ok (.iadd, 1) := by decide +kernel
theorem dY_sumUpPairs_42 : decode prog_4_method_12_code 42 = .ok (.iastore, 1) := by decide +kernel
theorem dY_sumUpPairs_43 : decode prog_4_method_12_code 43 = .ok (.aload_n 0, 1) := by decide +kernel
theorem dY_sumUpPairs_44 : decode prog_4_method_12_code 44 = .ok (.getfield 29, 3) := by decide +kernel
theorem dY_sumUpPairs_47 : decode prog_4_method_12_code 47 = .ok (.iload_n 1, 1) := by decide +kernel
theorem dY_sumUpPairs_48 : decode prog_4_method_12_code 48 = .ok (.aload_n 0, 1) := by decide +kernel
theorem dY_sumUpPairs_49 : decode prog_4_method_12_code 49 = .ok (.lload_n 2, 1) := by decide +kernel
theorem dY_sumUpPairs_50 : decode prog_4_method_12_code 50 = .ok (.invokevirtual 56, 3) := by decide +kernel
theorem dY_sumUpPairs_53 : decode prog_4_method_12_code 53 = .ok (.aload_n 0, 1) := by decide +kernel
theorem dY_sumUpPairs_54 : decode prog_4_method_12_code 54 = .ok (.lload 4, 2) := by decide +kernel
theorem dY_sumUpPairs_56 : decode prog_4_method_12_code 56 = .ok (.invokevirtual 56, 3) := by decide +kernel
theorem dY_sumUpPairs_59 : decode prog_4_method_12_code 59 = .ok (.iadd, 1) := by decide +kernel
theorem dY_sumUpPairs_60 : decode prog_4_method_12_code 60 = .ok (.iastore, 1) := by decide +kernel
theorem dY_sumUpPairs_61 : decode prog_4_method_12_code 61 = .ok (.aload_n 0, 1) := by decide +kernel
theorem dY_sumUpPairs_62 : decode prog_4_method_12_code 62 = .ok (.getfield 32, 3) := by decide +kernel
theorem dY_sumUpPairs_65 : decode prog_4_method_12_code 65 = .ok (.iload_n 1, 1) := by decide +kernel
theorem dY_sumUpPairs_66 : decode prog_4_method_12_code 66 = .ok (.aload_n 0, 1) := by decide +kernel
theorem dY_sumUpPairs_67 : decode prog_4_method_12_code 67 = .ok (.lload_n 2, 1) := by decide +kernel
theorem dY_sumUpPairs_68 : decode prog_4_method_12_code 68 = .ok (.invokevirtual 59, 3) := by decide +kernel
theorem dY_sumUpPairs_71 : decode prog_4_method_12_code 71 = .ok (.ifCond .ne 12, 3) := by decide +kernel
theorem dY_sumUpPairs_74 : decode prog_4_method_12_code 74 = .ok (.aload_n 0, 1) := by decide +kernel
theorem dY_sumUpPairs_75 : decode prog_4_method_12_code 75 = .ok (.lload 4, 2) := by decide +kernel
theorem dY_sumUpPairs_77 : decode prog_4_method_12_code 77 = .ok (.invokevirtual 59, 3) := by decide +kernel
theorem dY_sumUpPairs_80 : decode prog_4_method_12_code 80 = .ok (.ifCond .eq 7, 3) := by decide +kernel
theorem dY_sumUpPairs_83 : decode prog_4_method_12_code 83 = .ok (.iconst 1, 1) := by decide +kernel
theorem dY_sumUpPairs_84 : decode prog_4_method_12_code 84 = .ok (.goto 4, 3) := by decide +kernel
theorem dY_sumUpPairs_87 : decode prog_4_method_12_code 87 = .ok (.iconst 0, 1) := by decide +kernel
theorem dY_sumUpPairs_88 : decode prog_4_method_12_code 88 = .ok (.bastore, 1) := by decide +kernel
theorem dY_sumUpPairs_89 : decode prog_4_method_12_code 89 = .ok (.aload_n 0, 1) := by decide +kernel
theorem dY_sumUpPairs_90 : decode prog_4_method_12_code 90 = .ok (.getfield 35, 3) := by decide +kernel
theorem dY_sumUpPairs_93 : decode prog_4_method_12_code 93 = .ok (.iload_n 1, 1) := by decide +kernel
theorem dY_sumUpPairs_94 : decode prog_4_method_12_code 94 = .ok (.aload_n 0, 1) := by decide +kernel
theorem dY_sumUpPairs_95 : decode prog_4_method_12_code 95 = .ok (.lload_n 2, 1) := by decide +kernel
theorem dY_sumUpPairs_96 : decode prog_4_method_12_code 96 = .ok (.invokevirtual 59, 3) := by decide +kernel
theorem dY_sumUpPairs_99 : decode prog_4_method_12_code 99 = .ok (.ifCond .eq 11, 3) := by decide +kernel
theorem dY_sumUpPairs_102 : decode prog_4_method_12_code 102 = .ok (.aload_n 0, 1) := by decide +kernel
theorem dY_sumUpPairs_103 : decode prog_4_method_12_code 103 = .ok (.lload_n 2, 1) := by decide +kernel
theorem dY_sumUpPairs_104 : decode prog_4_method_12_code 104 = .ok (.invokevirtual 63, 3) := by decide +kernel
theorem dY_sumUpPairs_107 : decode prog_4_method_12_code 107 = .ok (.goto 9, 3) := by decide +kernel
theorem dY_sumUpPairs_110 : decode prog_4_method_12_code 110 = .ok (.aload_n 0, 1) := by decide +kernel
theorem dY_sumUpPairs_111 : decode prog_4_method_12_code 111 = .ok (.lload 4, 2) := by decide +kernel
theorem dY_sumUpPairs_113 : decode prog_4_method_12_code 113 = .ok (.invokevirtual 63, 3) := by decide +kernel
theorem dY_sumUpPairs_116 : decode prog_4_method_12_code 116 = .ok (.iastore, 1) := by decide +kernel
theorem dY_sumUpPairs_117 : decode prog_4_method_12_code 117 = .ok (.iinc 1 1, 3) := by decide +kernel
theorem dY_sumUpPairs_120 : decode prog_4_method_12_code 120 = .ok (.goto (-118), 3) := by decide +kernel
theorem dY_sumUpPairs_123 : decode prog_4_method_12_code 123 = .ok (.return_, 1) := by decide +kernel
def fY_sumUpPairs_116 (k2 : Int32 → lc_S → Option ((Unit) × lc_S)) (x1 : Int32) (t1 : Int32) (t2 : Int32) (z : lc_S) : Option ((Unit) × lc_S) :=
  lc_chk (lc_in t1 120) (lc_let (x1 + 1) (fun x117 => k2 x117 (lcUI z 28 t1.toNatClampNeg t2)))
def fY_sumUpPairs_88 (k2 : Int32 → lc_S → Option ((Unit) × lc_S)) (x1 : Int32) (x2 : Int64) (x4 : Int64) (t1 : Int32) (t2 : Int32) (z : lc_S) : Option ((Unit) × lc_S) :=
  lc_chk (lc_in t1 120) (lc_chk (vp_nar .boolean t2 = t2) (lc_bnd (fY_hasNumber x2 (lcUI z 27 t1.toNatClampNeg t2)) (fun r96 z96 => if r96 = 0 then (lc_bnd (fY_firstNumberIn x4 z96) (fun r113 z113 => fY_sumUpPairs_116 k2 x1 x1 r113 z113)) else (lc_bnd (fY_firstNumberIn x2 z96) (fun r104 z104 => fY_sumUpPairs_116 k2 x1 x1 r104 z104)))))
def fY_sumUpPairs_83 (k2 : Int32 → lc_S → Option ((Unit) × lc_S)) (x1 : Int32) (x2 : Int64) (x4 : Int64) (t1 : Int32) (z : lc_S) : Option ((Unit) × lc_S) :=
  fY_sumUpPairs_88 k2 x1 x2 x4 t1 1 z
def fY_sumUpPairs_2 : Nat → Int32 → lc_S → Option ((Unit) × lc_S)
  | 0, _, _ => none
  | n + 1, x1, z => if (lcI z 20 10) ≤ x1 then (some ((), z)) else (lc_chk (lc_in x1 120) (lc_let (lcL z 23 x1.toNatClampNeg) (fun x16 => lc_chk (lc_in x1 120) (lc_let (lcL z 24 x1.toNatClampNeg) (fun x23 => lc_bnd (fY_cellsIn x16 z) (fun r32 z32 => lc_bnd (fY_cellsIn x23 z32) (fun r38 z38 => lc_chk (lc_in x1 120) (lc_bnd (fY_numbersIn x16 (lcUI z38 25 x1.toNatClampNeg (r32 + r38))) (fun r50 z50 => lc_bnd (fY_numbersIn x23 z50) (fun r56 z56 => lc_chk (lc_in x1 120) (lc_bnd (fY_hasNumber x16 (lcUI z56 26 x1.toNatClampNeg (r50 + r56))) (fun r68 z68 => if r68 = 0 then (lc_bnd (fY_hasNumber x23 z68) (fun r77 z77 => if r77 = 0 then (fY_sumUpPairs_88 (fY_sumUpPairs_2 n) x1 x16 x23 x1 0 z77) else (fY_sumUpPairs_83 (fY_sumUpPairs_2 n) x1 x16 x23 x1 z77))) else (fY_sumUpPairs_83 (fY_sumUpPairs_2 n) x1 x16 x23 x1 z68)))))))))))))
def fY_sumUpPairs (z : lc_S) : Option ((Unit) × lc_S) :=
  fY_sumUpPairs_2 lc_FU 0 z
set_option maxHeartbeats 4000000 in
set_option maxRecDepth 100000 in
theorem bY_sumUpPairs_116 {p : Program} {l : Launch} {e : Env} {s : State} {m : MethodId} {args : Array Value} {below : List Frame} {meth : Method} {c : Code} {G : lc_G} (hx : p.tables.exec = Jvm.exec) (hb : c.code = prog_4_method_12_code) (hml : c.maxLocals = 6) (hr : meth.sig.returnType = none) (hlocks : meth.locks = false) (hown : s.vm.findClass "LinearCells$Memory" = some m.cls) (hts : ∀ w ∈ lc_ALL, w.before args s = true) (hE : lc_E G s) {k2 : Int32 → lc_S → Option ((Unit) × lc_S)} {r : Unit} {z' : lc_S} (hk2 : ∀ {x1 : Int32} {z : lc_S} {H : Heap} {locs : List Loc} {ls : Array Slot}, k2 x1 z = some (r, z') → lv_has ls 6 [(0, .ref (lc_ad G 20)), (1, .int x1)] → lc_H G z s.heap H locs → W p l e (lc_rm 2) s m args below meth c H locs 0 0 (MQ below (lc_Q G none z') args s 0 0 (lc_A G)) (F0 m 2 ls [])) : ∀ {x1 : Int32} {t1 : Int32} {t2 : Int32} {z : lc_S} {H : Heap} {locs : List Loc} {ls : Array Slot}, fY_sumUpPairs_116 k2 x1 t1 t2 z = some (r, z') → lv_has ls 6 [(0, .ref (lc_ad G 20)), (1, .int x1)] → lc_H G z s.heap H locs → W p l e (lc_rm 2) s m args below meth c H locs 0 0 (MQ below (lc_Q G none z') args s 0 0 (lc_A G)) (F0 m 116 ls [.int t2, .int t1, .ref (lc_ad G 28)]) := by
  intro x1 t1 t2 z H locs ls hf hl hH
  rw [fY_sumUpPairs_116] at hf
  obtain ⟨hi116, hf⟩ := lc_chk_some hf
  refine lc_iast hx hb hE hH lc_h28 rfl hi116 dY_sumUpPairs_116 (fun H locs hH => ?_)
  obtain ⟨x117, e117⟩ : ∃ x : Int32, x = x1 + 1 := ⟨_, rfl⟩
  replace hf := lc_let_of e117 hf
  refine lv_iinc (k := 1) (v := x117) hx hb dY_sumUpPairs_117 hl rfl ((lc_incv _ (by decide)).trans e117.symm) (by decide) rfl (fun ls hl => ?_)
  replace hl : lv_has ls 6 [(1, .int x117), (0, .ref (lc_ad G 20))] := hl
  refine lv_goto (tgt := 2) hx hb dY_sumUpPairs_120 (by decide) ?_
  exact hk2 hf (lv_sub hl [1, 0] rfl) hH
set_option maxHeartbeats 4000000 in
set_option maxRecDepth 100000 in
theorem bY_sumUpPairs_88 {p : Program} {l : Launch} {e : Env} {s : State} {m : MethodId} {args : Array Value} {below : List Frame} {meth : Method} {c : Code} {G : lc_G} (hx : p.tables.exec = Jvm.exec) (hb : c.code = prog_4_method_12_code) (hml : c.maxLocals = 6) (hr : meth.sig.returnType = none) (hlocks : meth.locks = false) (hown : s.vm.findClass "LinearCells$Memory" = some m.cls) (hts : ∀ w ∈ lc_ALL, w.before args s = true) (hE : lc_E G s) {k2 : Int32 → lc_S → Option ((Unit) × lc_S)} {r : Unit} {z' : lc_S} (hk2 : ∀ {x1 : Int32} {z : lc_S} {H : Heap} {locs : List Loc} {ls : Array Slot}, k2 x1 z = some (r, z') → lv_has ls 6 [(0, .ref (lc_ad G 20)), (1, .int x1)] → lc_H G z s.heap H locs → W p l e (lc_rm 2) s m args below meth c H locs 0 0 (MQ below (lc_Q G none z') args s 0 0 (lc_A G)) (F0 m 2 ls [])) : ∀ {x1 : Int32} {x2 : Int64} {x4 : Int64} {t1 : Int32} {t2 : Int32} {z : lc_S} {H : Heap} {locs : List Loc} {ls : Array Slot}, fY_sumUpPairs_88 k2 x1 x2 x4 t1 t2 z = some (r, z') → lv_has ls 6 [(0, .ref (lc_ad G 20)), (1, .int x1), (2, .long x2), (4, .long x4)] → lc_H G z s.heap H locs → W p l e (lc_rm 2) s m args below meth c H locs 0 0 (MQ below (lc_Q G none z') args s 0 0 (lc_A G)) (F0 m 88 ls [.int t2, .int t1, .ref (lc_ad G 27)]) := by
  intro x1 x2 x4 t1 t2 z H locs ls hf hl hH
  rw [fY_sumUpPairs_88] at hf
  obtain ⟨hi88, hf⟩ := lc_chk_some hf
  obtain ⟨hn88, hf⟩ := lc_chk_some hf
  refine lc_zast hx hb hE hH lc_h27 rfl hi88 hn88 dY_sumUpPairs_88 (fun H locs hH => ?_)
  refine lv_aload_n hx hb dY_sumUpPairs_89 rfl (lv_at hl 0 rfl) ?_
  refine lc_getf (d := 8) (q := 28) hx hb hts hown hE hH flY_35 lc_h20 rfl rfl dY_sumUpPairs_90 ?_
  refine lv_iload_n hx hb dY_sumUpPairs_93 rfl (lv_at hl 1 rfl) ?_
  refine lv_aload_n hx hb dY_sumUpPairs_94 rfl (lv_at hl 0 rfl) ?_
  refine lv_lload_n hx hb dY_sumUpPairs_95 rfl (lv_at hl 2 rfl) ?_
  obtain ⟨r96, z96, h96, hf⟩ := lc_bnd_some hf
  refine lc_calli (va_runV (As := [.long x2]) (rest := [.int x1, .ref (lc_ad G 28)]) ⟨hx, hb, hml, hown, hts⟩ (cY_hasNumber l G h96) (lc_cwV hts kvY_59 (lc_room (by decide) (by decide))) (lc_preV hE hH lc_h20 rfl _) rfl rfl hl.1 rfl (lv_room (Nat.le_of_ble_eq_true rfl)) dY_sumUpPairs_96 ⟨Nat.zero_le _, Nat.zero_le _⟩) hH (fun H locs hH => ?_)
  refine lv_if_eq (tgt := 110) hx hb dY_sumUpPairs_99 (by decide) (fun hc => ?_) (fun hc => ?_)
  · replace hf := lc_ite_pos hc hf
    refine lv_aload_n hx hb dY_sumUpPairs_110 rfl (lv_at hl 0 rfl) ?_
    refine lv_lload hx hb dY_sumUpPairs_111 (lv_at hl 3 rfl) ?_
    obtain ⟨r113, z113, h113, hf⟩ := lc_bnd_some hf
    refine lc_calli (va_runV (As := [.long x4]) (rest := [.int x1, .ref (lc_ad G 28)]) ⟨hx, hb, hml, hown, hts⟩ (cY_firstNumberIn l G h113) (lc_cwV hts kvY_63 (lc_room (by decide) (by decide))) (lc_preV hE hH lc_h20 rfl _) rfl rfl hl.1 rfl (lv_room (Nat.le_of_ble_eq_true rfl)) dY_sumUpPairs_113 ⟨Nat.zero_le _, Nat.zero_le _⟩) hH (fun H locs hH => ?_)
    exact bY_sumUpPairs_116 hx hb hml hr hlocks hown hts hE (fun hf hl hH => hk2 hf hl hH) hf (lv_sub hl [0, 1] rfl) hH
  · replace hf := lc_ite_neg hc hf
    refine lv_aload_n hx hb dY_sumUpPairs_102 rfl (lv_at hl 0 rfl) ?_
    refine lv_lload_n hx hb dY_sumUpPairs_103 rfl (lv_at hl 2 rfl) ?_
    obtain ⟨r104, z104, h104, hf⟩ := lc_bnd_some hf
    refine lc_calli (va_runV (As := [.long x2]) (rest := [.int x1, .ref (lc_ad G 28)]) ⟨hx, hb, hml, hown, hts⟩ (cY_firstNumberIn l G h104) (lc_cwV hts kvY_63 (lc_room (by decide) (by decide))) (lc_preV hE hH lc_h20 rfl _) rfl rfl hl.1 rfl (lv_room (Nat.le_of_ble_eq_true rfl)) dY_sumUpPairs_104 ⟨Nat.zero_le _, Nat.zero_le _⟩) hH (fun H locs hH => ?_)
    refine lv_goto (tgt := 116) hx hb dY_sumUpPairs_107 (by decide) ?_
    exact bY_sumUpPairs_116 hx hb hml hr hlocks hown hts hE (fun hf hl hH => hk2 hf hl hH) hf (lv_sub hl [0, 1] rfl) hH
set_option maxHeartbeats 4000000 in
set_option maxRecDepth 100000 in
theorem bY_sumUpPairs_83 {p : Program} {l : Launch} {e : Env} {s : State} {m : MethodId} {args : Array Value} {below : List Frame} {meth : Method} {c : Code} {G : lc_G} (hx : p.tables.exec = Jvm.exec) (hb : c.code = prog_4_method_12_code) (hml : c.maxLocals = 6) (hr : meth.sig.returnType = none) (hlocks : meth.locks = false) (hown : s.vm.findClass "LinearCells$Memory" = some m.cls) (hts : ∀ w ∈ lc_ALL, w.before args s = true) (hE : lc_E G s) {k2 : Int32 → lc_S → Option ((Unit) × lc_S)} {r : Unit} {z' : lc_S} (hk2 : ∀ {x1 : Int32} {z : lc_S} {H : Heap} {locs : List Loc} {ls : Array Slot}, k2 x1 z = some (r, z') → lv_has ls 6 [(0, .ref (lc_ad G 20)), (1, .int x1)] → lc_H G z s.heap H locs → W p l e (lc_rm 2) s m args below meth c H locs 0 0 (MQ below (lc_Q G none z') args s 0 0 (lc_A G)) (F0 m 2 ls [])) : ∀ {x1 : Int32} {x2 : Int64} {x4 : Int64} {t1 : Int32} {z : lc_S} {H : Heap} {locs : List Loc} {ls : Array Slot}, fY_sumUpPairs_83 k2 x1 x2 x4 t1 z = some (r, z') → lv_has ls 6 [(0, .ref (lc_ad G 20)), (1, .int x1), (2, .long x2), (4, .long x4)] → lc_H G z s.heap H locs → W p l e (lc_rm 2) s m args below meth c H locs 0 0 (MQ below (lc_Q G none z') args s 0 0 (lc_A G)) (F0 m 83 ls [.int t1, .ref (lc_ad G 27)]) := by
  intro x1 x2 x4 t1 z H locs ls hf hl hH
  rw [fY_sumUpPairs_83] at hf
  refine lv_iconst (v := 1) hx hb dY_sumUpPairs_83 (by decide) ?_
  refine lv_goto (tgt := 88) hx hb dY_sumUpPairs_84 (by decide) ?_
  exact bY_sumUpPairs_88 hx hb hml hr hlocks hown hts hE (fun hf hl hH => hk2 hf hl hH) hf (lv_sub hl [0, 1, 2, 3] rfl) hH
set_option maxHeartbeats 4000000 in
set_option maxRecDepth 100000 in
theorem bY_sumUpPairs_2 {p : Program} {l : Launch} {e : Env} {s : State} {m : MethodId} {args : Array Value} {below : List Frame} {meth : Method} {c : Code} {G : lc_G} (hx : p.tables.exec = Jvm.exec) (hb : c.code = prog_4_method_12_code) (hml : c.maxLocals = 6) (hr : meth.sig.returnType = none) (hlocks : meth.locks = false) (hown : s.vm.findClass "LinearCells$Memory" = some m.cls) (hts : ∀ w ∈ lc_ALL, w.before args s = true) (hE : lc_E G s) {r : Unit} {z' : lc_S} : ∀ (n : Nat) {x1 : Int32} {z : lc_S} {H : Heap} {locs : List Loc} {ls : Array Slot}, fY_sumUpPairs_2 n x1 z = some (r, z') → lv_has ls 6 [(0, .ref (lc_ad G 20)), (1, .int x1)] → lc_H G z s.heap H locs → W p l e (lc_rm 2) s m args below meth c H locs 0 0 (MQ below (lc_Q G none z') args s 0 0 (lc_A G)) (F0 m 2 ls []) := by
  intro n
  induction n with
  | zero =>
    intro x1 z H locs ls hf hl hH
    exact absurd (show (none : Option ((Unit) × lc_S)) = some (r, z') from hf) (fun h => by cases h)
  | succ n ih =>
    intro x1 z H locs ls hf hl hH
    rw [fY_sumUpPairs_2] at hf
    refine lv_iload_n hx hb dY_sumUpPairs_2 rfl (lv_at hl 1 rfl) ?_
    refine lv_aload_n hx hb dY_sumUpPairs_3 rfl (lv_at hl 0 rfl) ?_
    refine lc_geti hx hb hts hown hE hH flY_45 lc_h20 rfl dY_sumUpPairs_4 ?_
    refine lv_icmp_ge (tgt := 123) hx hb dY_sumUpPairs_7 (by decide) (fun hc => ?_) (fun hc => ?_)
    · replace hf := lc_ite_pos hc hf
      exact lc_vret hx hb hr hlocks hH hf dY_sumUpPairs_123
    · replace hf := lc_ite_neg hc hf
      refine lv_aload_n hx hb dY_sumUpPairs_10 rfl (lv_at hl 0 rfl) ?_
      refine lc_getf (d := 3) (q := 23) hx hb hts hown hE hH flY_19 lc_h20 rfl rfl dY_sumUpPairs_11 ?_
      refine lv_iload_n hx hb dY_sumUpPairs_14 rfl (lv_at hl 1 rfl) ?_
      obtain ⟨hi15, hf⟩ := lc_chk_some hf
      refine lc_lald hx hb hE hH lc_h23 rfl hi15 dY_sumUpPairs_15 ?_
      refine lv_topl (fun x16 e16 => ?_)
      replace hf := lc_let_of e16 hf
      refine lv_lstore_n hx hb dY_sumUpPairs_16 rfl hl (by decide) rfl (fun ls hl => ?_)
      replace hl : lv_has ls 6 [(2, .long x16), (0, .ref (lc_ad G 20)), (1, .int x1)] := hl
      refine lv_aload_n hx hb dY_sumUpPairs_17 rfl (lv_at hl 1 rfl) ?_
      refine lc_getf (d := 4) (q := 24) hx hb hts hown hE hH flY_23 lc_h20 rfl rfl dY_sumUpPairs_18 ?_
      refine lv_iload_n hx hb dY_sumUpPairs_21 rfl (lv_at hl 2 rfl) ?_
      obtain ⟨hi22, hf⟩ := lc_chk_some hf
      refine lc_lald hx hb hE hH lc_h24 rfl hi22 dY_sumUpPairs_22 ?_
      refine lv_topl (fun x23 e23 => ?_)
      replace hf := lc_let_of e23 hf
      refine lv_lstore hx hb dY_sumUpPairs_23 hl (by decide) rfl (fun ls hl => ?_)
      replace hl : lv_has ls 6 [(4, .long x23), (2, .long x16), (0, .ref (lc_ad G 20)), (1, .int x1)] := hl
      refine lv_aload_n hx hb dY_sumUpPairs_25 rfl (lv_at hl 2 rfl) ?_
      refine lc_getf (d := 5) (q := 25) hx hb hts hown hE hH flY_26 lc_h20 rfl rfl dY_sumUpPairs_26 ?_
      refine lv_iload_n hx hb dY_sumUpPairs_29 rfl (lv_at hl 3 rfl) ?_
      refine lv_aload_n hx hb dY_sumUpPairs_30 rfl (lv_at hl 2 rfl) ?_
      refine lv_lload_n hx hb dY_sumUpPairs_31 rfl (lv_at hl 1 rfl) ?_
      obtain ⟨r32, z32, h32, hf⟩ := lc_bnd_some hf
      refine lc_calli (va_runV (As := [.long x16]) (rest := [.int x1, .ref (lc_ad G 25)]) ⟨hx, hb, hml, hown, hts⟩ (cY_cellsIn l G h32) (lc_cwV hts kvY_52 (lc_room (by decide) (by decide))) (lc_preV hE hH lc_h20 rfl _) rfl rfl hl.1 rfl (lv_room (Nat.le_of_ble_eq_true rfl)) dY_sumUpPairs_32 ⟨Nat.zero_le _, Nat.zero_le _⟩) hH (fun H locs hH => ?_)
      refine lv_aload_n hx hb dY_sumUpPairs_35 rfl (lv_at hl 2 rfl) ?_
      refine lv_lload hx hb dY_sumUpPairs_36 (lv_at hl 0 rfl) ?_
      obtain ⟨r38, z38, h38, hf⟩ := lc_bnd_some hf
      refine lc_calli (va_runV (As := [.long x23]) (rest := [.int r32, .int x1, .ref (lc_ad G 25)]) ⟨hx, hb, hml, hown, hts⟩ (cY_cellsIn l G h38) (lc_cwV hts kvY_52 (lc_room (by decide) (by decide))) (lc_preV hE hH lc_h20 rfl _) rfl rfl hl.1 rfl (lv_room (Nat.le_of_ble_eq_true rfl)) dY_sumUpPairs_38 ⟨Nat.zero_le _, Nat.zero_le _⟩) hH (fun H locs hH => ?_)
      refine lv_iadd hx hb dY_sumUpPairs_41 ?_
      obtain ⟨hi42, hf⟩ := lc_chk_some hf
      refine lc_iast hx hb hE hH lc_h25 rfl hi42 dY_sumUpPairs_42 (fun H locs hH => ?_)
      refine lv_aload_n hx hb dY_sumUpPairs_43 rfl (lv_at hl 2 rfl) ?_
      refine lc_getf (d := 6) (q := 26) hx hb hts hown hE hH flY_29 lc_h20 rfl rfl dY_sumUpPairs_44 ?_
      refine lv_iload_n hx hb dY_sumUpPairs_47 rfl (lv_at hl 3 rfl) ?_
      refine lv_aload_n hx hb dY_sumUpPairs_48 rfl (lv_at hl 2 rfl) ?_
      refine lv_lload_n hx hb dY_sumUpPairs_49 rfl (lv_at hl 1 rfl) ?_
      obtain ⟨r50, z50, h50, hf⟩ := lc_bnd_some hf
      refine lc_calli (va_runV (As := [.long x16]) (rest := [.int x1, .ref (lc_ad G 26)]) ⟨hx, hb, hml, hown, hts⟩ (cY_numbersIn l G h50) (lc_cwV hts kvY_56 (lc_room (by decide) (by decide))) (lc_preV hE hH lc_h20 rfl _) rfl rfl hl.1 rfl (lv_room (Nat.le_of_ble_eq_true rfl)) dY_sumUpPairs_50 ⟨Nat.zero_le _, Nat.zero_le _⟩) hH (fun H locs hH => ?_)
      refine lv_aload_n hx hb dY_sumUpPairs_53 rfl (lv_at hl 2 rfl) ?_
      refine lv_lload hx hb dY_sumUpPairs_54 (lv_at hl 0 rfl) ?_
      obtain ⟨r56, z56, h56, hf⟩ := lc_bnd_some hf
      refine lc_calli (va_runV (As := [.long x23]) (rest := [.int r50, .int x1, .ref (lc_ad G 26)]) ⟨hx, hb, hml, hown, hts⟩ (cY_numbersIn l G h56) (lc_cwV hts kvY_56 (lc_room (by decide) (by decide))) (lc_preV hE hH lc_h20 rfl _) rfl rfl hl.1 rfl (lv_room (Nat.le_of_ble_eq_true rfl)) dY_sumUpPairs_56 ⟨Nat.zero_le _, Nat.zero_le _⟩) hH (fun H locs hH => ?_)
      refine lv_iadd hx hb dY_sumUpPairs_59 ?_
      obtain ⟨hi60, hf⟩ := lc_chk_some hf
      refine lc_iast hx hb hE hH lc_h26 rfl hi60 dY_sumUpPairs_60 (fun H locs hH => ?_)
      refine lv_aload_n hx hb dY_sumUpPairs_61 rfl (lv_at hl 2 rfl) ?_
      refine lc_getf (d := 7) (q := 27) hx hb hts hown hE hH flY_32 lc_h20 rfl rfl dY_sumUpPairs_62 ?_
      refine lv_iload_n hx hb dY_sumUpPairs_65 rfl (lv_at hl 3 rfl) ?_
      refine lv_aload_n hx hb dY_sumUpPairs_66 rfl (lv_at hl 2 rfl) ?_
      refine lv_lload_n hx hb dY_sumUpPairs_67 rfl (lv_at hl 1 rfl) ?_
      obtain ⟨r68, z68, h68, hf⟩ := lc_bnd_some hf
      refine lc_calli (va_runV (As := [.long x16]) (rest := [.int x1, .ref (lc_ad G 27)]) ⟨hx, hb, hml, hown, hts⟩ (cY_hasNumber l G h68) (lc_cwV hts kvY_59 (lc_room (by decide) (by decide))) (lc_preV hE hH lc_h20 rfl _) rfl rfl hl.1 rfl (lv_room (Nat.le_of_ble_eq_true rfl)) dY_sumUpPairs_68 ⟨Nat.zero_le _, Nat.zero_le _⟩) hH (fun H locs hH => ?_)
      refine lv_if_ne (tgt := 83) hx hb dY_sumUpPairs_71 (by decide) (fun hc => ?_) (fun hc => ?_)
      · replace hf := lc_ite_neg hc hf
        exact bY_sumUpPairs_83 hx hb hml hr hlocks hown hts hE (fun hf hl hH => ih hf hl hH) hf (lv_sub hl [2, 3, 1, 0] rfl) hH
      · replace hf := lc_ite_pos hc hf
        refine lv_aload_n hx hb dY_sumUpPairs_74 rfl (lv_at hl 2 rfl) ?_
        refine lv_lload hx hb dY_sumUpPairs_75 (lv_at hl 0 rfl) ?_
        obtain ⟨r77, z77, h77, hf⟩ := lc_bnd_some hf
        refine lc_calli (va_runV (As := [.long x23]) (rest := [.int x1, .ref (lc_ad G 27)]) ⟨hx, hb, hml, hown, hts⟩ (cY_hasNumber l G h77) (lc_cwV hts kvY_59 (lc_room (by decide) (by decide))) (lc_preV hE hH lc_h20 rfl _) rfl rfl hl.1 rfl (lv_room (Nat.le_of_ble_eq_true rfl)) dY_sumUpPairs_77 ⟨Nat.zero_le _, Nat.zero_le _⟩) hH (fun H locs hH => ?_)
        refine lv_if_eq (tgt := 87) hx hb dY_sumUpPairs_80 (by decide) (fun hc => ?_) (fun hc => ?_)
        · replace hf := lc_ite_pos hc hf
          refine lv_iconst (v := 0) hx hb dY_sumUpPairs_87 (by decide) ?_
          exact bY_sumUpPairs_88 hx hb hml hr hlocks hown hts hE (fun hf hl hH => ih hf hl hH) hf (lv_sub hl [2, 3, 1, 0] rfl) hH
        · replace hf := lc_ite_neg hc hf
          exact bY_sumUpPairs_83 hx hb hml hr hlocks hown hts hE (fun hf hl hH => ih hf hl hH) hf (lv_sub hl [2, 3, 1, 0] rfl) hH
set_option maxHeartbeats 4000000 in
set_option maxRecDepth 100000 in
theorem cY_sumUpPairs (l : Launch) (G : lc_G) {r : Unit} {z z' : lc_S} (hf : fY_sumUpPairs z = some (r, z')) : lc_M l G yY_sumUpPairs wY_sumUpPairs 2 [.ref (lc_ad G 20)] z none z' := by
  refine lc_M_of (cc := prog_4_method_12_code) (maxL := 6) (ret := none) (own := "LinearCells$Memory") (by decide) rfl (fun w h => List.mem_cons_of_mem _ h) (Nat.le_of_ble_eq_true rfl) rfl ?_
  intro p e s m below meth c hx hb hml hr hlocks hown hts hE ls hl hH
  replace hl : lv_has ls 6 [(0, .ref (lc_ad G 20))] := hl
  rw [fY_sumUpPairs] at hf
  refine lv_iconst (v := 0) hx hb dY_sumUpPairs_0 (by decide) ?_
  refine lv_istore_n hx hb dY_sumUpPairs_1 rfl hl (by decide) rfl (fun ls hl => ?_)
  replace hl : lv_has ls 6 [(1, .int 0), (0, .ref (lc_ad G 20))] := hl
  exact bY_sumUpPairs_2 hx hb hml hr hlocks hown hts hE _ hf (lv_sub hl [1, 0] rfl) hH
