theorem dK_isUsedWell_0 : decode prog_2_method_10_code 0 = .ok (.aload_n 0, 1) := by decide +kernel
theorem dK_isUsedWell_1 : decode prog_2_method_10_code 1 = .ok (.getfield 12, 3) := by decide +kernel
theorem dK_isUsedWell_4 : decode prog_2_method_10_code 4 = .ok (.aload_n 0, 1) := by decide +kernel
theorem dK_isUsedWell_5 : decode prog_2_method_10_code 5 = .ok (.getfield 12, 3) := by decide +kernel
theorem dK_isUsedWell_8 : decode prog_2_method_10_code 8 = .ok (.aload_n 0, 1) := by decide +kernel
theorem dK_isUsedWell_9 : decode prog_2_method_10_code 9 = .ok (.iload_n 1, 1) := by decide +kernel
theorem dK_isUsedWell_10 : decode prog_2_method_10_code 10 = .ok (.invokevirtual 99, 3) := by decide +kernel
theorem dK_isUsedWell_13 : decode prog_2_method_10_code 13 = .ok (.iload_n 2, 1) := by decide +kernel
theorem dK_isUsedWell_14 : decode prog_2_method_10_code 14 = .ok (.invokevirtual 105, 3) := by decide +kernel
theorem dK_isUsedWell_17 : decode prog_2_method_10_code 17 = .ok (.invokevirtual 126, 3) := by decide +kernel
theorem dK_isUsedWell_20 : decode prog_2_method_10_code 20 = .ok (.ifCond .eq 14, 3) := by decide +kernel
theorem dK_isUsedWell_23 : decode prog_2_method_10_code 23 = .ok (.aload_n 0, 1) := by decide +kernel
theorem dK_isUsedWell_24 : decode prog_2_method_10_code 24 = .ok (.iload_n 1, 1) := by decide +kernel
theorem dK_isUsedWell_25 : decode prog_2_method_10_code 25 = .ok (.iload_n 2, 1) := by decide +kernel
theorem dK_isUsedWell_26 : decode prog_2_method_10_code 26 = .ok (.iload_n 3, 1) := by decide +kernel
theorem dK_isUsedWell_27 : decode prog_2_method_10_code 27 = .ok (.invokevirtual 129, 3) := by decide +kernel
theorem dK_isUsedWell_30 : decode prog_2_method_10_code 30 = .ok (.iconst 1, 1) := by decide +kernel
theorem dK_isUsedWell_31 : decode prog_2_method_10_code 31 = .ok (.if_icmp .ne 7, 3) := by decide +kernel
theorem dK_isUsedWell_34 : decode prog_2_method_10_code 34 = .ok (.iconst 1, 1) := by decide +kernel
theorem dK_isUsedWell_35 : decode prog_2_method_10_code 35 = .ok (.goto 4, 3) := by decide +kernel
theorem dK_isUsedWell_38 : decode prog_2_method_10_code 38 = .ok (.iconst 0, 1) := by decide +kernel
theorem dK_isUsedWell_39 : decode prog_2_method_10_code 39 = .ok (.ireturn, 1) := by decide +kernel
def fK_isUsedWell_34 (z : lc_S) : Option ((Int32) × lc_S) :=
  some (1, z)
def fK_isUsedWell (a1 : Int32) (a2 : Int32) (a3 : Int32) (z : lc_S) : Option ((Int32) × lc_S) :=
  lc_bnd (fK_typeOfBound a1 z) (fun r10 z10 => lc_bnd (fT_partOf r10 a2 z10) (fun r14 z14 => lc_bnd (fT_isLinear r14 z14) (fun r17 z17 => if r17 = 0 then (fK_isUsedWell_34 z17) else (lc_bnd (fK_usesOf a1 a2 a3 z17) (fun r27 z27 => if r27 = 1 then (fK_isUsedWell_34 z27) else (some (0, z27)))))))
set_option maxHeartbeats 4000000 in
set_option maxRecDepth 100000 in
theorem bK_isUsedWell_34 {p : Program} {l : Launch} {e : Env} {s : State} {m : MethodId} {args : Array Value} {below : List Frame} {meth : Method} {c : Code} {G : lc_G} (hx : p.tables.exec = Jvm.exec) (hb : c.code = prog_2_method_10_code) (hml : c.maxLocals = 4) (hr : meth.sig.returnType = (some .boolean)) (hlocks : meth.locks = false) (hown : s.vm.findClass "LinearCells$Checker" = some m.cls) (hts : ∀ w ∈ lc_ALL, w.before args s = true) (hE : lc_E G s) {r : Int32} {z' : lc_S} : ∀ {z : lc_S} {H : Heap} {locs : List Loc} {ls : Array Slot}, fK_isUsedWell_34 z = some (r, z') → lv_has ls 4 [] → lc_H G z s.heap H locs → W p l e (lc_rm 2) s m args below meth c H locs 0 0 (MQ below (lc_Q G (some (.int r)) z') args s 0 0 (lc_A G)) (F0 m 34 ls []) := by
  intro z H locs ls hf hl hH
  rw [fK_isUsedWell_34] at hf
  refine lv_iconst (v := 1) hx hb dK_isUsedWell_34 (by decide) ?_
  refine lv_goto (tgt := 39) hx hb dK_isUsedWell_35 (by decide) ?_
  exact lc_zret hx hb hr hlocks (by decide) hH hf dK_isUsedWell_39
set_option maxHeartbeats 4000000 in
set_option maxRecDepth 100000 in
theorem cK_isUsedWell (l : Launch) (G : lc_G) {a1 : Int32} {a2 : Int32} {a3 : Int32} {r : Int32} {z z' : lc_S} (hf : fK_isUsedWell a1 a2 a3 z = some (r, z')) : lc_M l G yK_isUsedWell wK_isUsedWell 2 [.ref (lc_ad G 8), .int a1, .int a2, .int a3] z (some (.int r)) z' := by
  refine lc_M_of (cc := prog_2_method_10_code) (maxL := 4) (ret := (some .boolean)) (own := "LinearCells$Checker") (by decide) rfl (fun w h => List.mem_cons_of_mem _ h) (Nat.le_of_ble_eq_true rfl) rfl ?_
  intro p e s m below meth c hx hb hml hr hlocks hown hts hE ls hl hH
  replace hl : lv_has ls 4 [(0, .ref (lc_ad G 8)), (1, .int a1), (2, .int a2), (3, .int a3)] := hl
  rw [fK_isUsedWell] at hf
  refine lv_aload_n hx hb dK_isUsedWell_0 rfl (lv_at hl 0 rfl) ?_
  refine lc_getf (d := 1) (q := 9) hx hb hts hown hE hH flK_12 lc_h8 rfl rfl dK_isUsedWell_1 ?_
  refine lv_aload_n hx hb dK_isUsedWell_4 rfl (lv_at hl 0 rfl) ?_
  refine lc_getf (d := 1) (q := 9) hx hb hts hown hE hH flK_12 lc_h8 rfl rfl dK_isUsedWell_5 ?_
  refine lv_aload_n hx hb dK_isUsedWell_8 rfl (lv_at hl 0 rfl) ?_
  refine lv_iload_n hx hb dK_isUsedWell_9 rfl (lv_at hl 1 rfl) ?_
  obtain ⟨r10, z10, h10, hf⟩ := lc_bnd_some hf
  refine lc_calli (va_runV (As := [.int a1]) (rest := [.ref (lc_ad G 9), .ref (lc_ad G 9)]) ⟨hx, hb, hml, hown, hts⟩ (cK_typeOfBound l G h10) (lc_cwV hts kvK_99 (lc_room (by decide) (by decide))) (lc_preV hE hH lc_h8 rfl _) rfl rfl hl.1 rfl (lv_room (Nat.le_of_ble_eq_true rfl)) dK_isUsedWell_10 ⟨Nat.zero_le _, Nat.zero_le _⟩) hH (fun H locs hH => ?_)
  refine lv_iload_n hx hb dK_isUsedWell_13 rfl (lv_at hl 2 rfl) ?_
  obtain ⟨r14, z14, h14, hf⟩ := lc_bnd_some hf
  refine lc_calli (va_runV (As := [.int r10, .int a2]) (rest := [.ref (lc_ad G 9)]) ⟨hx, hb, hml, hown, hts⟩ (cT_partOf l G h14) (lc_cwV hts kvK_105 (lc_room (by decide) (by decide))) (lc_preV hE hH lc_h9 rfl _) rfl rfl hl.1 rfl (lv_room (Nat.le_of_ble_eq_true rfl)) dK_isUsedWell_14 ⟨Nat.zero_le _, Nat.zero_le _⟩) hH (fun H locs hH => ?_)
  obtain ⟨r17, z17, h17, hf⟩ := lc_bnd_some hf
  refine lc_calli (va_runV (As := [.int r14]) (rest := []) ⟨hx, hb, hml, hown, hts⟩ (cT_isLinear l G h17) (lc_cwV hts kvK_126 (lc_room (by decide) (by decide))) (lc_preV hE hH lc_h9 rfl _) rfl rfl hl.1 rfl (lv_room (Nat.le_of_ble_eq_true rfl)) dK_isUsedWell_17 ⟨Nat.zero_le _, Nat.zero_le _⟩) hH (fun H locs hH => ?_)
  refine lv_if_eq (tgt := 34) hx hb dK_isUsedWell_20 (by decide) (fun hc => ?_) (fun hc => ?_)
  · replace hf := lc_ite_pos hc hf
    exact bK_isUsedWell_34 hx hb hml hr hlocks hown hts hE hf (lv_sub hl [] rfl) hH
  · replace hf := lc_ite_neg hc hf
    refine lv_aload_n hx hb dK_isUsedWell_23 rfl (lv_at hl 0 rfl) ?_
    refine lv_iload_n hx hb dK_isUsedWell_24 rfl (lv_at hl 1 rfl) ?_
    refine lv_iload_n hx hb dK_isUsedWell_25 rfl (lv_at hl 2 rfl) ?_
    refine lv_iload_n hx hb dK_isUsedWell_26 rfl (lv_at hl 3 rfl) ?_
    obtain ⟨r27, z27, h27, hf⟩ := lc_bnd_some hf
    refine lc_calli (va_runV (As := [.int a1, .int a2, .int a3]) (rest := []) ⟨hx, hb, hml, hown, hts⟩ (cK_usesOf l G h27) (lc_cwV hts kvK_129 (lc_room (by decide) (by decide))) (lc_preV hE hH lc_h8 rfl _) rfl rfl hl.1 rfl (lv_room (Nat.le_of_ble_eq_true rfl)) dK_isUsedWell_27 ⟨Nat.zero_le _, Nat.zero_le _⟩) hH (fun H locs hH => ?_)
    refine lv_iconst (v := 1) hx hb dK_isUsedWell_30 (by decide) ?_
    refine lv_icmp_ne (tgt := 38) hx hb dK_isUsedWell_31 (by decide) (fun hc => ?_) (fun hc => ?_)
    · replace hf := lc_ite_neg hc hf
      refine lv_iconst (v := 0) hx hb dK_isUsedWell_38 (by decide) ?_
      exact lc_zret hx hb hr hlocks (by decide) hH hf dK_isUsedWell_39
    · replace hf := lc_ite_pos hc hf
      exact bK_isUsedWell_34 hx hb hml hr hlocks hown hts hE hf (lv_sub hl [] rfl) hH
theorem dK_eachVariableIsUsedWell_0 : decode prog_2_method_9_code 0 = .ok (.aload_n 0, 1) := by decide +kernel
theorem dK_eachVariableIsUsedWell_1 : decode prog_2_method_9_code 1 = .ok (.iconst 0, 1) := by decide +kernel
theorem dK_eachVariableIsUsedWell_2 : decode prog_2_method_9_code 2 = .ok (.iconst 0, 1) := by decide +kernel
theorem dK_eachVariableIsUsedWell_3 : decode prog_2_method_9_code 3 = .ok (.aload_n 0, 1) := by decide +kernel
theorem dK_eachVariableIsUsedWell_4 : decode prog_2_method_9_code 4 = .ok (.getfield 57, 3) := by decide +kernel
theorem dK_eachVariableIsUsedWell_7 : decode prog_2_method_9_code 7 = .ok (.invokevirtual 67, 3) := by decide +kernel
theorem dK_eachVariableIsUsedWell_10 : decode prog_2_method_9_code 10 = .ok (.invokevirtual 122, 3) := by decide +kernel
theorem dK_eachVariableIsUsedWell_13 : decode prog_2_method_9_code 13 = .ok (.ifCond .ne 5, 3) := by decide +kernel
theorem dK_eachVariableIsUsedWell_16 : decode prog_2_method_9_code 16 = .ok (.iconst 0, 1) := by decide +kernel
theorem dK_eachVariableIsUsedWell_17 : decode prog_2_method_9_code 17 = .ok (.ireturn, 1) := by decide +kernel
theorem dK_eachVariableIsUsedWell_18 : decode prog_2_method_9_code 18 = .ok (.iconst 0, 1) := by decide +kernel
theorem dK_eachVariableIsUsedWell_19 : decode prog_2_method_9_code 19 = .ok (.istore_n 1, 1) := by decide +kernel
theorem dK_eachVariableIsUsedWell_20 : decode prog_2_method_9_code 20 = .ok (.iload_n 1, 1) := by decide +kernel
theorem dK_eachVariableIsUsedWell_21 : decode prog_2_method_9_code 21 = .ok (.aload_n 0, 1) := by decide +kernel
theorem dK_eachVariableIsUsedWell_22 : decode prog_2_method_9_code 22 = .ok (.getfield 57, 3) := by decide +kernel
theorem dK_eachVariableIsUsedWell_25 : decode prog_2_method_9_code 25 = .ok (.getfield 61, 3) := by decide +kernel
theorem dK_eachVariableIsUsedWell_28 : decode prog_2_method_9_code 28 = .ok (.if_icmp .ge 91, 3) := by decide +kernel
theorem dK_eachVariableIsUsedWell_31 : decode prog_2_method_9_code 31 = .ok (.aload_n 0, 1) := by decide +kernel
theorem dK_eachVariableIsUsedWell_32 : decode prog_2_method_9_code 32 = .ok (.getfield 57, 3) := by decide +kernel
theorem dK_eachVariableIsUsedWell_35 : decode prog_2_method_9_code 35 = .ok (.getfield 96, 3) := by decide +kernel
theorem dK_eachVariableIsUsedWell_38 : decode prog_2_method_9_code 38 = .ok (.iload_n 1, 1) := by decide +kernel
theorem dK_eachVariableIsUsedWell_39 : decode prog_2_method_9_code 39 = .ok (.iaload, 1) := by decide +kernel
theorem dK_eachVariableIsUsedWell_40 : decode prog_2_method_9_code 40 = .ok (.istore_n 2, 1) := by decide +kernel
theorem dK_eachVariableIsUsedWell_41 : decode prog_2_method_9_code 41 = .ok (.aload_n 0, 1) := by decide +kernel
theorem dK_eachVariableIsUsedWell_42 : decode prog_2_method_9_code 42 = .ok (.getfield 57, 3) := by decide +kernel
theorem dK_eachVariableIsUsedWell_45 : decode prog_2_method_9_code 45 = .ok (.getfield 90, 3) := by decide +kernel
theorem dK_eachVariableIsUsedWell_48 : decode prog_2_method_9_code 48 = .ok (.iload_n 1, 1) := by decide +kernel
theorem dK_eachVariableIsUsedWell_49 : decode prog_2_method_9_code 49 = .ok (.iaload, 1) := by decide +kernel
theorem dK_eachVariableIsUsedWell_50 : decode prog_2_method_9_code 50 = .ok (.istore_n 3, 1) := by decide +kernel
theorem dK_eachVariableIsUsedWell_51 : decode prog_2_method_9_code 51 = .ok (.aload_n 0, 1) := by decide +kernel
theorem dK_eachVariableIsUsedWell_52 : decode prog_2_method_9_code 52 = .ok (.getfield 57, 3) := by decide +kernel
theorem dK_eachVariableIsUsedWell_55 : decode prog_2_method_9_code 55 = .ok (.getfield 93, 3) := by decide +kernel
theorem dK_eachVariableIsUsedWell_58 : decode prog_2_method_9_code 58 = .ok (.iload_n 1, 1) := by decide +kernel
theorem dK_eachVariableIsUsedWell_59 : decode prog_2_method_9_code 59 = .ok (.iaload, 1) := by decide +kernel
theorem dK_eachVariableIsUsedWell_60 : decode prog_2_method_9_code 60 = .ok (.bipush 58, 2) := by decide +kernel
theorem dK_eachVariableIsUsedWell_62 : decode prog_2_method_9_code 62 = .ok (.if_icmp .ne 15, 3) := by decide +kernel
theorem dK_eachVariableIsUsedWell_65 : decode prog_2_method_9_code 65 = .ok (.aload_n 0, 1) := by decide +kernel
theorem dK_eachVariableIsUsedWell_66 : decode prog_2_method_9_code 66 = .ok (.iload_n 2, 1) := by decide +kernel
theorem dK_eachVariableIsUsedWell_67 : decode prog_2_method_9_code 67 = .ok (.iconst 0, 1) := by decide +kernel
theorem dK_eachVariableIsUsedWell_68 : decode prog_2_method_9_code 68 = .ok (.iload_n 3, 1) := by decide +kernel
theorem dK_eachVariableIsUsedWell_69 : decode prog_2_method_9_code 69 = .ok (.invokevirtual 122, 3) := by decide +kernel
theorem dK_eachVariableIsUsedWell_72 : decode prog_2_method_9_code 72 = .ok (.ifCond .ne 5, 3) := by decide +kernel
theorem dK_eachVariableIsUsedWell_75 : decode prog_2_method_9_code 75 = .ok (.iconst 0, 1) := by decide +kernel
theorem dK_eachVariableIsUsedWell_76 : decode prog_2_method_9_code 76 = .ok (.ireturn, 1) := by decide +kernel
theorem dK_eachVariableIsUsedWell_77 : decode prog_2_method_9_code 77 = .ok (.aload_n 0, 1) := by decide +kernel
theorem dK_eachVariableIsUsedWell_78 : decode prog_2_method_9_code 78 = .ok (.getfield 57, 3) := by decide +kernel
theorem dK_eachVariableIsUsedWell_81 : decode prog_2_method_9_code 81 = .ok (.getfield 93, 3) := by decide +kernel
theorem dK_eachVariableIsUsedWell_84 : decode prog_2_method_9_code 84 = .ok (.iload_n 1, 1) := by decide +kernel
theorem dK_eachVariableIsUsedWell_85 : decode prog_2_method_9_code 85 = .ok (.iaload, 1) := by decide +kernel
theorem dK_eachVariableIsUsedWell_86 : decode prog_2_method_9_code 86 = .ok (.bipush 47, 2) := by decide +kernel
theorem dK_eachVariableIsUsedWell_88 : decode prog_2_method_9_code 88 = .ok (.if_icmp .ne 25, 3) := by decide +kernel
theorem dK_eachVariableIsUsedWell_91 : decode prog_2_method_9_code 91 = .ok (.aload_n 0, 1) := by decide +kernel
theorem dK_eachVariableIsUsedWell_92 : decode prog_2_method_9_code 92 = .ok (.iload_n 2, 1) := by decide +kernel
theorem dK_eachVariableIsUsedWell_93 : decode prog_2_method_9_code 93 = .ok (.iconst 1, 1) := by decide +kernel
theorem dK_eachVariableIsUsedWell_94 : decode prog_2_method_9_code 94 = .ok (.iload_n 3, 1) := by decide +kernel
theorem dK_eachVariableIsUsedWell_95 : decode prog_2_method_9_code 95 = .ok (.invokevirtual 122, 3) := by decide +kernel
theorem dK_eachVariableIsUsedWell_98 : decode prog_2_method_9_code 98 = .ok (.ifCond .eq 13, 3) := by decide +kernel
theorem dK_eachVariableIsUsedWell_101 : decode prog_2_method_9_code 101 = .ok (.aload_n 0, 1) := by decide +kernel
theorem dK_eachVariableIsUsedWell_102 : decode prog_2_method_9_code 102 = .ok (.iload_n 2, 1) := by decide +kernel
theorem dK_eachVariableIsUsedWell_103 : decode prog_2_method_9_code 103 = .ok (.iconst 2, 1) := by decide +kernel
theorem dK_eachVariableIsUsedWell_104 : decode prog_2_method_9_code 104 = .ok (.iload_n 3, 1) := by decide +kernel
theorem dK_eachVariableIsUsedWell_105 : decode prog_2_method_9_code 105 = .ok (.invokevirtual 122, 3) := by decide +kernel
theorem dK_eachVariableIsUsedWell_108 : decode prog_2_method_9_code 108 = .ok (.ifCond .ne 5, 3) := by decide +kernel
theorem dK_eachVariableIsUsedWell_111 : decode prog_2_method_9_code 111 = .ok (.iconst 0, 1) := by decide +kernel
theorem dK_eachVariableIsUsedWell_112 : decode prog_2_method_9_code 112 = .ok (.ireturn, 1) := by decide +kernel
theorem dK_eachVariableIsUsedWell_113 : decode prog_2_method_9_code 113 = .ok (.iinc 1 1, 3) := by decide +kernel
theorem dK_eachVariableIsUsedWell_116 : decode prog_2_method_9_code 116 = .ok (.goto (-96), 3) := by decide +kernel
theorem dK_eachVariableIsUsedWell_119 : decode prog_2_method_9_code 119 = .ok (.iconst 1, 1) := by decide +kernel
theorem dK_eachVariableIsUsedWell_120 : decode prog_2_method_9_code 120 = .ok (.ireturn, 1) := by decide +kernel
def fK_eachVariableIsUsedWell_111 (z : lc_S) : Option ((Int32) × lc_S) :=
  some (0, z)
def fK_eachVariableIsUsedWell_113 (k20 : Int32 → lc_S → Option ((Int32) × lc_S)) (x1 : Int32) (z : lc_S) : Option ((Int32) × lc_S) :=
  lc_let (x1 + 1) (fun x113 => k20 x113 z)
def fK_eachVariableIsUsedWell_77 (k20 : Int32 → lc_S → Option ((Int32) × lc_S)) (x1 : Int32) (x2 : Int32) (x3 : Int32) (z : lc_S) : Option ((Int32) × lc_S) :=
  lc_bnr (lcR z 8 4) (fun q78 => lc_chk (lc_sh q78 = (0, 1, 0)) (lc_chk (lc_in x1 120) (if (lcI z (q78 + 2) x1.toNatClampNeg) = 47 then (lc_bnd (fK_isUsedWell x2 1 x3 z) (fun r95 z95 => if r95 = 0 then (fK_eachVariableIsUsedWell_111 z95) else (lc_bnd (fK_isUsedWell x2 2 x3 z95) (fun r105 z105 => if r105 = 0 then (fK_eachVariableIsUsedWell_111 z105) else (fK_eachVariableIsUsedWell_113 k20 x1 z105))))) else (fK_eachVariableIsUsedWell_113 k20 x1 z))))
def fK_eachVariableIsUsedWell_20 : Nat → Int32 → lc_S → Option ((Int32) × lc_S)
  | 0, _, _ => none
  | n + 1, x1, z => lc_bnr (lcR z 8 4) (fun q22 => lc_chk (lc_sh q22 = (0, 1, 0)) (if (lcI z q22 11) ≤ x1 then (some (1, z)) else (lc_bnr (lcR z 8 4) (fun q32 => lc_chk (lc_sh q32 = (0, 1, 0)) (lc_chk (lc_in x1 120) (lc_let (lcI z (q32 + 7) x1.toNatClampNeg) (fun x40 => lc_bnr (lcR z 8 4) (fun q42 => lc_chk (lc_sh q42 = (0, 1, 0)) (lc_chk (lc_in x1 120) (lc_let (lcI z (q42 + 4) x1.toNatClampNeg) (fun x50 => lc_bnr (lcR z 8 4) (fun q52 => lc_chk (lc_sh q52 = (0, 1, 0)) (lc_chk (lc_in x1 120) (if (lcI z (q52 + 2) x1.toNatClampNeg) = 58 then (lc_bnd (fK_isUsedWell x40 0 x50 z) (fun r69 z69 => if r69 = 0 then (some (0, z69)) else (fK_eachVariableIsUsedWell_77 (fK_eachVariableIsUsedWell_20 n) x1 x40 x50 z69))) else (fK_eachVariableIsUsedWell_77 (fK_eachVariableIsUsedWell_20 n) x1 x40 x50 z)))))))))))))))
def fK_eachVariableIsUsedWell (z : lc_S) : Option ((Int32) × lc_S) :=
  lc_bnr (lcR z 8 4) (fun q4 => lc_chk (lc_sh q4 = (0, 1, 0)) (lc_bnd (fP_body q4 z) (fun r7 z7 => lc_bnd (fK_isUsedWell 0 0 r7 z7) (fun r10 z10 => if r10 = 0 then (some (0, z10)) else (fK_eachVariableIsUsedWell_20 lc_FU 0 z10)))))
set_option maxHeartbeats 4000000 in
set_option maxRecDepth 100000 in
theorem bK_eachVariableIsUsedWell_111 {p : Program} {l : Launch} {e : Env} {s : State} {m : MethodId} {args : Array Value} {below : List Frame} {meth : Method} {c : Code} {G : lc_G} (hx : p.tables.exec = Jvm.exec) (hb : c.code = prog_2_method_9_code) (hml : c.maxLocals = 4) (hr : meth.sig.returnType = (some .boolean)) (hlocks : meth.locks = false) (hown : s.vm.findClass "LinearCells$Checker" = some m.cls) (hts : ∀ w ∈ lc_ALL, w.before args s = true) (hE : lc_E G s) {r : Int32} {z' : lc_S} : ∀ {z : lc_S} {H : Heap} {locs : List Loc} {ls : Array Slot}, fK_eachVariableIsUsedWell_111 z = some (r, z') → lv_has ls 4 [] → lc_H G z s.heap H locs → W p l e (lc_rm 3) s m args below meth c H locs 0 0 (MQ below (lc_Q G (some (.int r)) z') args s 0 0 (lc_A G)) (F0 m 111 ls []) := by
  intro z H locs ls hf hl hH
  rw [fK_eachVariableIsUsedWell_111] at hf
  refine lv_iconst (v := 0) hx hb dK_eachVariableIsUsedWell_111 (by decide) ?_
  exact lc_zret hx hb hr hlocks (by decide) hH hf dK_eachVariableIsUsedWell_112
set_option maxHeartbeats 4000000 in
set_option maxRecDepth 100000 in
theorem bK_eachVariableIsUsedWell_113 {p : Program} {l : Launch} {e : Env} {s : State} {m : MethodId} {args : Array Value} {below : List Frame} {meth : Method} {c : Code} {G : lc_G} (hx : p.tables.exec = Jvm.exec) (hb : c.code = prog_2_method_9_code) (hml : c.maxLocals = 4) (hr : meth.sig.returnType = (some .boolean)) (hlocks : meth.locks = false) (hown : s.vm.findClass "LinearCells$Checker" = some m.cls) (hts : ∀ w ∈ lc_ALL, w.before args s = true) (hE : lc_E G s) {k20 : Int32 → lc_S → Option ((Int32) × lc_S)} {r : Int32} {z' : lc_S} (hk20 : ∀ {x1 : Int32} {z : lc_S} {H : Heap} {locs : List Loc} {ls : Array Slot}, k20 x1 z = some (r, z') → lv_has ls 4 [(0, .ref (lc_ad G 8)), (1, .int x1)] → lc_H G z s.heap H locs → W p l e (lc_rm 3) s m args below meth c H locs 0 0 (MQ below (lc_Q G (some (.int r)) z') args s 0 0 (lc_A G)) (F0 m 20 ls [])) : ∀ {x1 : Int32} {z : lc_S} {H : Heap} {locs : List Loc} {ls : Array Slot}, fK_eachVariableIsUsedWell_113 k20 x1 z = some (r, z') → lv_has ls 4 [(0, .ref (lc_ad G 8)), (1, .int x1)] → lc_H G z s.heap H locs → W p l e (lc_rm 3) s m args below meth c H locs 0 0 (MQ below (lc_Q G (some (.int r)) z') args s 0 0 (lc_A G)) (F0 m 113 ls []) := by
  intro x1 z H locs ls hf hl hH
  rw [fK_eachVariableIsUsedWell_113] at hf
  obtain ⟨x113, e113⟩ : ∃ x : Int32, x = x1 + 1 := ⟨_, rfl⟩
  replace hf := lc_let_of e113 hf
  refine lv_iinc (k := 1) (v := x113) hx hb dK_eachVariableIsUsedWell_113 hl rfl ((lc_incv _ (by decide)).trans e113.symm) (by decide) rfl (fun ls hl => ?_)
  replace hl : lv_has ls 4 [(1, .int x113), (0, .ref (lc_ad G 8))] := hl
  refine lv_goto (tgt := 20) hx hb dK_eachVariableIsUsedWell_116 (by decide) ?_
  exact hk20 hf (lv_sub hl [1, 0] rfl) hH
set_option maxHeartbeats 4000000 in
set_option maxRecDepth 100000 in
theorem bK_eachVariableIsUsedWell_77 {p : Program} {l : Launch} {e : Env} {s : State} {m : MethodId} {args : Array Value} {below : List Frame} {meth : Method} {c : Code} {G : lc_G} (hx : p.tables.exec = Jvm.exec) (hb : c.code = prog_2_method_9_code) (hml : c.maxLocals = 4) (hr : meth.sig.returnType = (some .boolean)) (hlocks : meth.locks = false) (hown : s.vm.findClass "LinearCells$Checker" = some m.cls) (hts : ∀ w ∈ lc_ALL, w.before args s = true) (hE : lc_E G s) {k20 : Int32 → lc_S → Option ((Int32) × lc_S)} {r : Int32} {z' : lc_S} (hk20 : ∀ {x1 : Int32} {z : lc_S} {H : Heap} {locs : List Loc} {ls : Array Slot}, k20 x1 z = some (r, z') → lv_has ls 4 [(0, .ref (lc_ad G 8)), (1, .int x1)] → lc_H G z s.heap H locs → W p l e (lc_rm 3) s m args below meth c H locs 0 0 (MQ below (lc_Q G (some (.int r)) z') args s 0 0 (lc_A G)) (F0 m 20 ls [])) : ∀ {x1 : Int32} {x2 : Int32} {x3 : Int32} {z : lc_S} {H : Heap} {locs : List Loc} {ls : Array Slot}, fK_eachVariableIsUsedWell_77 k20 x1 x2 x3 z = some (r, z') → lv_has ls 4 [(0, .ref (lc_ad G 8)), (1, .int x1), (2, .int x2), (3, .int x3)] → lc_H G z s.heap H locs → W p l e (lc_rm 3) s m args below meth c H locs 0 0 (MQ below (lc_Q G (some (.int r)) z') args s 0 0 (lc_A G)) (F0 m 77 ls []) := by
  intro x1 x2 x3 z H locs ls hf hl hH
  rw [fK_eachVariableIsUsedWell_77] at hf
  refine lv_aload_n hx hb dK_eachVariableIsUsedWell_77 rfl (lv_at hl 0 rfl) ?_
  obtain ⟨q78, hq78, hf⟩ := lc_bnr_some hf
  refine lc_getr hx hb hts hown hE hH flK_57 lc_h8 rfl hq78 dK_eachVariableIsUsedWell_78 ?_
  obtain ⟨hs81_0, hf⟩ := lc_chk_some hf
  refine lc_getf (d := 2) (q := q78 + 2) hx hb hts hown hE hH flK_93 hs81_0 rfl rfl dK_eachVariableIsUsedWell_81 ?_
  refine lv_iload_n hx hb dK_eachVariableIsUsedWell_84 rfl (lv_at hl 1 rfl) ?_
  obtain ⟨hi85, hf⟩ := lc_chk_some hf
  refine lc_iald hx hb hE hH (lc_pr2 hs81_0) rfl hi85 dK_eachVariableIsUsedWell_85 ?_
  refine lv_bipush (v := 47) hx hb dK_eachVariableIsUsedWell_86 (by decide) ?_
  refine lv_icmp_ne (tgt := 113) hx hb dK_eachVariableIsUsedWell_88 (by decide) (fun hc => ?_) (fun hc => ?_)
  · replace hf := lc_ite_neg hc hf
    exact bK_eachVariableIsUsedWell_113 hx hb hml hr hlocks hown hts hE (fun hf hl hH => hk20 hf hl hH) hf (lv_sub hl [0, 1] rfl) hH
  · replace hf := lc_ite_pos hc hf
    refine lv_aload_n hx hb dK_eachVariableIsUsedWell_91 rfl (lv_at hl 0 rfl) ?_
    refine lv_iload_n hx hb dK_eachVariableIsUsedWell_92 rfl (lv_at hl 2 rfl) ?_
    refine lv_iconst (v := 1) hx hb dK_eachVariableIsUsedWell_93 (by decide) ?_
    refine lv_iload_n hx hb dK_eachVariableIsUsedWell_94 rfl (lv_at hl 3 rfl) ?_
    obtain ⟨r95, z95, h95, hf⟩ := lc_bnd_some hf
    refine lc_calli (va_runV (As := [.int x2, .int 1, .int x3]) (rest := []) ⟨hx, hb, hml, hown, hts⟩ (cK_isUsedWell l G h95) (lc_cwV hts kvK_122 (lc_room (by decide) (by decide))) (lc_preV hE hH lc_h8 rfl _) rfl rfl hl.1 rfl (lv_room (Nat.le_of_ble_eq_true rfl)) dK_eachVariableIsUsedWell_95 ⟨Nat.zero_le _, Nat.zero_le _⟩) hH (fun H locs hH => ?_)
    refine lv_if_eq (tgt := 111) hx hb dK_eachVariableIsUsedWell_98 (by decide) (fun hc => ?_) (fun hc => ?_)
    · replace hf := lc_ite_pos hc hf
      exact bK_eachVariableIsUsedWell_111 hx hb hml hr hlocks hown hts hE hf (lv_sub hl [] rfl) hH
    · replace hf := lc_ite_neg hc hf
      refine lv_aload_n hx hb dK_eachVariableIsUsedWell_101 rfl (lv_at hl 0 rfl) ?_
      refine lv_iload_n hx hb dK_eachVariableIsUsedWell_102 rfl (lv_at hl 2 rfl) ?_
      refine lv_iconst (v := 2) hx hb dK_eachVariableIsUsedWell_103 (by decide) ?_
      refine lv_iload_n hx hb dK_eachVariableIsUsedWell_104 rfl (lv_at hl 3 rfl) ?_
      obtain ⟨r105, z105, h105, hf⟩ := lc_bnd_some hf
      refine lc_calli (va_runV (As := [.int x2, .int 2, .int x3]) (rest := []) ⟨hx, hb, hml, hown, hts⟩ (cK_isUsedWell l G h105) (lc_cwV hts kvK_122 (lc_room (by decide) (by decide))) (lc_preV hE hH lc_h8 rfl _) rfl rfl hl.1 rfl (lv_room (Nat.le_of_ble_eq_true rfl)) dK_eachVariableIsUsedWell_105 ⟨Nat.zero_le _, Nat.zero_le _⟩) hH (fun H locs hH => ?_)
      refine lv_if_ne (tgt := 113) hx hb dK_eachVariableIsUsedWell_108 (by decide) (fun hc => ?_) (fun hc => ?_)
      · replace hf := lc_ite_neg hc hf
        exact bK_eachVariableIsUsedWell_113 hx hb hml hr hlocks hown hts hE (fun hf hl hH => hk20 hf hl hH) hf (lv_sub hl [0, 1] rfl) hH
      · replace hf := lc_ite_pos hc hf
        exact bK_eachVariableIsUsedWell_111 hx hb hml hr hlocks hown hts hE hf (lv_sub hl [] rfl) hH
set_option maxHeartbeats 4000000 in
set_option maxRecDepth 100000 in
theorem bK_eachVariableIsUsedWell_20 {p : Program} {l : Launch} {e : Env} {s : State} {m : MethodId} {args : Array Value} {below : List Frame} {meth : Method} {c : Code} {G : lc_G} (hx : p.tables.exec = Jvm.exec) (hb : c.code = prog_2_method_9_code) (hml : c.maxLocals = 4) (hr : meth.sig.returnType = (some .boolean)) (hlocks : meth.locks = false) (hown : s.vm.findClass "LinearCells$Checker" = some m.cls) (hts : ∀ w ∈ lc_ALL, w.before args s = true) (hE : lc_E G s) {r : Int32} {z' : lc_S} : ∀ (n : Nat) {x1 : Int32} {z : lc_S} {H : Heap} {locs : List Loc} {ls : Array Slot}, fK_eachVariableIsUsedWell_20 n x1 z = some (r, z') → lv_has ls 4 [(0, .ref (lc_ad G 8)), (1, .int x1)] → lc_H G z s.heap H locs → W p l e (lc_rm 3) s m args below meth c H locs 0 0 (MQ below (lc_Q G (some (.int r)) z') args s 0 0 (lc_A G)) (F0 m 20 ls []) := by
  intro n
  induction n with
  | zero =>
    intro x1 z H locs ls hf hl hH
    exact absurd (show (none : Option ((Int32) × lc_S)) = some (r, z') from hf) (fun h => by cases h)
  | succ n ih =>
    intro x1 z H locs ls hf hl hH
    rw [fK_eachVariableIsUsedWell_20] at hf
    refine lv_iload_n hx hb dK_eachVariableIsUsedWell_20 rfl (lv_at hl 1 rfl) ?_
    refine lv_aload_n hx hb dK_eachVariableIsUsedWell_21 rfl (lv_at hl 0 rfl) ?_
    obtain ⟨q22, hq22, hf⟩ := lc_bnr_some hf
    refine lc_getr hx hb hts hown hE hH flK_57 lc_h8 rfl hq22 dK_eachVariableIsUsedWell_22 ?_
    obtain ⟨hs25_0, hf⟩ := lc_chk_some hf
    refine lc_geti hx hb hts hown hE hH flK_61 hs25_0 rfl dK_eachVariableIsUsedWell_25 ?_
    refine lv_icmp_ge (tgt := 119) hx hb dK_eachVariableIsUsedWell_28 (by decide) (fun hc => ?_) (fun hc => ?_)
    · replace hf := lc_ite_pos hc hf
      refine lv_iconst (v := 1) hx hb dK_eachVariableIsUsedWell_119 (by decide) ?_
      exact lc_zret hx hb hr hlocks (by decide) hH hf dK_eachVariableIsUsedWell_120
    · replace hf := lc_ite_neg hc hf
      refine lv_aload_n hx hb dK_eachVariableIsUsedWell_31 rfl (lv_at hl 0 rfl) ?_
      obtain ⟨q32, hq32, hf⟩ := lc_bnr_some hf
      refine lc_getr hx hb hts hown hE hH flK_57 lc_h8 rfl hq32 dK_eachVariableIsUsedWell_32 ?_
      obtain ⟨hs35_0, hf⟩ := lc_chk_some hf
      refine lc_getf (d := 7) (q := q32 + 7) hx hb hts hown hE hH flK_96 hs35_0 rfl rfl dK_eachVariableIsUsedWell_35 ?_
      refine lv_iload_n hx hb dK_eachVariableIsUsedWell_38 rfl (lv_at hl 1 rfl) ?_
      obtain ⟨hi39, hf⟩ := lc_chk_some hf
      refine lc_iald hx hb hE hH (lc_pr7 hs35_0) rfl hi39 dK_eachVariableIsUsedWell_39 ?_
      refine lv_topi (fun x40 e40 => ?_)
      replace hf := lc_let_of e40 hf
      refine lv_istore_n hx hb dK_eachVariableIsUsedWell_40 rfl hl (by decide) rfl (fun ls hl => ?_)
      replace hl : lv_has ls 4 [(2, .int x40), (0, .ref (lc_ad G 8)), (1, .int x1)] := hl
      refine lv_aload_n hx hb dK_eachVariableIsUsedWell_41 rfl (lv_at hl 1 rfl) ?_
      obtain ⟨q42, hq42, hf⟩ := lc_bnr_some hf
      refine lc_getr hx hb hts hown hE hH flK_57 lc_h8 rfl hq42 dK_eachVariableIsUsedWell_42 ?_
      obtain ⟨hs45_0, hf⟩ := lc_chk_some hf
      refine lc_getf (d := 4) (q := q42 + 4) hx hb hts hown hE hH flK_90 hs45_0 rfl rfl dK_eachVariableIsUsedWell_45 ?_
      refine lv_iload_n hx hb dK_eachVariableIsUsedWell_48 rfl (lv_at hl 2 rfl) ?_
      obtain ⟨hi49, hf⟩ := lc_chk_some hf
      refine lc_iald hx hb hE hH (lc_pr4 hs45_0) rfl hi49 dK_eachVariableIsUsedWell_49 ?_
      refine lv_topi (fun x50 e50 => ?_)
      replace hf := lc_let_of e50 hf
      refine lv_istore_n hx hb dK_eachVariableIsUsedWell_50 rfl hl (by decide) rfl (fun ls hl => ?_)
      replace hl : lv_has ls 4 [(3, .int x50), (2, .int x40), (0, .ref (lc_ad G 8)), (1, .int x1)] := hl
      refine lv_aload_n hx hb dK_eachVariableIsUsedWell_51 rfl (lv_at hl 2 rfl) ?_
      obtain ⟨q52, hq52, hf⟩ := lc_bnr_some hf
      refine lc_getr hx hb hts hown hE hH flK_57 lc_h8 rfl hq52 dK_eachVariableIsUsedWell_52 ?_
      obtain ⟨hs55_0, hf⟩ := lc_chk_some hf
      refine lc_getf (d := 2) (q := q52 + 2) hx hb hts hown hE hH flK_93 hs55_0 rfl rfl dK_eachVariableIsUsedWell_55 ?_
      refine lv_iload_n hx hb dK_eachVariableIsUsedWell_58 rfl (lv_at hl 3 rfl) ?_
      obtain ⟨hi59, hf⟩ := lc_chk_some hf
      refine lc_iald hx hb hE hH (lc_pr2 hs55_0) rfl hi59 dK_eachVariableIsUsedWell_59 ?_
      refine lv_bipush (v := 58) hx hb dK_eachVariableIsUsedWell_60 (by decide) ?_
      refine lv_icmp_ne (tgt := 77) hx hb dK_eachVariableIsUsedWell_62 (by decide) (fun hc => ?_) (fun hc => ?_)
      · replace hf := lc_ite_neg hc hf
        exact bK_eachVariableIsUsedWell_77 hx hb hml hr hlocks hown hts hE (fun hf hl hH => ih hf hl hH) hf (lv_sub hl [2, 3, 1, 0] rfl) hH
      · replace hf := lc_ite_pos hc hf
        refine lv_aload_n hx hb dK_eachVariableIsUsedWell_65 rfl (lv_at hl 2 rfl) ?_
        refine lv_iload_n hx hb dK_eachVariableIsUsedWell_66 rfl (lv_at hl 1 rfl) ?_
        refine lv_iconst (v := 0) hx hb dK_eachVariableIsUsedWell_67 (by decide) ?_
        refine lv_iload_n hx hb dK_eachVariableIsUsedWell_68 rfl (lv_at hl 0 rfl) ?_
        obtain ⟨r69, z69, h69, hf⟩ := lc_bnd_some hf
        refine lc_calli (va_runV (As := [.int x40, .int 0, .int x50]) (rest := []) ⟨hx, hb, hml, hown, hts⟩ (cK_isUsedWell l G h69) (lc_cwV hts kvK_122 (lc_room (by decide) (by decide))) (lc_preV hE hH lc_h8 rfl _) rfl rfl hl.1 rfl (lv_room (Nat.le_of_ble_eq_true rfl)) dK_eachVariableIsUsedWell_69 ⟨Nat.zero_le _, Nat.zero_le _⟩) hH (fun H locs hH => ?_)
        refine lv_if_ne (tgt := 77) hx hb dK_eachVariableIsUsedWell_72 (by decide) (fun hc => ?_) (fun hc => ?_)
        · replace hf := lc_ite_neg hc hf
          exact bK_eachVariableIsUsedWell_77 hx hb hml hr hlocks hown hts hE (fun hf hl hH => ih hf hl hH) hf (lv_sub hl [2, 3, 1, 0] rfl) hH
        · replace hf := lc_ite_pos hc hf
          refine lv_iconst (v := 0) hx hb dK_eachVariableIsUsedWell_75 (by decide) ?_
          exact lc_zret hx hb hr hlocks (by decide) hH hf dK_eachVariableIsUsedWell_76
set_option maxHeartbeats 4000000 in
set_option maxRecDepth 100000 in
theorem cK_eachVariableIsUsedWell (l : Launch) (G : lc_G) {r : Int32} {z z' : lc_S} (hf : fK_eachVariableIsUsedWell z = some (r, z')) : lc_M l G yK_eachVariableIsUsedWell wK_eachVariableIsUsedWell 3 [.ref (lc_ad G 8)] z (some (.int r)) z' := by
  refine lc_M_of (cc := prog_2_method_9_code) (maxL := 4) (ret := (some .boolean)) (own := "LinearCells$Checker") (by decide) rfl (fun w h => List.mem_cons_of_mem _ h) (Nat.le_of_ble_eq_true rfl) rfl ?_
  intro p e s m below meth c hx hb hml hr hlocks hown hts hE ls hl hH
  replace hl : lv_has ls 4 [(0, .ref (lc_ad G 8))] := hl
  rw [fK_eachVariableIsUsedWell] at hf
  refine lv_aload_n hx hb dK_eachVariableIsUsedWell_0 rfl (lv_at hl 0 rfl) ?_
  refine lv_iconst (v := 0) hx hb dK_eachVariableIsUsedWell_1 (by decide) ?_
  refine lv_iconst (v := 0) hx hb dK_eachVariableIsUsedWell_2 (by decide) ?_
  refine lv_aload_n hx hb dK_eachVariableIsUsedWell_3 rfl (lv_at hl 0 rfl) ?_
  obtain ⟨q4, hq4, hf⟩ := lc_bnr_some hf
  refine lc_getr hx hb hts hown hE hH flK_57 lc_h8 rfl hq4 dK_eachVariableIsUsedWell_4 ?_
  obtain ⟨hs7_0, hf⟩ := lc_chk_some hf
  obtain ⟨r7, z7, h7, hf⟩ := lc_bnd_some hf
  refine lc_calli (va_runV (As := []) (rest := [.int 0, .int 0, .ref (lc_ad G 8)]) ⟨hx, hb, hml, hown, hts⟩ (cP_body l G h7) (lc_cwV hts kvK_67 (lc_room (by decide) (by decide))) (lc_preV hE hH hs7_0 rfl _) rfl rfl hl.1 rfl (lv_room (Nat.le_of_ble_eq_true rfl)) dK_eachVariableIsUsedWell_7 ⟨Nat.zero_le _, Nat.zero_le _⟩) hH (fun H locs hH => ?_)
  obtain ⟨r10, z10, h10, hf⟩ := lc_bnd_some hf
  refine lc_calli (va_runV (As := [.int 0, .int 0, .int r7]) (rest := []) ⟨hx, hb, hml, hown, hts⟩ (cK_isUsedWell l G h10) (lc_cwV hts kvK_122 (lc_room (by decide) (by decide))) (lc_preV hE hH lc_h8 rfl _) rfl rfl hl.1 rfl (lv_room (Nat.le_of_ble_eq_true rfl)) dK_eachVariableIsUsedWell_10 ⟨Nat.zero_le _, Nat.zero_le _⟩) hH (fun H locs hH => ?_)
  refine lv_if_ne (tgt := 18) hx hb dK_eachVariableIsUsedWell_13 (by decide) (fun hc => ?_) (fun hc => ?_)
  · replace hf := lc_ite_neg hc hf
    refine lv_iconst (v := 0) hx hb dK_eachVariableIsUsedWell_18 (by decide) ?_
    refine lv_istore_n hx hb dK_eachVariableIsUsedWell_19 rfl hl (by decide) rfl (fun ls hl => ?_)
    replace hl : lv_has ls 4 [(1, .int 0), (0, .ref (lc_ad G 8))] := hl
    exact bK_eachVariableIsUsedWell_20 hx hb hml hr hlocks hown hts hE _ hf (lv_sub hl [1, 0] rfl) hH
  · replace hf := lc_ite_pos hc hf
    refine lv_iconst (v := 0) hx hb dK_eachVariableIsUsedWell_16 (by decide) ?_
    exact lc_zret hx hb hr hlocks (by decide) hH hf dK_eachVariableIsUsedWell_17
theorem dK_findsNoFault_0 : decode prog_2_method_3_code 0 = .ok (.aload_n 1, 1) := by decide +kernel
theorem dK_findsNoFault_1 : decode prog_2_method_3_code 1 = .ok (.iload_n 2, 1) := by decide +kernel
theorem dK_findsNoFault_2 : decode prog_2_method_3_code 2 = .ok (.aaload, 1) := by decide +kernel
theorem dK_findsNoFault_3 : decode prog_2_method_3_code 3 = .ok (.getfield 41, 3) := by decide +kernel
theorem dK_findsNoFault_6 : decode prog_2_method_3_code 6 = .ok (.ifCond .ne 5, 3) := by decide +kernel
theorem dK_findsNoFault_9 : decode prog_2_method_3_code 9 = .ok (.iconst 0, 1) := by decide +kernel
theorem dK_findsNoFault_10 : decode prog_2_method_3_code 10 = .ok (.ireturn, 1) := by decide +kernel
theorem dK_findsNoFault_11 : decode prog_2_method_3_code 11 = .ok (.aload_n 0, 1) := by decide +kernel
theorem dK_findsNoFault_12 : decode prog_2_method_3_code 12 = .ok (.aload_n 1, 1) := by decide +kernel
theorem dK_findsNoFault_13 : decode prog_2_method_3_code 13 = .ok (.iload_n 2, 1) := by decide +kernel
theorem dK_findsNoFault_14 : decode prog_2_method_3_code 14 = .ok (.invokevirtual 33, 3) := by decide +kernel
theorem dK_findsNoFault_17 : decode prog_2_method_3_code 17 = .ok (.istore_n 3, 1) := by decide +kernel
theorem dK_findsNoFault_18 : decode prog_2_method_3_code 18 = .ok (.iload_n 3, 1) := by decide +kernel
theorem dK_findsNoFault_19 : decode prog_2_method_3_code 19 = .ok (.ifCond .eq 24, 3) := by decide +kernel
theorem dK_findsNoFault_22 : decode prog_2_method_3_code 22 = .ok (.iload_n 3, 1) := by decide +kernel
theorem dK_findsNoFault_23 : decode prog_2_method_3_code 23 = .ok (.aload_n 0, 1) := by decide +kernel
theorem dK_findsNoFault_24 : decode prog_2_method_3_code 24 = .ok (.getfield 22, 3) := by decide +kernel
theorem dK_findsNoFault_27 : decode prog_2_method_3_code 27 = .ok (.iload_n 2, 1) := by decide +kernel
theorem dK_findsNoFault_28 : decode prog_2_method_3_code 28 = .ok (.iaload, 1) := by decide +kernel
theorem dK_findsNoFault_29 : decode prog_2_method_3_code 29 = .ok (.if_icmp .ne 14, 3) := by decide +kernel
theorem dK_findsNoFault_32 : decode prog_2_method_3_code 32 = .ok (.aload_n 0, 1) := by decide +kernel
theorem dK_findsNoFault_33 : decode prog_2_method_3_code 33 = .ok (.invokevirtual 45, 3) := by decide +kernel
theorem dK_findsNoFault_36 : decode prog_2_method_3_code 36 = .ok (.ifCond .eq 7, 3) := by decide +kernel
theorem dK_findsNoFault_39 : decode prog_2_method_3_code 39 = .ok (.iconst 1, 1) := by decide +kernel
theorem dK_findsNoFault_40 : decode prog_2_method_3_code 40 = .ok (.goto 4, 3) := by decide +kernel
theorem dK_findsNoFault_43 : decode prog_2_method_3_code 43 = .ok (.iconst 0, 1) := by decide +kernel
theorem dK_findsNoFault_44 : decode prog_2_method_3_code 44 = .ok (.ireturn, 1) := by decide +kernel
def fK_findsNoFault_43 (z : lc_S) : Option ((Int32) × lc_S) :=
  some (0, z)
def fK_findsNoFault (a1 : Nat) (a2 : Int32) (z : lc_S) : Option ((Int32) × lc_S) :=
  lc_chk (lc_sh a1 = (3, 4, 4)) (lc_chk (lc_in a2 4) (lc_bnr (lcR z a1 a2.toNatClampNeg) (fun q2 => lc_chk (lc_sh q2 = (0, 1, 0)) (if (lcI z q2 0) = 0 then (some (0, z)) else (lc_bnd (fK_findBodyType a1 a2 z) (fun r14 z14 => if r14 = 0 then (fK_findsNoFault_43 z14) else (lc_chk (lc_in a2 4) (if r14 = (lcI z14 16 a2.toNatClampNeg) then (lc_bnd (fK_eachVariableIsUsedWell z14) (fun r33 z33 => if r33 = 0 then (fK_findsNoFault_43 z33) else (some (1, z33)))) else (fK_findsNoFault_43 z14)))))))))
set_option maxHeartbeats 4000000 in
set_option maxRecDepth 100000 in
theorem bK_findsNoFault_43 {p : Program} {l : Launch} {e : Env} {s : State} {m : MethodId} {args : Array Value} {below : List Frame} {meth : Method} {c : Code} {G : lc_G} (hx : p.tables.exec = Jvm.exec) (hb : c.code = prog_2_method_3_code) (hml : c.maxLocals = 4) (hr : meth.sig.returnType = (some .boolean)) (hlocks : meth.locks = false) (hown : s.vm.findClass "LinearCells$Checker" = some m.cls) (hts : ∀ w ∈ lc_ALL, w.before args s = true) (hE : lc_E G s) {r : Int32} {z' : lc_S} : ∀ {z : lc_S} {H : Heap} {locs : List Loc} {ls : Array Slot}, fK_findsNoFault_43 z = some (r, z') → lv_has ls 4 [] → lc_H G z s.heap H locs → W p l e (lc_rm 4) s m args below meth c H locs 0 0 (MQ below (lc_Q G (some (.int r)) z') args s 0 0 (lc_A G)) (F0 m 43 ls []) := by
  intro z H locs ls hf hl hH
  rw [fK_findsNoFault_43] at hf
  refine lv_iconst (v := 0) hx hb dK_findsNoFault_43 (by decide) ?_
  exact lc_zret hx hb hr hlocks (by decide) hH hf dK_findsNoFault_44
set_option maxHeartbeats 4000000 in
set_option maxRecDepth 100000 in
theorem cK_findsNoFault (l : Launch) (G : lc_G) {a1 : Nat} {a2 : Int32} {r : Int32} {z z' : lc_S} (hf : fK_findsNoFault a1 a2 z = some (r, z')) : lc_M l G yK_findsNoFault wK_findsNoFault 4 [.ref (lc_ad G 8), .ref (lc_ad G a1), .int a2] z (some (.int r)) z' := by
  refine lc_M_of (cc := prog_2_method_3_code) (maxL := 4) (ret := (some .boolean)) (own := "LinearCells$Checker") (by decide) rfl (fun w h => List.mem_cons_of_mem _ h) (Nat.le_of_ble_eq_true rfl) rfl ?_
  intro p e s m below meth c hx hb hml hr hlocks hown hts hE ls hl hH
  replace hl : lv_has ls 4 [(0, .ref (lc_ad G 8)), (1, .ref (lc_ad G a1)), (2, .int a2)] := hl
  rw [fK_findsNoFault] at hf
  refine lv_aload_n hx hb dK_findsNoFault_0 rfl (lv_at hl 1 rfl) ?_
  refine lv_iload_n hx hb dK_findsNoFault_1 rfl (lv_at hl 2 rfl) ?_
  obtain ⟨hs2_0, hf⟩ := lc_chk_some hf
  obtain ⟨hi2, hf⟩ := lc_chk_some hf
  obtain ⟨q2, hq2, hf⟩ := lc_bnr_some hf
  refine lc_aald hx hb hE hH hs2_0 rfl hi2 hq2 dK_findsNoFault_2 ?_
  obtain ⟨hs3_0, hf⟩ := lc_chk_some hf
  refine lc_geti hx hb hts hown hE hH flK_41 hs3_0 rfl dK_findsNoFault_3 ?_
  refine lv_if_ne (tgt := 11) hx hb dK_findsNoFault_6 (by decide) (fun hc => ?_) (fun hc => ?_)
  · replace hf := lc_ite_neg hc hf
    refine lv_aload_n hx hb dK_findsNoFault_11 rfl (lv_at hl 0 rfl) ?_
    refine lv_aload_n hx hb dK_findsNoFault_12 rfl (lv_at hl 1 rfl) ?_
    refine lv_iload_n hx hb dK_findsNoFault_13 rfl (lv_at hl 2 rfl) ?_
    obtain ⟨r14, z14, h14, hf⟩ := lc_bnd_some hf
    refine lc_calli (va_runV (As := [.ref (lc_ad G a1), .int a2]) (rest := []) ⟨hx, hb, hml, hown, hts⟩ (cK_findBodyType l G h14) (lc_cwV hts kvK_33 (lc_room (by decide) (by decide))) (lc_preV hE hH lc_h8 rfl _) rfl rfl hl.1 rfl (lv_room (Nat.le_of_ble_eq_true rfl)) dK_findsNoFault_14 ⟨Nat.zero_le _, Nat.zero_le _⟩) hH (fun H locs hH => ?_)
    refine lv_istore_n hx hb dK_findsNoFault_17 rfl hl (by decide) rfl (fun ls hl => ?_)
    replace hl : lv_has ls 4 [(3, .int r14), (0, .ref (lc_ad G 8)), (1, .ref (lc_ad G a1)), (2, .int a2)] := hl
    refine lv_iload_n hx hb dK_findsNoFault_18 rfl (lv_at hl 0 rfl) ?_
    refine lv_if_eq (tgt := 43) hx hb dK_findsNoFault_19 (by decide) (fun hc => ?_) (fun hc => ?_)
    · replace hf := lc_ite_pos hc hf
      exact bK_findsNoFault_43 hx hb hml hr hlocks hown hts hE hf (lv_sub hl [] rfl) hH
    · replace hf := lc_ite_neg hc hf
      refine lv_iload_n hx hb dK_findsNoFault_22 rfl (lv_at hl 0 rfl) ?_
      refine lv_aload_n hx hb dK_findsNoFault_23 rfl (lv_at hl 1 rfl) ?_
      refine lc_getf (d := 8) (q := 16) hx hb hts hown hE hH flK_22 lc_h8 rfl rfl dK_findsNoFault_24 ?_
      refine lv_iload_n hx hb dK_findsNoFault_27 rfl (lv_at hl 3 rfl) ?_
      obtain ⟨hi28, hf⟩ := lc_chk_some hf
      refine lc_iald hx hb hE hH lc_h16 rfl hi28 dK_findsNoFault_28 ?_
      refine lv_icmp_ne (tgt := 43) hx hb dK_findsNoFault_29 (by decide) (fun hc => ?_) (fun hc => ?_)
      · replace hf := lc_ite_neg hc hf
        exact bK_findsNoFault_43 hx hb hml hr hlocks hown hts hE hf (lv_sub hl [] rfl) hH
      · replace hf := lc_ite_pos hc hf
        refine lv_aload_n hx hb dK_findsNoFault_32 rfl (lv_at hl 1 rfl) ?_
        obtain ⟨r33, z33, h33, hf⟩ := lc_bnd_some hf
        refine lc_calli (va_runV (As := []) (rest := []) ⟨hx, hb, hml, hown, hts⟩ (cK_eachVariableIsUsedWell l G h33) (lc_cwV hts kvK_45 (lc_room (by decide) (by decide))) (lc_preV hE hH lc_h8 rfl _) rfl rfl hl.1 rfl (lv_room (Nat.le_of_ble_eq_true rfl)) dK_findsNoFault_33 ⟨Nat.zero_le _, Nat.zero_le _⟩) hH (fun H locs hH => ?_)
        refine lv_if_eq (tgt := 43) hx hb dK_findsNoFault_36 (by decide) (fun hc => ?_) (fun hc => ?_)
        · replace hf := lc_ite_pos hc hf
          exact bK_findsNoFault_43 hx hb hml hr hlocks hown hts hE hf (lv_sub hl [] rfl) hH
        · replace hf := lc_ite_neg hc hf
          refine lv_iconst (v := 1) hx hb dK_findsNoFault_39 (by decide) ?_
          refine lv_goto (tgt := 44) hx hb dK_findsNoFault_40 (by decide) ?_
          exact lc_zret hx hb hr hlocks (by decide) hH hf dK_findsNoFault_44
  · replace hf := lc_ite_pos hc hf
    refine lv_iconst (v := 0) hx hb dK_findsNoFault_9 (by decide) ?_
    exact lc_zret hx hb hr hlocks (by decide) hH hf dK_findsNoFault_10
theorem dA_sound_0 : decode prog_1_method_4_code 0 = .ok (.aload_n 0, 1) := by decide +kernel
theorem dA_sound_1 : decode prog_1_method_4_code 1 = .ok (.iload_n 1, 1) := by decide +kernel
theorem dA_sound_2 : decode prog_1_method_4_code 2 = .ok (.invokevirtual 82, 3) := by decide +kernel
theorem dA_sound_5 : decode prog_1_method_4_code 5 = .ok (.ifCond .ne 5, 3) := by decide +kernel
theorem dA_sound_8 : decode prog_1_method_4_code 8 = .ok (.iconst 0, 1) := by decide +kernel
theorem dA_sound_9 : decode prog_1_method_4_code 9 = .ok (.ireturn, 1) := by decide +kernel
theorem dA_sound_10 : decode prog_1_method_4_code 10 = .ok (.aload_n 0, 1) := by decide +kernel
theorem dA_sound_11 : decode prog_1_method_4_code 11 = .ok (.iload_n 1, 1) := by decide +kernel
theorem dA_sound_12 : decode prog_1_method_4_code 12 = .ok (.invokevirtual 85, 3) := by decide +kernel
theorem dA_sound_15 : decode prog_1_method_4_code 15 = .ok (.istore_n 2, 1) := by decide +kernel
theorem dA_sound_16 : decode prog_1_method_4_code 16 = .ok (.iconst 0, 1) := by decide +kernel
theorem dA_sound_17 : decode prog_1_method_4_code 17 = .ok (.istore_n 3, 1) := by decide +kernel
theorem dA_sound_18 : decode prog_1_method_4_code 18 = .ok (.iload_n 3, 1) := by decide +kernel
theorem dA_sound_19 : decode prog_1_method_4_code 19 = .ok (.iconst 4, 1) := by decide +kernel
theorem dA_sound_20 : decode prog_1_method_4_code 20 = .ok (.if_icmp .ge 34, 3) := by decide +kernel
theorem dA_sound_23 : decode prog_1_method_4_code 23 = .ok (.iload_n 2, 1) := by decide +kernel
theorem dA_sound_24 : decode prog_1_method_4_code 24 = .ok (.iload_n 3, 1) := by decide +kernel
theorem dA_sound_25 : decode prog_1_method_4_code 25 = .ok (.invokestatic 89, 3) := by decide +kernel
theorem dA_sound_28 : decode prog_1_method_4_code 28 = .ok (.ifCond .eq 20, 3) := by decide +kernel
theorem dA_sound_31 : decode prog_1_method_4_code 31 = .ok (.aload_n 0, 1) := by decide +kernel
theorem dA_sound_32 : decode prog_1_method_4_code 32 = .ok (.getfield 34, 3) := by decide +kernel
theorem dA_sound_35 : decode prog_1_method_4_code 35 = .ok (.aload_n 0, 1) := by decide +kernel
theorem dA_sound_36 : decode prog_1_method_4_code 36 = .ok (.getfield 15, 3) := by decide +kernel
theorem dA_sound_39 : decode prog_1_method_4_code 39 = .ok (.iload_n 3, 1) := by decide +kernel
theorem dA_sound_40 : decode prog_1_method_4_code 40 = .ok (.invokevirtual 93, 3) := by decide +kernel
theorem dA_sound_43 : decode prog_1_method_4_code 43 = .ok (.ifCond .ne 5, 3) := by decide +kernel
theorem dA_sound_46 : decode prog_1_method_4_code 46 = .ok (.iconst 0, 1) := by decide +kernel
theorem dA_sound_47 : decode prog_1_method_4_code 47 = .ok (.ireturn, 1) := by decide +kernel
theorem dA_sound_48 : decode prog_1_method_4_code 48 = .ok (.iinc 3 1, 3) := by decide +kernel
theorem dA_sound_51 : decode prog_1_method_4_code 51 = .ok (.goto (-33), 3) := by decide +kernel
theorem dA_sound_54 : decode prog_1_method_4_code 54 = .ok (.iconst 1, 1) := by decide +kernel
theorem dA_sound_55 : decode prog_1_method_4_code 55 = .ok (.ireturn, 1) := by decide +kernel
def fA_sound_48 (k18 : Int32 → Int32 → lc_S → Option ((Int32) × lc_S)) (x2 : Int32) (x3 : Int32) (z : lc_S) : Option ((Int32) × lc_S) :=
  lc_let (x3 + 1) (fun x48 => k18 x2 x48 z)
def fA_sound_18 : Nat → Int32 → Int32 → lc_S → Option ((Int32) × lc_S)
  | 0, _, _, _ => none
  | n + 1, x2, x3, z => if 4 ≤ x3 then (some (1, z)) else (lc_bnd (fA_hasBit x2 x3 z) (fun r25 z25 => if r25 = 0 then (fA_sound_48 (fA_sound_18 n) x2 x3 z25) else (lc_bnd (fK_findsNoFault 3 x3 z25) (fun r40 z40 => if r40 = 0 then (some (0, z40)) else (fA_sound_48 (fA_sound_18 n) x2 x3 z40)))))
def fA_sound (a1 : Int32) (z : lc_S) : Option ((Int32) × lc_S) :=
  lc_bnd (fA_isThere a1 z) (fun r2 z2 => if r2 = 0 then (some (0, z2)) else (lc_bnd (fA_reachedFrom a1 z2) (fun r12 z12 => fA_sound_18 lc_FU r12 0 z12)))
set_option maxHeartbeats 4000000 in
set_option maxRecDepth 100000 in
theorem bA_sound_48 {p : Program} {l : Launch} {e : Env} {s : State} {m : MethodId} {args : Array Value} {below : List Frame} {meth : Method} {c : Code} {G : lc_G} (hx : p.tables.exec = Jvm.exec) (hb : c.code = prog_1_method_4_code) (hml : c.maxLocals = 4) (hr : meth.sig.returnType = (some .boolean)) (hlocks : meth.locks = false) (hown : s.vm.findClass "LinearCells" = some m.cls) (hts : ∀ w ∈ lc_ALL, w.before args s = true) (hE : lc_E G s) {k18 : Int32 → Int32 → lc_S → Option ((Int32) × lc_S)} {r : Int32} {z' : lc_S} (hk18 : ∀ {x2 : Int32} {x3 : Int32} {z : lc_S} {H : Heap} {locs : List Loc} {ls : Array Slot}, k18 x2 x3 z = some (r, z') → lv_has ls 4 [(0, .ref (lc_ad G 1)), (2, .int x2), (3, .int x3)] → lc_H G z s.heap H locs → W p l e (lc_rm 5) s m args below meth c H locs 0 0 (MQ below (lc_Q G (some (.int r)) z') args s 0 0 (lc_A G)) (F0 m 18 ls [])) : ∀ {x2 : Int32} {x3 : Int32} {z : lc_S} {H : Heap} {locs : List Loc} {ls : Array Slot}, fA_sound_48 k18 x2 x3 z = some (r, z') → lv_has ls 4 [(0, .ref (lc_ad G 1)), (2, .int x2), (3, .int x3)] → lc_H G z s.heap H locs → W p l e (lc_rm 5) s m args below meth c H locs 0 0 (MQ below (lc_Q G (some (.int r)) z') args s 0 0 (lc_A G)) (F0 m 48 ls []) := by
  intro x2 x3 z H locs ls hf hl hH
  rw [fA_sound_48] at hf
  obtain ⟨x48, e48⟩ : ∃ x : Int32, x = x3 + 1 := ⟨_, rfl⟩
  replace hf := lc_let_of e48 hf
  refine lv_iinc (k := 2) (v := x48) hx hb dA_sound_48 hl rfl ((lc_incv _ (by decide)).trans e48.symm) (by decide) rfl (fun ls hl => ?_)
  replace hl : lv_has ls 4 [(3, .int x48), (0, .ref (lc_ad G 1)), (2, .int x2)] := hl
  refine lv_goto (tgt := 18) hx hb dA_sound_51 (by decide) ?_
  exact hk18 hf (lv_sub hl [1, 2, 0] rfl) hH
set_option maxHeartbeats 4000000 in
set_option maxRecDepth 100000 in
theorem bA_sound_18 {p : Program} {l : Launch} {e : Env} {s : State} {m : MethodId} {args : Array Value} {below : List Frame} {meth : Method} {c : Code} {G : lc_G} (hx : p.tables.exec = Jvm.exec) (hb : c.code = prog_1_method_4_code) (hml : c.maxLocals = 4) (hr : meth.sig.returnType = (some .boolean)) (hlocks : meth.locks = false) (hown : s.vm.findClass "LinearCells" = some m.cls) (hts : ∀ w ∈ lc_ALL, w.before args s = true) (hE : lc_E G s) {r : Int32} {z' : lc_S} : ∀ (n : Nat) {x2 : Int32} {x3 : Int32} {z : lc_S} {H : Heap} {locs : List Loc} {ls : Array Slot}, fA_sound_18 n x2 x3 z = some (r, z') → lv_has ls 4 [(0, .ref (lc_ad G 1)), (2, .int x2), (3, .int x3)] → lc_H G z s.heap H locs → W p l e (lc_rm 5) s m args below meth c H locs 0 0 (MQ below (lc_Q G (some (.int r)) z') args s 0 0 (lc_A G)) (F0 m 18 ls []) := by
  intro n
  induction n with
  | zero =>
    intro x2 x3 z H locs ls hf hl hH
    exact absurd (show (none : Option ((Int32) × lc_S)) = some (r, z') from hf) (fun h => by cases h)
  | succ n ih =>
    intro x2 x3 z H locs ls hf hl hH
    rw [fA_sound_18] at hf
    refine lv_iload_n hx hb dA_sound_18 rfl (lv_at hl 2 rfl) ?_
    refine lv_iconst (v := 4) hx hb dA_sound_19 (by decide) ?_
    refine lv_icmp_ge (tgt := 54) hx hb dA_sound_20 (by decide) (fun hc => ?_) (fun hc => ?_)
    · replace hf := lc_ite_pos hc hf
      refine lv_iconst (v := 1) hx hb dA_sound_54 (by decide) ?_
      exact lc_zret hx hb hr hlocks (by decide) hH hf dA_sound_55
    · replace hf := lc_ite_neg hc hf
      refine lv_iload_n hx hb dA_sound_23 rfl (lv_at hl 1 rfl) ?_
      refine lv_iload_n hx hb dA_sound_24 rfl (lv_at hl 2 rfl) ?_
      obtain ⟨r25, z25, h25, hf⟩ := lc_bnd_some hf
      refine lc_calli (va_runS (As := [.int x2, .int x3]) (rest := []) ⟨hx, hb, hml, hown, hts⟩ (cA_hasBit l G h25) (lc_cwS hts ksA_89 (lc_room (by decide) (by decide))) (lc_preS hE hH _) rfl rfl hl.1 rfl (lv_room (Nat.le_of_ble_eq_true rfl)) dA_sound_25 ⟨Nat.zero_le _, Nat.zero_le _⟩) hH (fun H locs hH => ?_)
      refine lv_if_eq (tgt := 48) hx hb dA_sound_28 (by decide) (fun hc => ?_) (fun hc => ?_)
      · replace hf := lc_ite_pos hc hf
        exact bA_sound_48 hx hb hml hr hlocks hown hts hE (fun hf hl hH => ih hf hl hH) hf (lv_sub hl [0, 1, 2] rfl) hH
      · replace hf := lc_ite_neg hc hf
        refine lv_aload_n hx hb dA_sound_31 rfl (lv_at hl 0 rfl) ?_
        refine lc_getf (d := 7) (q := 8) hx hb hts hown hE hH flA_34 lc_h1 rfl rfl dA_sound_32 ?_
        refine lv_aload_n hx hb dA_sound_35 rfl (lv_at hl 0 rfl) ?_
        refine lc_getf (d := 2) (q := 3) hx hb hts hown hE hH flA_15 lc_h1 rfl rfl dA_sound_36 ?_
        refine lv_iload_n hx hb dA_sound_39 rfl (lv_at hl 2 rfl) ?_
        obtain ⟨r40, z40, h40, hf⟩ := lc_bnd_some hf
        refine lc_calli (va_runV (As := [.ref (lc_ad G 3), .int x3]) (rest := []) ⟨hx, hb, hml, hown, hts⟩ (cK_findsNoFault l G h40) (lc_cwV hts kvA_93 (lc_room (by decide) (by decide))) (lc_preV hE hH lc_h8 rfl _) rfl rfl hl.1 rfl (lv_room (Nat.le_of_ble_eq_true rfl)) dA_sound_40 ⟨Nat.zero_le _, Nat.zero_le _⟩) hH (fun H locs hH => ?_)
        refine lv_if_ne (tgt := 48) hx hb dA_sound_43 (by decide) (fun hc => ?_) (fun hc => ?_)
        · replace hf := lc_ite_neg hc hf
          exact bA_sound_48 hx hb hml hr hlocks hown hts hE (fun hf hl hH => ih hf hl hH) hf (lv_sub hl [0, 1, 2] rfl) hH
        · replace hf := lc_ite_pos hc hf
          refine lv_iconst (v := 0) hx hb dA_sound_46 (by decide) ?_
          exact lc_zret hx hb hr hlocks (by decide) hH hf dA_sound_47
set_option maxHeartbeats 4000000 in
set_option maxRecDepth 100000 in
theorem cA_sound (l : Launch) (G : lc_G) {a1 : Int32} {r : Int32} {z z' : lc_S} (hf : fA_sound a1 z = some (r, z')) : lc_M l G yA_sound wA_sound 5 [.ref (lc_ad G 1), .int a1] z (some (.int r)) z' := by
  refine lc_M_of (cc := prog_1_method_4_code) (maxL := 4) (ret := (some .boolean)) (own := "LinearCells") (by decide) rfl (fun w h => List.mem_cons_of_mem _ h) (Nat.le_of_ble_eq_true rfl) rfl ?_
  intro p e s m below meth c hx hb hml hr hlocks hown hts hE ls hl hH
  replace hl : lv_has ls 4 [(0, .ref (lc_ad G 1)), (1, .int a1)] := hl
  rw [fA_sound] at hf
  refine lv_aload_n hx hb dA_sound_0 rfl (lv_at hl 0 rfl) ?_
  refine lv_iload_n hx hb dA_sound_1 rfl (lv_at hl 1 rfl) ?_
  obtain ⟨r2, z2, h2, hf⟩ := lc_bnd_some hf
  refine lc_calli (va_runV (As := [.int a1]) (rest := []) ⟨hx, hb, hml, hown, hts⟩ (cA_isThere l G h2) (lc_cwV hts kvA_82 (lc_room (by decide) (by decide))) (lc_preV hE hH lc_h1 rfl _) rfl rfl hl.1 rfl (lv_room (Nat.le_of_ble_eq_true rfl)) dA_sound_2 ⟨Nat.zero_le _, Nat.zero_le _⟩) hH (fun H locs hH => ?_)
  refine lv_if_ne (tgt := 10) hx hb dA_sound_5 (by decide) (fun hc => ?_) (fun hc => ?_)
  · replace hf := lc_ite_neg hc hf
    refine lv_aload_n hx hb dA_sound_10 rfl (lv_at hl 0 rfl) ?_
    refine lv_iload_n hx hb dA_sound_11 rfl (lv_at hl 1 rfl) ?_
    obtain ⟨r12, z12, h12, hf⟩ := lc_bnd_some hf
    refine lc_calli (va_runV (As := [.int a1]) (rest := []) ⟨hx, hb, hml, hown, hts⟩ (cA_reachedFrom l G h12) (lc_cwV hts kvA_85 (lc_room (by decide) (by decide))) (lc_preV hE hH lc_h1 rfl _) rfl rfl hl.1 rfl (lv_room (Nat.le_of_ble_eq_true rfl)) dA_sound_12 ⟨Nat.zero_le _, Nat.zero_le _⟩) hH (fun H locs hH => ?_)
    refine lv_istore_n hx hb dA_sound_15 rfl hl (by decide) rfl (fun ls hl => ?_)
    replace hl : lv_has ls 4 [(2, .int r12), (0, .ref (lc_ad G 1)), (1, .int a1)] := hl
    refine lv_iconst (v := 0) hx hb dA_sound_16 (by decide) ?_
    refine lv_istore_n hx hb dA_sound_17 rfl hl (by decide) rfl (fun ls hl => ?_)
    replace hl : lv_has ls 4 [(3, .int 0), (2, .int r12), (0, .ref (lc_ad G 1)), (1, .int a1)] := hl
    exact bA_sound_18 hx hb hml hr hlocks hown hts hE _ hf (lv_sub hl [2, 1, 0] rfl) hH
  · replace hf := lc_ite_pos hc hf
    refine lv_iconst (v := 0) hx hb dA_sound_8 (by decide) ?_
    exact lc_zret hx hb hr hlocks (by decide) hH hf dA_sound_9
theorem dT_numberOf_0 : decode prog_7_method_5_code 0 = .ok (.aload_n 0, 1) := by decide +kernel
theorem dT_numberOf_1 : decode prog_7_method_5_code 1 = .ok (.getfield 20, 3) := by decide +kernel
theorem dT_numberOf_4 : decode prog_7_method_5_code 4 = .ok (.iload_n 1, 1) := by decide +kernel
theorem dT_numberOf_5 : decode prog_7_method_5_code 5 = .ok (.iaload, 1) := by decide +kernel
theorem dT_numberOf_6 : decode prog_7_method_5_code 6 = .ok (.ireturn, 1) := by decide +kernel
def fT_numberOf (a1 : Int32) (z : lc_S) : Option ((Int32) × lc_S) :=
  lc_chk (lc_in a1 243) (some (lcI z 12 a1.toNatClampNeg, z))
set_option maxHeartbeats 4000000 in
set_option maxRecDepth 100000 in
theorem cT_numberOf (l : Launch) (G : lc_G) {a1 : Int32} {r : Int32} {z z' : lc_S} (hf : fT_numberOf a1 z = some (r, z')) : lc_M l G yT_numberOf wT_numberOf 0 [.ref (lc_ad G 9), .int a1] z (some (.int r)) z' := by
  refine lc_M_of (cc := prog_7_method_5_code) (maxL := 2) (ret := (some .int)) (own := "LinearCells$Types") (by decide) rfl (fun w h => List.mem_cons_of_mem _ h) (Nat.le_of_ble_eq_true rfl) rfl ?_
  intro p e s m below meth c hx hb hml hr hlocks hown hts hE ls hl hH
  replace hl : lv_has ls 2 [(0, .ref (lc_ad G 9)), (1, .int a1)] := hl
  rw [fT_numberOf] at hf
  refine lv_aload_n hx hb dT_numberOf_0 rfl (lv_at hl 0 rfl) ?_
  refine lc_getf (d := 3) (q := 12) hx hb hts hown hE hH flT_20 lc_h9 rfl rfl dT_numberOf_1 ?_
  refine lv_iload_n hx hb dT_numberOf_4 rfl (lv_at hl 1 rfl) ?_
  obtain ⟨hi5, hf⟩ := lc_chk_some hf
  refine lc_iald hx hb hE hH lc_h12 rfl hi5 dT_numberOf_5 ?_
  exact lc_iret hx hb hr hlocks hH hf dT_numberOf_6
theorem dK_numberOfBodyType_0 : decode prog_2_method_2_code 0 = .ok (.aload_n 0, 1) := by decide +kernel
theorem dK_numberOfBodyType_1 : decode prog_2_method_2_code 1 = .ok (.getfield 12, 3) := by decide +kernel
theorem dK_numberOfBodyType_4 : decode prog_2_method_2_code 4 = .ok (.aload_n 0, 1) := by decide +kernel
theorem dK_numberOfBodyType_5 : decode prog_2_method_2_code 5 = .ok (.aload_n 1, 1) := by decide +kernel
theorem dK_numberOfBodyType_6 : decode prog_2_method_2_code 6 = .ok (.iload_n 2, 1) := by decide +kernel
theorem dK_numberOfBodyType_7 : decode prog_2_method_2_code 7 = .ok (.invokevirtual 33, 3) := by decide +kernel
theorem dK_numberOfBodyType_10 : decode prog_2_method_2_code 10 = .ok (.invokevirtual 37, 3) := by decide +kernel
theorem dK_numberOfBodyType_13 : decode prog_2_method_2_code 13 = .ok (.ireturn, 1) := by decide +kernel
def fK_numberOfBodyType (a1 : Nat) (a2 : Int32) (z : lc_S) : Option ((Int32) × lc_S) :=
  lc_bnd (fK_findBodyType a1 a2 z) (fun r7 z7 => lc_bnd (fT_numberOf r7 z7) (fun r10 z10 => some (r10, z10)))
set_option maxHeartbeats 4000000 in
set_option maxRecDepth 100000 in
theorem cK_numberOfBodyType (l : Launch) (G : lc_G) {a1 : Nat} {a2 : Int32} {r : Int32} {z z' : lc_S} (hf : fK_numberOfBodyType a1 a2 z = some (r, z')) : lc_M l G yK_numberOfBodyType wK_numberOfBodyType 4 [.ref (lc_ad G 8), .ref (lc_ad G a1), .int a2] z (some (.int r)) z' := by
  refine lc_M_of (cc := prog_2_method_2_code) (maxL := 3) (ret := (some .int)) (own := "LinearCells$Checker") (by decide) rfl (fun w h => List.mem_cons_of_mem _ h) (Nat.le_of_ble_eq_true rfl) rfl ?_
  intro p e s m below meth c hx hb hml hr hlocks hown hts hE ls hl hH
  replace hl : lv_has ls 3 [(0, .ref (lc_ad G 8)), (1, .ref (lc_ad G a1)), (2, .int a2)] := hl
  rw [fK_numberOfBodyType] at hf
  refine lv_aload_n hx hb dK_numberOfBodyType_0 rfl (lv_at hl 0 rfl) ?_
  refine lc_getf (d := 1) (q := 9) hx hb hts hown hE hH flK_12 lc_h8 rfl rfl dK_numberOfBodyType_1 ?_
  refine lv_aload_n hx hb dK_numberOfBodyType_4 rfl (lv_at hl 0 rfl) ?_
  refine lv_aload_n hx hb dK_numberOfBodyType_5 rfl (lv_at hl 1 rfl) ?_
  refine lv_iload_n hx hb dK_numberOfBodyType_6 rfl (lv_at hl 2 rfl) ?_
  obtain ⟨r7, z7, h7, hf⟩ := lc_bnd_some hf
  refine lc_calli (va_runV (As := [.ref (lc_ad G a1), .int a2]) (rest := [.ref (lc_ad G 9)]) ⟨hx, hb, hml, hown, hts⟩ (cK_findBodyType l G h7) (lc_cwV hts kvK_33 (lc_room (by decide) (by decide))) (lc_preV hE hH lc_h8 rfl _) rfl rfl hl.1 rfl (lv_room (Nat.le_of_ble_eq_true rfl)) dK_numberOfBodyType_7 ⟨Nat.zero_le _, Nat.zero_le _⟩) hH (fun H locs hH => ?_)
  obtain ⟨r10, z10, h10, hf⟩ := lc_bnd_some hf
  refine lc_calli (va_runV (As := [.int r7]) (rest := []) ⟨hx, hb, hml, hown, hts⟩ (cT_numberOf l G h10) (lc_cwV hts kvK_37 (lc_room (by decide) (by decide))) (lc_preV hE hH lc_h9 rfl _) rfl rfl hl.1 rfl (lv_room (Nat.le_of_ble_eq_true rfl)) dK_numberOfBodyType_10 ⟨Nat.zero_le _, Nat.zero_le _⟩) hH (fun H locs hH => ?_)
  exact lc_iret hx hb hr hlocks hH hf dK_numberOfBodyType_13
theorem dA_typed_0 : decode prog_1_method_5_code 0 = .ok (.aload_n 0, 1) := by decide +kernel
theorem dA_typed_1 : decode prog_1_method_5_code 1 = .ok (.iload_n 1, 1) := by decide +kernel
theorem dA_typed_2 : decode prog_1_method_5_code 2 = .ok (.invokevirtual 82, 3) := by decide +kernel
theorem dA_typed_5 : decode prog_1_method_5_code 5 = .ok (.ifCond .ne 11, 3) := by decide +kernel
theorem dA_typed_8 : decode prog_1_method_5_code 8 = .ok (.new 97, 3) := by decide +kernel
theorem dA_typed_11 : decode prog_1_method_5_code 11 = .ok (.dup, 1) := by decide +kernel
theorem dA_typed_12 : decode prog_1_method_5_code 12 = .ok (.invokespecial 99, 3) := by decide +kernel
theorem dA_typed_15 : decode prog_1_method_5_code 15 = .ok (.athrow, 1) := by decide +kernel
theorem dA_typed_16 : decode prog_1_method_5_code 16 = .ok (.aload_n 0, 1) := by decide +kernel
theorem dA_typed_17 : decode prog_1_method_5_code 17 = .ok (.getfield 34, 3) := by decide +kernel
theorem dA_typed_20 : decode prog_1_method_5_code 20 = .ok (.aload_n 0, 1) := by decide +kernel
theorem dA_typed_21 : decode prog_1_method_5_code 21 = .ok (.getfield 15, 3) := by decide +kernel
theorem dA_typed_24 : decode prog_1_method_5_code 24 = .ok (.iload_n 1, 1) := by decide +kernel
theorem dA_typed_25 : decode prog_1_method_5_code 25 = .ok (.invokevirtual 100, 3) := by decide +kernel
theorem dA_typed_28 : decode prog_1_method_5_code 28 = .ok (.ireturn, 1) := by decide +kernel
def fA_typed (a1 : Int32) (z : lc_S) : Option ((Nat × Int32) × lc_S) :=
  lc_bnd (fA_isThere a1 z) (fun r2 z2 => if r2 = 0 then (some ((3, 0), z2)) else (lc_bnd (fK_numberOfBodyType 3 a1 z2) (fun r25 z25 => some ((0, r25), z25))))
set_option maxHeartbeats 4000000 in
set_option maxRecDepth 100000 in
theorem cA_typed (l : Launch) (G : lc_G) (htr : l.stackTraces = false) {a1 : Int32} {r : Nat × Int32} {z z' : lc_S} (hf : fA_typed a1 z = some (r, z')) : lc_MT l G yA_typed wA_typed 8 [.ref (lc_ad G 1), .int a1] z r z' := by
  refine lc_MT_of (cc := prog_1_method_5_code) (maxL := 2) (ret := (some .int)) (own := "LinearCells") (by decide) rfl (fun w h => List.mem_cons_of_mem _ h) (Nat.le_of_ble_eq_true rfl) rfl ?_
  intro p e s m below meth c hx hb hml hr hlocks hown hts hE hno hT hz ls hl hH
  replace hl : lv_has ls 2 [(0, .ref (lc_ad G 1)), (1, .int a1)] := hl
  rw [fA_typed] at hf
  refine lv_aload_n hx hb dA_typed_0 rfl (lv_at hl 0 rfl) ?_
  refine lv_iload_n hx hb dA_typed_1 rfl (lv_at hl 1 rfl) ?_
  obtain ⟨r2, z2, h2, hf⟩ := lc_bnd_some hf
  refine lc_calli (va_runV (As := [.int a1]) (rest := []) ⟨hx, hb, hml, hown, hts⟩ (cA_isThere l G h2) (lc_cwV hts kvA_82 (lc_roomT (by decide) (by decide))) (lc_preV hE hH lc_h1 rfl _) rfl rfl hl.1 rfl (lv_room (Nat.le_of_ble_eq_true rfl)) dA_typed_2 ⟨Nat.zero_le _, Nat.zero_le _⟩) hH (fun H locs hH => ?_)
  refine lv_if_ne (tgt := 16) hx hb dA_typed_5 (by decide) (fun hc => ?_) (fun hc => ?_)
  · replace hf := lc_ite_neg hc hf
    refine lv_aload_n hx hb dA_typed_16 rfl (lv_at hl 0 rfl) ?_
    refine lc_getf (d := 7) (q := 8) hx hb hts hown hE hH flA_34 lc_h1 rfl rfl dA_typed_17 ?_
    refine lv_aload_n hx hb dA_typed_20 rfl (lv_at hl 0 rfl) ?_
    refine lc_getf (d := 2) (q := 3) hx hb hts hown hE hH flA_15 lc_h1 rfl rfl dA_typed_21 ?_
    refine lv_iload_n hx hb dA_typed_24 rfl (lv_at hl 1 rfl) ?_
    obtain ⟨r25, z25, h25, hf⟩ := lc_bnd_some hf
    refine lc_calli (va_runV (As := [.ref (lc_ad G 3), .int a1]) (rest := []) ⟨hx, hb, hml, hown, hts⟩ (cK_numberOfBodyType l G h25) (lc_cwV hts kvA_100 (lc_roomT (by decide) (by decide))) (lc_preV hE hH lc_h8 rfl _) rfl rfl hl.1 rfl (lv_room (Nat.le_of_ble_eq_true rfl)) dA_typed_25 ⟨Nat.zero_le _, Nat.zero_le _⟩) hH (fun H locs hH => ?_)
    exact lc_iretT hx hb hr hlocks hH hf dA_typed_28
  · replace hf := lc_ite_pos hc hf
    exact lc_throw (k := 3) hx hb (hml.trans hl.1.symm) hlocks hown hts hno hT hz htr (by decide) (by decide +kernel) (lc_xat3_99 hts hT) lc_xn3_99_97 lc_xi3 lc_xj3 (by decide) hH hf dA_typed_8 dA_typed_11 dA_typed_12 dA_typed_15 (Nat.le_of_ble_eq_true rfl)
theorem dY_clear_0 : decode prog_4_method_2_code 0 = .ok (.iconst 0, 1) := by decide +kernel
theorem dY_clear_1 : decode prog_4_method_2_code 1 = .ok (.istore_n 1, 1) := by decide +kernel
theorem dY_clear_2 : decode prog_4_method_2_code 2 = .ok (.iload_n 1, 1) := by decide +kernel
theorem dY_clear_3 : decode prog_4_method_2_code 3 = .ok (.bipush 12, 2) := by decide +kernel
theorem dY_clear_5 : decode prog_4_method_2_code 5 = .ok (.if_icmp .ge 16, 3) := by decide +kernel
theorem dY_clear_8 : decode prog_4_method_2_code 8 = .ok (.aload_n 0, 1) := by decide +kernel
theorem dY_clear_9 : decode prog_4_method_2_code 9 = .ok (.getfield 11, 3) := by decide +kernel
theorem dY_clear_12 : decode prog_4_method_2_code 12 = .ok (.iload_n 1, 1) := by decide +kernel
theorem dY_clear_13 : decode prog_4_method_2_code 13 = .ok (.iconst 0, 1) := by decide +kernel
theorem dY_clear_14 : decode prog_4_method_2_code 14 = .ok (.bastore, 1) := by decide +kernel
theorem dY_clear_15 : decode prog_4_method_2_code 15 = .ok (.iinc 1 1, 3) := by decide +kernel
theorem dY_clear_18 : decode prog_4_method_2_code 18 = .ok (.goto (-16), 3) := by decide +kernel
theorem dY_clear_21 : decode prog_4_method_2_code 21 = .ok (.aload_n 0, 1) := by decide +kernel
theorem dY_clear_22 : decode prog_4_method_2_code 22 = .ok (.iconst 0, 1) := by decide +kernel
theorem dY_clear_23 : decode prog_4_method_2_code 23 = .ok (.putfield 38, 3) := by decide +kernel
theorem dY_clear_26 : decode prog_4_method_2_code 26 = .ok (.aload_n 0, 1) := by decide +kernel
theorem dY_clear_27 : decode prog_4_method_2_code 27 = .ok (.iconst 0, 1) := by decide +kernel
theorem dY_clear_28 : decode prog_4_method_2_code 28 = .ok (.putfield 42, 3) := by decide +kernel
theorem dY_clear_31 : decode prog_4_method_2_code 31 = .ok (.aload_n 0, 1) := by decide +kernel
theorem dY_clear_32 : decode prog_4_method_2_code 32 = .ok (.iconst 0, 1) := by decide +kernel
theorem dY_clear_33 : decode prog_4_method_2_code 33 = .ok (.putfield 45, 3) := by decide +kernel
theorem dY_clear_36 : decode prog_4_method_2_code 36 = .ok (.return_, 1) := by decide +kernel
def fY_clear_2 : Nat → Int32 → lc_S → Option ((Unit) × lc_S)
  | 0, _, _ => none
  | n + 1, x1, z => if 12 ≤ x1 then (some ((), lcUI (lcUI (lcUI z 20 2 0) 20 3 0) 20 10 0)) else (lc_chk (lc_in x1 12) (lc_let (x1 + 1) (fun x15 => fY_clear_2 n x15 (lcUI z 21 x1.toNatClampNeg 0))))
def fY_clear (z : lc_S) : Option ((Unit) × lc_S) :=
  fY_clear_2 lc_FU 0 z
set_option maxHeartbeats 4000000 in
set_option maxRecDepth 100000 in
theorem bY_clear_2 {p : Program} {l : Launch} {e : Env} {s : State} {m : MethodId} {args : Array Value} {below : List Frame} {meth : Method} {c : Code} {G : lc_G} (hx : p.tables.exec = Jvm.exec) (hb : c.code = prog_4_method_2_code) (hml : c.maxLocals = 2) (hr : meth.sig.returnType = none) (hlocks : meth.locks = false) (hown : s.vm.findClass "LinearCells$Memory" = some m.cls) (hts : ∀ w ∈ lc_ALL, w.before args s = true) (hE : lc_E G s) {r : Unit} {z' : lc_S} : ∀ (n : Nat) {x1 : Int32} {z : lc_S} {H : Heap} {locs : List Loc} {ls : Array Slot}, fY_clear_2 n x1 z = some (r, z') → lv_has ls 2 [(0, .ref (lc_ad G 20)), (1, .int x1)] → lc_H G z s.heap H locs → W p l e (lc_rm 0) s m args below meth c H locs 0 0 (MQ below (lc_Q G none z') args s 0 0 (lc_A G)) (F0 m 2 ls []) := by
  intro n
  induction n with
  | zero =>
    intro x1 z H locs ls hf hl hH
    exact absurd (show (none : Option ((Unit) × lc_S)) = some (r, z') from hf) (fun h => by cases h)
  | succ n ih =>
    intro x1 z H locs ls hf hl hH
    rw [fY_clear_2] at hf
    refine lv_iload_n hx hb dY_clear_2 rfl (lv_at hl 1 rfl) ?_
    refine lv_bipush (v := 12) hx hb dY_clear_3 (by decide) ?_
    refine lv_icmp_ge (tgt := 21) hx hb dY_clear_5 (by decide) (fun hc => ?_) (fun hc => ?_)
    · replace hf := lc_ite_pos hc hf
      refine lv_aload_n hx hb dY_clear_21 rfl (lv_at hl 0 rfl) ?_
      refine lv_iconst (v := 0) hx hb dY_clear_22 (by decide) ?_
      refine lc_puti hx hb hts hown hE hH fpY_38 lc_h20 rfl rfl rfl dY_clear_23 (fun H locs hH => ?_)
      refine lv_aload_n hx hb dY_clear_26 rfl (lv_at hl 0 rfl) ?_
      refine lv_iconst (v := 0) hx hb dY_clear_27 (by decide) ?_
      refine lc_puti hx hb hts hown hE hH fpY_42 lc_h20 rfl rfl rfl dY_clear_28 (fun H locs hH => ?_)
      refine lv_aload_n hx hb dY_clear_31 rfl (lv_at hl 0 rfl) ?_
      refine lv_iconst (v := 0) hx hb dY_clear_32 (by decide) ?_
      refine lc_puti hx hb hts hown hE hH fpY_45 lc_h20 rfl rfl rfl dY_clear_33 (fun H locs hH => ?_)
      exact lc_vret hx hb hr hlocks hH hf dY_clear_36
    · replace hf := lc_ite_neg hc hf
      refine lv_aload_n hx hb dY_clear_8 rfl (lv_at hl 0 rfl) ?_
      refine lc_getf (d := 1) (q := 21) hx hb hts hown hE hH flY_11 lc_h20 rfl rfl dY_clear_9 ?_
      refine lv_iload_n hx hb dY_clear_12 rfl (lv_at hl 1 rfl) ?_
      refine lv_iconst (v := 0) hx hb dY_clear_13 (by decide) ?_
      obtain ⟨hi14, hf⟩ := lc_chk_some hf
      refine lc_zast hx hb hE hH lc_h21 rfl hi14 (by decide) dY_clear_14 (fun H locs hH => ?_)
      obtain ⟨x15, e15⟩ : ∃ x : Int32, x = x1 + 1 := ⟨_, rfl⟩
      replace hf := lc_let_of e15 hf
      refine lv_iinc (k := 1) (v := x15) hx hb dY_clear_15 hl rfl ((lc_incv _ (by decide)).trans e15.symm) (by decide) rfl (fun ls hl => ?_)
      replace hl : lv_has ls 2 [(1, .int x15), (0, .ref (lc_ad G 20))] := hl
      refine lv_goto (tgt := 2) hx hb dY_clear_18 (by decide) ?_
      exact ih hf (lv_sub hl [1, 0] rfl) hH
set_option maxHeartbeats 4000000 in
set_option maxRecDepth 100000 in
theorem cY_clear (l : Launch) (G : lc_G) {r : Unit} {z z' : lc_S} (hf : fY_clear z = some (r, z')) : lc_M l G yY_clear wY_clear 0 [.ref (lc_ad G 20)] z none z' := by
  refine lc_M_of (cc := prog_4_method_2_code) (maxL := 2) (ret := none) (own := "LinearCells$Memory") (by decide) rfl (fun w h => List.mem_cons_of_mem _ h) (Nat.le_of_ble_eq_true rfl) rfl ?_
  intro p e s m below meth c hx hb hml hr hlocks hown hts hE ls hl hH
  replace hl : lv_has ls 2 [(0, .ref (lc_ad G 20))] := hl
  rw [fY_clear] at hf
  refine lv_iconst (v := 0) hx hb dY_clear_0 (by decide) ?_
  refine lv_istore_n hx hb dY_clear_1 rfl hl (by decide) rfl (fun ls hl => ?_)
  replace hl : lv_has ls 2 [(1, .int 0), (0, .ref (lc_ad G 20))] := hl
  exact bY_clear_2 hx hb hml hr hlocks hown hts hE _ hf (lv_sub hl [1, 0] rfl) hH
theorem dV_of_0 : decode prog_8_method_2_code 0 = .ok (.iload_n 0, 1) := by decide +kernel
theorem dV_of_1 : decode prog_8_method_2_code 1 = .ok (.i2l, 1) := by decide +kernel
theorem dV_of_2 : decode prog_8_method_2_code 2 = .ok (.bipush 32, 2) := by decide +kernel
theorem dV_of_4 : decode prog_8_method_2_code 4 = .ok (.lshl, 1) := by decide +kernel
theorem dV_of_5 : decode prog_8_method_2_code 5 = .ok (.iload_n 1, 1) := by decide +kernel
theorem dV_of_6 : decode prog_8_method_2_code 6 = .ok (.i2l, 1) := by decide +kernel
theorem dV_of_7 : decode prog_8_method_2_code 7 = .ok (.ldc2_w 7, 3) := by decide +kernel
theorem dV_of_10 : decode prog_8_method_2_code 10 = .ok (.land, 1) := by decide +kernel
theorem dV_of_11 : decode prog_8_method_2_code 11 = .ok (.lor, 1) := by decide +kernel
theorem dV_of_12 : decode prog_8_method_2_code 12 = .ok (.lreturn, 1) := by decide +kernel
def fV_of (a0 : Int32) (a1 : Int32) (z : lc_S) : Option ((Int64) × lc_S) :=
  some ((a0.toInt64 <<< ((32 : Int32).toInt64 &&& 63)) ||| (a1.toInt64 &&& 4294967295), z)
set_option maxHeartbeats 4000000 in
set_option maxRecDepth 100000 in
theorem cV_of (l : Launch) (G : lc_G) {a0 : Int32} {a1 : Int32} {r : Int64} {z z' : lc_S} (hf : fV_of a0 a1 z = some (r, z')) : lc_M l G yV_of wV_of 0 [.int a0, .int a1] z (some (.long r)) z' := by
  refine lc_M_of (cc := prog_8_method_2_code) (maxL := 2) (ret := (some .long)) (own := "LinearCells$Value") (by decide) rfl (fun w h => List.mem_cons_of_mem _ h) (Nat.le_of_ble_eq_true rfl) rfl ?_
  intro p e s m below meth c hx hb hml hr hlocks hown hts hE ls hl hH
  replace hl : lv_has ls 2 [(0, .int a0), (1, .int a1)] := hl
  rw [fV_of] at hf
  refine lv_iload_n hx hb dV_of_0 rfl (lv_at hl 0 rfl) ?_
  refine lv_i2l hx hb dV_of_1 rfl ?_
  refine lv_bipush (v := 32) hx hb dV_of_2 (by decide) ?_
  refine lv_lshl hx hb dV_of_4 rfl ?_
  refine lv_iload_n hx hb dV_of_5 rfl (lv_at hl 1 rfl) ?_
  refine lv_i2l hx hb dV_of_6 rfl ?_
  refine lv_ldc2 hx hb hown (hts _ kcV_7) dV_of_7 ?_
  refine lv_land hx hb dV_of_10 ?_
  refine lv_lor hx hb dV_of_11 ?_
  exact lc_lret hx hb hr hlocks hH hf dV_of_12
theorem dM_bind_0 : decode prog_3_method_8_code 0 = .ok (.aload_n 0, 1) := by decide +kernel
theorem dM_bind_1 : decode prog_3_method_8_code 1 = .ok (.getfield 26, 3) := by decide +kernel
theorem dM_bind_4 : decode prog_3_method_8_code 4 = .ok (.iload_n 1, 1) := by decide +kernel
theorem dM_bind_5 : decode prog_3_method_8_code 5 = .ok (.bipush 24, 2) := by decide +kernel
theorem dM_bind_7 : decode prog_3_method_8_code 7 = .ok (.imul, 1) := by decide +kernel
theorem dM_bind_8 : decode prog_3_method_8_code 8 = .ok (.iload_n 2, 1) := by decide +kernel
theorem dM_bind_9 : decode prog_3_method_8_code 9 = .ok (.iadd, 1) := by decide +kernel
theorem dM_bind_10 : decode prog_3_method_8_code 10 = .ok (.aload_n 0, 1) := by decide +kernel
theorem dM_bind_11 : decode prog_3_method_8_code 11 = .ok (.getfield 47, 3) := by decide +kernel
theorem dM_bind_14 : decode prog_3_method_8_code 14 = .ok (.lastore, 1) := by decide +kernel
theorem dM_bind_15 : decode prog_3_method_8_code 15 = .ok (.return_, 1) := by decide +kernel
def fM_bind (a1 : Int32) (a2 : Int32) (z : lc_S) : Option ((Unit) × lc_S) :=
  lc_chk (lc_in ((a1 * 24) + a2) 600) (some ((), lcUL z 30 ((a1 * 24) + a2).toNatClampNeg (lcL z 19 4)))
set_option maxHeartbeats 4000000 in
set_option maxRecDepth 100000 in
theorem cM_bind (l : Launch) (G : lc_G) {a1 : Int32} {a2 : Int32} {r : Unit} {z z' : lc_S} (hf : fM_bind a1 a2 z = some (r, z')) : lc_M l G yM_bind wM_bind 0 [.ref (lc_ad G 19), .int a1, .int a2] z none z' := by
  refine lc_M_of (cc := prog_3_method_8_code) (maxL := 3) (ret := none) (own := "LinearCells$Machine") (by decide) rfl (fun w h => List.mem_cons_of_mem _ h) (Nat.le_of_ble_eq_true rfl) rfl ?_
  intro p e s m below meth c hx hb hml hr hlocks hown hts hE ls hl hH
  replace hl : lv_has ls 3 [(0, .ref (lc_ad G 19)), (1, .int a1), (2, .int a2)] := hl
  rw [fM_bind] at hf
  refine lv_aload_n hx hb dM_bind_0 rfl (lv_at hl 0 rfl) ?_
  refine lc_getf (d := 11) (q := 30) hx hb hts hown hE hH flM_26 lc_h19 rfl rfl dM_bind_1 ?_
  refine lv_iload_n hx hb dM_bind_4 rfl (lv_at hl 1 rfl) ?_
  refine lv_bipush (v := 24) hx hb dM_bind_5 (by decide) ?_
  refine lv_imul hx hb dM_bind_7 ?_
  refine lv_iload_n hx hb dM_bind_8 rfl (lv_at hl 2 rfl) ?_
  refine lv_iadd hx hb dM_bind_9 ?_
  refine lv_aload_n hx hb dM_bind_10 rfl (lv_at hl 0 rfl) ?_
  refine lc_getl hx hb hts hown hE hH flM_47 lc_h19 rfl dM_bind_11 ?_
  obtain ⟨hi14, hf⟩ := lc_chk_some hf
  refine lc_last hx hb hE hH lc_h30 rfl hi14 dM_bind_14 (fun H locs hH => ?_)
  exact lc_vret hx hb hr hlocks hH hf dM_bind_15
theorem dM_begin_0 : decode prog_3_method_9_code 0 = .ok (.aload_n 0, 1) := by decide +kernel
theorem dM_begin_1 : decode prog_3_method_9_code 1 = .ok (.getfield 43, 3) := by decide +kernel
theorem dM_begin_4 : decode prog_3_method_9_code 4 = .ok (.sipush 2000, 3) := by decide +kernel
theorem dM_begin_7 : decode prog_3_method_9_code 7 = .ok (.if_icmp .ge 13, 3) := by decide +kernel
theorem dM_begin_10 : decode prog_3_method_9_code 10 = .ok (.aload_n 0, 1) := by decide +kernel
theorem dM_begin_11 : decode prog_3_method_9_code 11 = .ok (.getfield 73, 3) := by decide +kernel
theorem dM_begin_14 : decode prog_3_method_9_code 14 = .ok (.sipush 408, 3) := by decide +kernel
theorem dM_begin_17 : decode prog_3_method_9_code 17 = .ok (.if_icmp .lt 9, 3) := by decide +kernel
theorem dM_begin_20 : decode prog_3_method_9_code 20 = .ok (.aload_n 0, 1) := by decide +kernel
theorem dM_begin_21 : decode prog_3_method_9_code 21 = .ok (.iconst 3, 1) := by decide +kernel
theorem dM_begin_22 : decode prog_3_method_9_code 22 = .ok (.putfield 70, 3) := by decide +kernel
theorem dM_begin_25 : decode prog_3_method_9_code 25 = .ok (.return_, 1) := by decide +kernel
theorem dM_begin_26 : decode prog_3_method_9_code 26 = .ok (.aload_n 0, 1) := by decide +kernel
theorem dM_begin_27 : decode prog_3_method_9_code 27 = .ok (.dup, 1) := by decide +kernel
theorem dM_begin_28 : decode prog_3_method_9_code 28 = .ok (.getfield 43, 3) := by decide +kernel
theorem dM_begin_31 : decode prog_3_method_9_code 31 = .ok (.iconst 1, 1) := by decide +kernel
theorem dM_begin_32 : decode prog_3_method_9_code 32 = .ok (.iadd, 1) := by decide +kernel
theorem dM_begin_33 : decode prog_3_method_9_code 33 = .ok (.putfield 43, 3) := by decide +kernel
theorem dM_begin_36 : decode prog_3_method_9_code 36 = .ok (.aload_n 0, 1) := by decide +kernel
theorem dM_begin_37 : decode prog_3_method_9_code 37 = .ok (.getfield 30, 3) := by decide +kernel
theorem dM_begin_40 : decode prog_3_method_9_code 40 = .ok (.aload_n 0, 1) := by decide +kernel
theorem dM_begin_41 : decode prog_3_method_9_code 41 = .ok (.getfield 73, 3) := by decide +kernel
theorem dM_begin_44 : decode prog_3_method_9_code 44 = .ok (.iload_n 1, 1) := by decide +kernel
theorem dM_begin_45 : decode prog_3_method_9_code 45 = .ok (.iastore, 1) := by decide +kernel
theorem dM_begin_46 : decode prog_3_method_9_code 46 = .ok (.aload_n 0, 1) := by decide +kernel
theorem dM_begin_47 : decode prog_3_method_9_code 47 = .ok (.getfield 34, 3) := by decide +kernel
theorem dM_begin_50 : decode prog_3_method_9_code 50 = .ok (.aload_n 0, 1) := by decide +kernel
theorem dM_begin_51 : decode prog_3_method_9_code 51 = .ok (.getfield 73, 3) := by decide +kernel
theorem dM_begin_54 : decode prog_3_method_9_code 54 = .ok (.iload_n 2, 1) := by decide +kernel
theorem dM_begin_55 : decode prog_3_method_9_code 55 = .ok (.iastore, 1) := by decide +kernel
theorem dM_begin_56 : decode prog_3_method_9_code 56 = .ok (.aload_n 0, 1) := by decide +kernel
theorem dM_begin_57 : decode prog_3_method_9_code 57 = .ok (.getfield 37, 3) := by decide +kernel
theorem dM_begin_60 : decode prog_3_method_9_code 60 = .ok (.aload_n 0, 1) := by decide +kernel
theorem dM_begin_61 : decode prog_3_method_9_code 61 = .ok (.getfield 73, 3) := by decide +kernel
theorem dM_begin_64 : decode prog_3_method_9_code 64 = .ok (.iconst 0, 1) := by decide +kernel
theorem dM_begin_65 : decode prog_3_method_9_code 65 = .ok (.iastore, 1) := by decide +kernel
theorem dM_begin_66 : decode prog_3_method_9_code 66 = .ok (.aload_n 0, 1) := by decide +kernel
theorem dM_begin_67 : decode prog_3_method_9_code 67 = .ok (.dup, 1) := by decide +kernel
theorem dM_begin_68 : decode prog_3_method_9_code 68 = .ok (.getfield 73, 3) := by decide +kernel
theorem dM_begin_71 : decode prog_3_method_9_code 71 = .ok (.iconst 1, 1) := by decide +kernel
theorem dM_begin_72 : decode prog_3_method_9_code 72 = .ok (.iadd, 1) := by decide +kernel
theorem dM_begin_73 : decode prog_3_method_9_code 73 = .ok (.putfield 73, 3) := by decide +kernel
theorem dM_begin_76 : decode prog_3_method_9_code 76 = .ok (.return_, 1) := by decide +kernel
def fM_begin_20 (z : lc_S) : Option ((Unit) × lc_S) :=
  some ((), lcUI z 19 3 3)
def fM_begin (a1 : Int32) (a2 : Int32) (z : lc_S) : Option ((Unit) × lc_S) :=
  if 2000 ≤ (lcI z 19 2) then (fM_begin_20 z) else (if (lcI z 19 11) < 408 then (lc_chk (lc_in (lcI (lcUI z 19 2 ((lcI z 19 2) + 1)) 19 11) 408) (lc_chk (lc_in (lcI (lcUI (lcUI z 19 2 ((lcI z 19 2) + 1)) 31 (lcI (lcUI z 19 2 ((lcI z 19 2) + 1)) 19 11).toNatClampNeg a1) 19 11) 408) (lc_chk (lc_in (lcI (lcUI (lcUI (lcUI z 19 2 ((lcI z 19 2) + 1)) 31 (lcI (lcUI z 19 2 ((lcI z 19 2) + 1)) 19 11).toNatClampNeg a1) 32 (lcI (lcUI (lcUI z 19 2 ((lcI z 19 2) + 1)) 31 (lcI (lcUI z 19 2 ((lcI z 19 2) + 1)) 19 11).toNatClampNeg a1) 19 11).toNatClampNeg a2) 19 11) 408) (some ((), lcUI (lcUI (lcUI (lcUI (lcUI z 19 2 ((lcI z 19 2) + 1)) 31 (lcI (lcUI z 19 2 ((lcI z 19 2) + 1)) 19 11).toNatClampNeg a1) 32 (lcI (lcUI (lcUI z 19 2 ((lcI z 19 2) + 1)) 31 (lcI (lcUI z 19 2 ((lcI z 19 2) + 1)) 19 11).toNatClampNeg a1) 19 11).toNatClampNeg a2) 33 (lcI (lcUI (lcUI (lcUI z 19 2 ((lcI z 19 2) + 1)) 31 (lcI (lcUI z 19 2 ((lcI z 19 2) + 1)) 19 11).toNatClampNeg a1) 32 (lcI (lcUI (lcUI z 19 2 ((lcI z 19 2) + 1)) 31 (lcI (lcUI z 19 2 ((lcI z 19 2) + 1)) 19 11).toNatClampNeg a1) 19 11).toNatClampNeg a2) 19 11).toNatClampNeg 0) 19 11 ((lcI (lcUI (lcUI (lcUI (lcUI z 19 2 ((lcI z 19 2) + 1)) 31 (lcI (lcUI z 19 2 ((lcI z 19 2) + 1)) 19 11).toNatClampNeg a1) 32 (lcI (lcUI (lcUI z 19 2 ((lcI z 19 2) + 1)) 31 (lcI (lcUI z 19 2 ((lcI z 19 2) + 1)) 19 11).toNatClampNeg a1) 19 11).toNatClampNeg a2) 33 (lcI (lcUI (lcUI (lcUI z 19 2 ((lcI z 19 2) + 1)) 31 (lcI (lcUI z 19 2 ((lcI z 19 2) + 1)) 19 11).toNatClampNeg a1) 32 (lcI (lcUI (lcUI z 19 2 ((lcI z 19 2) + 1)) 31 (lcI (lcUI z 19 2 ((lcI z 19 2) + 1)) 19 11).toNatClampNeg a1) 19 11).toNatClampNeg a2) 19 11).toNatClampNeg 0) 19 11) + 1)))))) else (fM_begin_20 z))
set_option maxHeartbeats 4000000 in
set_option maxRecDepth 100000 in
theorem bM_begin_20 {p : Program} {l : Launch} {e : Env} {s : State} {m : MethodId} {args : Array Value} {below : List Frame} {meth : Method} {c : Code} {G : lc_G} (hx : p.tables.exec = Jvm.exec) (hb : c.code = prog_3_method_9_code) (hml : c.maxLocals = 3) (hr : meth.sig.returnType = none) (hlocks : meth.locks = false) (hown : s.vm.findClass "LinearCells$Machine" = some m.cls) (hts : ∀ w ∈ lc_ALL, w.before args s = true) (hE : lc_E G s) {r : Unit} {z' : lc_S} : ∀ {z : lc_S} {H : Heap} {locs : List Loc} {ls : Array Slot}, fM_begin_20 z = some (r, z') → lv_has ls 3 [(0, .ref (lc_ad G 19))] → lc_H G z s.heap H locs → W p l e (lc_rm 0) s m args below meth c H locs 0 0 (MQ below (lc_Q G none z') args s 0 0 (lc_A G)) (F0 m 20 ls []) := by
  intro z H locs ls hf hl hH
  rw [fM_begin_20] at hf
  refine lv_aload_n hx hb dM_begin_20 rfl (lv_at hl 0 rfl) ?_
  refine lv_iconst (v := 3) hx hb dM_begin_21 (by decide) ?_
  refine lc_puti hx hb hts hown hE hH fpM_70 lc_h19 rfl rfl rfl dM_begin_22 (fun H locs hH => ?_)
  exact lc_vret hx hb hr hlocks hH hf dM_begin_25
set_option maxHeartbeats 4000000 in
set_option maxRecDepth 100000 in
theorem cM_begin (l : Launch) (G : lc_G) {a1 : Int32} {a2 : Int32} {r : Unit} {z z' : lc_S} (hf : fM_begin a1 a2 z = some (r, z')) : lc_M l G yM_begin wM_begin 0 [.ref (lc_ad G 19), .int a1, .int a2] z none z' := by
  refine lc_M_of (cc := prog_3_method_9_code) (maxL := 3) (ret := none) (own := "LinearCells$Machine") (by decide) rfl (fun w h => List.mem_cons_of_mem _ h) (Nat.le_of_ble_eq_true rfl) rfl ?_
  intro p e s m below meth c hx hb hml hr hlocks hown hts hE ls hl hH
  replace hl : lv_has ls 3 [(0, .ref (lc_ad G 19)), (1, .int a1), (2, .int a2)] := hl
  rw [fM_begin] at hf
  refine lv_aload_n hx hb dM_begin_0 rfl (lv_at hl 0 rfl) ?_
  refine lc_geti hx hb hts hown hE hH flM_43 lc_h19 rfl dM_begin_1 ?_
  refine lv_sipush (v := 2000) hx hb dM_begin_4 (by decide) ?_
  refine lv_icmp_ge (tgt := 20) hx hb dM_begin_7 (by decide) (fun hc => ?_) (fun hc => ?_)
  · replace hf := lc_ite_pos hc hf
    exact bM_begin_20 hx hb hml hr hlocks hown hts hE hf (lv_sub hl [0] rfl) hH
  · replace hf := lc_ite_neg hc hf
    refine lv_aload_n hx hb dM_begin_10 rfl (lv_at hl 0 rfl) ?_
    refine lc_geti hx hb hts hown hE hH flM_73 lc_h19 rfl dM_begin_11 ?_
    refine lv_sipush (v := 408) hx hb dM_begin_14 (by decide) ?_
    refine lv_icmp_lt (tgt := 26) hx hb dM_begin_17 (by decide) (fun hc => ?_) (fun hc => ?_)
    · replace hf := lc_ite_pos hc hf
      refine lv_aload_n hx hb dM_begin_26 rfl (lv_at hl 0 rfl) ?_
      refine lv_dup hx hb dM_begin_27 rfl ?_
      refine lc_geti hx hb hts hown hE hH flM_43 lc_h19 rfl dM_begin_28 ?_
      refine lv_iconst (v := 1) hx hb dM_begin_31 (by decide) ?_
      refine lv_iadd hx hb dM_begin_32 ?_
      refine lc_puti hx hb hts hown hE hH fpM_43 lc_h19 rfl rfl rfl dM_begin_33 (fun H locs hH => ?_)
      refine lv_aload_n hx hb dM_begin_36 rfl (lv_at hl 0 rfl) ?_
      refine lc_getf (d := 12) (q := 31) hx hb hts hown hE hH flM_30 lc_h19 rfl rfl dM_begin_37 ?_
      refine lv_aload_n hx hb dM_begin_40 rfl (lv_at hl 0 rfl) ?_
      refine lc_geti hx hb hts hown hE hH flM_73 lc_h19 rfl dM_begin_41 ?_
      refine lv_iload_n hx hb dM_begin_44 rfl (lv_at hl 1 rfl) ?_
      obtain ⟨hi45, hf⟩ := lc_chk_some hf
      refine lc_iast hx hb hE hH lc_h31 rfl hi45 dM_begin_45 (fun H locs hH => ?_)
      refine lv_aload_n hx hb dM_begin_46 rfl (lv_at hl 0 rfl) ?_
      refine lc_getf (d := 13) (q := 32) hx hb hts hown hE hH flM_34 lc_h19 rfl rfl dM_begin_47 ?_
      refine lv_aload_n hx hb dM_begin_50 rfl (lv_at hl 0 rfl) ?_
      refine lc_geti hx hb hts hown hE hH flM_73 lc_h19 rfl dM_begin_51 ?_
      refine lv_iload_n hx hb dM_begin_54 rfl (lv_at hl 2 rfl) ?_
      obtain ⟨hi55, hf⟩ := lc_chk_some hf
      refine lc_iast hx hb hE hH lc_h32 rfl hi55 dM_begin_55 (fun H locs hH => ?_)
      refine lv_aload_n hx hb dM_begin_56 rfl (lv_at hl 0 rfl) ?_
      refine lc_getf (d := 14) (q := 33) hx hb hts hown hE hH flM_37 lc_h19 rfl rfl dM_begin_57 ?_
      refine lv_aload_n hx hb dM_begin_60 rfl (lv_at hl 0 rfl) ?_
      refine lc_geti hx hb hts hown hE hH flM_73 lc_h19 rfl dM_begin_61 ?_
      refine lv_iconst (v := 0) hx hb dM_begin_64 (by decide) ?_
      obtain ⟨hi65, hf⟩ := lc_chk_some hf
      refine lc_iast hx hb hE hH lc_h33 rfl hi65 dM_begin_65 (fun H locs hH => ?_)
      refine lv_aload_n hx hb dM_begin_66 rfl (lv_at hl 0 rfl) ?_
      refine lv_dup hx hb dM_begin_67 rfl ?_
      refine lc_geti hx hb hts hown hE hH flM_73 lc_h19 rfl dM_begin_68 ?_
      refine lv_iconst (v := 1) hx hb dM_begin_71 (by decide) ?_
      refine lv_iadd hx hb dM_begin_72 ?_
      refine lc_puti hx hb hts hown hE hH fpM_73 lc_h19 rfl rfl rfl dM_begin_73 (fun H locs hH => ?_)
      exact lc_vret hx hb hr hlocks hH hf dM_begin_76
    · replace hf := lc_ite_neg hc hf
      exact bM_begin_20 hx hb hml hr hlocks hown hts hE hf (lv_sub hl [0] rfl) hH
