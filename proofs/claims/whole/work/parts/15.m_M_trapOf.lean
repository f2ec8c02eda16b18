theorem dM_trapOf_0 : decode prog_3_method_6_code 0 = .ok (.aload_n 0, 1) := by decide +kernel
theorem dM_trapOf_1 : decode prog_3_method_6_code 1 = .ok (.aload_n 1, 1) := by decide +kernel
theorem dM_trapOf_2 : decode prog_3_method_6_code 2 = .ok (.putfield 64, 3) := by decide +kernel
theorem dM_trapOf_5 : decode prog_3_method_6_code 5 = .ok (.aload_n 0, 1) := by decide +kernel
theorem dM_trapOf_6 : decode prog_3_method_6_code 6 = .ok (.getfield 16, 3) := by decide +kernel
theorem dM_trapOf_9 : decode prog_3_method_6_code 9 = .ok (.invokevirtual 67, 3) := by decide +kernel
theorem dM_trapOf_12 : decode prog_3_method_6_code 12 = .ok (.aload_n 0, 1) := by decide +kernel
theorem dM_trapOf_13 : decode prog_3_method_6_code 13 = .ok (.iconst 0, 1) := by decide +kernel
theorem dM_trapOf_14 : decode prog_3_method_6_code 14 = .ok (.putfield 43, 3) := by decide +kernel
theorem dM_trapOf_17 : decode prog_3_method_6_code 17 = .ok (.aload_n 0, 1) := by decide +kernel
theorem dM_trapOf_18 : decode prog_3_method_6_code 18 = .ok (.iconst 0, 1) := by decide +kernel
theorem dM_trapOf_19 : decode prog_3_method_6_code 19 = .ok (.putfield 70, 3) := by decide +kernel
theorem dM_trapOf_22 : decode prog_3_method_6_code 22 = .ok (.aload_n 0, 1) := by decide +kernel
theorem dM_trapOf_23 : decode prog_3_method_6_code 23 = .ok (.iconst 0, 1) := by decide +kernel
theorem dM_trapOf_24 : decode prog_3_method_6_code 24 = .ok (.putfield 73, 3) := by decide +kernel
theorem dM_trapOf_27 : decode prog_3_method_6_code 27 = .ok (.aload_n 0, 1) := by decide +kernel
theorem dM_trapOf_28 : decode prog_3_method_6_code 28 = .ok (.iconst 1, 1) := by decide +kernel
theorem dM_trapOf_29 : decode prog_3_method_6_code 29 = .ok (.iload_n 3, 1) := by decide +kernel
theorem dM_trapOf_30 : decode prog_3_method_6_code 30 = .ok (.invokestatic 76, 3) := by decide +kernel
theorem dM_trapOf_33 : decode prog_3_method_6_code 33 = .ok (.putfield 47, 3) := by decide +kernel
theorem dM_trapOf_36 : decode prog_3_method_6_code 36 = .ok (.aload_n 0, 1) := by decide +kernel
theorem dM_trapOf_37 : decode prog_3_method_6_code 37 = .ok (.iload_n 2, 1) := by decide +kernel
theorem dM_trapOf_38 : decode prog_3_method_6_code 38 = .ok (.iconst 1, 1) := by decide +kernel
theorem dM_trapOf_39 : decode prog_3_method_6_code 39 = .ok (.invokevirtual 80, 3) := by decide +kernel
theorem dM_trapOf_42 : decode prog_3_method_6_code 42 = .ok (.iconst 0, 1) := by decide +kernel
theorem dM_trapOf_43 : decode prog_3_method_6_code 43 = .ok (.istore 4, 2) := by decide +kernel
theorem dM_trapOf_45 : decode prog_3_method_6_code 45 = .ok (.iload 4, 2) := by decide +kernel
theorem dM_trapOf_47 : decode prog_3_method_6_code 47 = .ok (.sipush 6000, 3) := by decide +kernel
theorem dM_trapOf_50 : decode prog_3_method_6_code 50 = .ok (.if_icmp .ge 27, 3) := by decide +kernel
theorem dM_trapOf_53 : decode prog_3_method_6_code 53 = .ok (.aload_n 0, 1) := by decide +kernel
theorem dM_trapOf_54 : decode prog_3_method_6_code 54 = .ok (.getfield 73, 3) := by decide +kernel
theorem dM_trapOf_57 : decode prog_3_method_6_code 57 = .ok (.ifCond .le 20, 3) := by decide +kernel
theorem dM_trapOf_60 : decode prog_3_method_6_code 60 = .ok (.aload_n 0, 1) := by decide +kernel
theorem dM_trapOf_61 : decode prog_3_method_6_code 61 = .ok (.getfield 70, 3) := by decide +kernel
theorem dM_trapOf_64 : decode prog_3_method_6_code 64 = .ok (.ifCond .ne 13, 3) := by decide +kernel
theorem dM_trapOf_67 : decode prog_3_method_6_code 67 = .ok (.aload_n 0, 1) := by decide +kernel
theorem dM_trapOf_68 : decode prog_3_method_6_code 68 = .ok (.invokevirtual 84, 3) := by decide +kernel
theorem dM_trapOf_71 : decode prog_3_method_6_code 71 = .ok (.iinc 4 1, 3) := by decide +kernel
theorem dM_trapOf_74 : decode prog_3_method_6_code 74 = .ok (.goto (-29), 3) := by decide +kernel
theorem dM_trapOf_77 : decode prog_3_method_6_code 77 = .ok (.aload_n 0, 1) := by decide +kernel
theorem dM_trapOf_78 : decode prog_3_method_6_code 78 = .ok (.getfield 70, 3) := by decide +kernel
theorem dM_trapOf_81 : decode prog_3_method_6_code 81 = .ok (.ifCond .eq 8, 3) := by decide +kernel
theorem dM_trapOf_84 : decode prog_3_method_6_code 84 = .ok (.aload_n 0, 1) := by decide +kernel
theorem dM_trapOf_85 : decode prog_3_method_6_code 85 = .ok (.lconst 0, 1) := by decide +kernel
theorem dM_trapOf_86 : decode prog_3_method_6_code 86 = .ok (.putfield 47, 3) := by decide +kernel
theorem dM_trapOf_89 : decode prog_3_method_6_code 89 = .ok (.aload_n 0, 1) := by decide +kernel
theorem dM_trapOf_90 : decode prog_3_method_6_code 90 = .ok (.getfield 16, 3) := by decide +kernel
theorem dM_trapOf_93 : decode prog_3_method_6_code 93 = .ok (.invokevirtual 87, 3) := by decide +kernel
theorem dM_trapOf_96 : decode prog_3_method_6_code 96 = .ok (.aload_n 0, 1) := by decide +kernel
theorem dM_trapOf_97 : decode prog_3_method_6_code 97 = .ok (.getfield 70, 3) := by decide +kernel
theorem dM_trapOf_100 : decode prog_3_method_6_code 100 = .ok (.ireturn, 1) := by decide +kernel
def fM_trapOf_89 (z : lc_S) : Option ((Int32) × lc_S) :=
  lc_bnd (fY_sumUpPairs z) (fun r93 z93 => some (lcI z93 19 3, z93))
def fM_trapOf_77 (z : lc_S) : Option ((Int32) × lc_S) :=
  if (lcI z 19 3) = 0 then (fM_trapOf_89 z) else (fM_trapOf_89 (lcUL z 19 4 0))
def fM_trapOf_45 : Nat → Int32 → lc_S → Option ((Int32) × lc_S)
  | 0, _, _ => none
  | n + 1, x4, z => if 6000 ≤ x4 then (fM_trapOf_77 z) else (if (lcI z 19 11) ≤ 0 then (fM_trapOf_77 z) else (if (lcI z 19 3) = 0 then (lc_bnd (fM_takeStep z) (fun r68 z68 => lc_let (x4 + 1) (fun x71 => fM_trapOf_45 n x71 z68))) else (fM_trapOf_77 z)))
def fM_trapOf (a1 : Nat) (a2 : Int32) (a3 : Int32) (z : lc_S) : Option ((Int32) × lc_S) :=
  lc_bnd (fY_clear (lcUR z 19 1 (some a1))) (fun r9 z9 => lc_bnd (fV_of 1 a3 (lcUI (lcUI (lcUI z9 19 2 0) 19 3 0) 19 11 0)) (fun r30 z30 => lc_bnd (fM_enter a2 1 (lcUL z30 19 4 r30)) (fun r39 z39 => fM_trapOf_45 lc_FU 0 z39)))
set_option maxHeartbeats 4000000 in
set_option maxRecDepth 100000 in
theorem bM_trapOf_89 {p : Program} {l : Launch} {e : Env} {s : State} {m : MethodId} {args : Array Value} {below : List Frame} {meth : Method} {c : Code} {G : lc_G} (hx : p.tables.exec = Jvm.exec) (hb : c.code = prog_3_method_6_code) (hml : c.maxLocals = 5) (hr : meth.sig.returnType = (some .int)) (hlocks : meth.locks = false) (hown : s.vm.findClass "LinearCells$Machine" = some m.cls) (hts : ∀ w ∈ lc_ALL, w.before args s = true) (hE : lc_E G s) {r : Int32} {z' : lc_S} : ∀ {z : lc_S} {H : Heap} {locs : List Loc} {ls : Array Slot}, fM_trapOf_89 z = some (r, z') → lv_has ls 5 [(0, .ref (lc_ad G 19))] → lc_H G z s.heap H locs → W p l e (lc_rm 5) s m args below meth c H locs 0 0 (MQ below (lc_Q G (some (.int r)) z') args s 0 0 (lc_A G)) (F0 m 89 ls []) := by
  intro z H locs ls hf hl hH
  rw [fM_trapOf_89] at hf
  refine lv_aload_n hx hb dM_trapOf_89 rfl (lv_at hl 0 rfl) ?_
  refine lc_getf (d := 1) (q := 20) hx hb hts hown hE hH flM_16 lc_h19 rfl rfl dM_trapOf_90 ?_
  obtain ⟨r93, z93, h93, hf⟩ := lc_bnd_some hf
  refine lc_callv (va_runV (As := []) (rest := []) ⟨hx, hb, hml, hown, hts⟩ (cY_sumUpPairs l G h93) (lc_cwV hts kvM_87 (lc_room (by decide) (by decide))) (lc_preV hE hH lc_h20 rfl _) rfl rfl hl.1 rfl (lv_room (Nat.le_of_ble_eq_true rfl)) dM_trapOf_93 ⟨Nat.zero_le _, Nat.zero_le _⟩) hH (fun H locs hH => ?_)
  refine lv_aload_n hx hb dM_trapOf_96 rfl (lv_at hl 0 rfl) ?_
  refine lc_geti hx hb hts hown hE hH flM_70 lc_h19 rfl dM_trapOf_97 ?_
  exact lc_iret hx hb hr hlocks hH hf dM_trapOf_100
set_option maxHeartbeats 4000000 in
set_option maxRecDepth 100000 in
theorem bM_trapOf_77 {p : Program} {l : Launch} {e : Env} {s : State} {m : MethodId} {args : Array Value} {below : List Frame} {meth : Method} {c : Code} {G : lc_G} (hx : p.tables.exec = Jvm.exec) (hb : c.code = prog_3_method_6_code) (hml : c.maxLocals = 5) (hr : meth.sig.returnType = (some .int)) (hlocks : meth.locks = false) (hown : s.vm.findClass "LinearCells$Machine" = some m.cls) (hts : ∀ w ∈ lc_ALL, w.before args s = true) (hE : lc_E G s) {r : Int32} {z' : lc_S} : ∀ {z : lc_S} {H : Heap} {locs : List Loc} {ls : Array Slot}, fM_trapOf_77 z = some (r, z') → lv_has ls 5 [(0, .ref (lc_ad G 19))] → lc_H G z s.heap H locs → W p l e (lc_rm 5) s m args below meth c H locs 0 0 (MQ below (lc_Q G (some (.int r)) z') args s 0 0 (lc_A G)) (F0 m 77 ls []) := by
  intro z H locs ls hf hl hH
  rw [fM_trapOf_77] at hf
  refine lv_aload_n hx hb dM_trapOf_77 rfl (lv_at hl 0 rfl) ?_
  refine lc_geti hx hb hts hown hE hH flM_70 lc_h19 rfl dM_trapOf_78 ?_
  refine lv_if_eq (tgt := 89) hx hb dM_trapOf_81 (by decide) (fun hc => ?_) (fun hc => ?_)
  · replace hf := lc_ite_pos hc hf
    exact bM_trapOf_89 hx hb hml hr hlocks hown hts hE hf (lv_sub hl [0] rfl) hH
  · replace hf := lc_ite_neg hc hf
    refine lv_aload_n hx hb dM_trapOf_84 rfl (lv_at hl 0 rfl) ?_
    refine lv_lconst (v := 0) hx hb dM_trapOf_85 (by decide) ?_
    refine lc_putl hx hb hts hown hE hH fpM_47 lc_h19 rfl dM_trapOf_86 (fun H locs hH => ?_)
    exact bM_trapOf_89 hx hb hml hr hlocks hown hts hE hf (lv_sub hl [0] rfl) hH
set_option maxHeartbeats 4000000 in
set_option maxRecDepth 100000 in
theorem bM_trapOf_45 {p : Program} {l : Launch} {e : Env} {s : State} {m : MethodId} {args : Array Value} {below : List Frame} {meth : Method} {c : Code} {G : lc_G} (hx : p.tables.exec = Jvm.exec) (hb : c.code = prog_3_method_6_code) (hml : c.maxLocals = 5) (hr : meth.sig.returnType = (some .int)) (hlocks : meth.locks = false) (hown : s.vm.findClass "LinearCells$Machine" = some m.cls) (hts : ∀ w ∈ lc_ALL, w.before args s = true) (hE : lc_E G s) {r : Int32} {z' : lc_S} : ∀ (n : Nat) {x4 : Int32} {z : lc_S} {H : Heap} {locs : List Loc} {ls : Array Slot}, fM_trapOf_45 n x4 z = some (r, z') → lv_has ls 5 [(0, .ref (lc_ad G 19)), (4, .int x4)] → lc_H G z s.heap H locs → W p l e (lc_rm 5) s m args below meth c H locs 0 0 (MQ below (lc_Q G (some (.int r)) z') args s 0 0 (lc_A G)) (F0 m 45 ls []) := by
  intro n
  induction n with
  | zero =>
    intro x4 z H locs ls hf hl hH
    exact absurd (show (none : Option ((Int32) × lc_S)) = some (r, z') from hf) (fun h => by cases h)
  | succ n ih =>
    intro x4 z H locs ls hf hl hH
    rw [fM_trapOf_45] at hf
    refine lv_iload hx hb dM_trapOf_45 (lv_at hl 1 rfl) ?_
    refine lv_sipush (v := 6000) hx hb dM_trapOf_47 (by decide) ?_
    refine lv_icmp_ge (tgt := 77) hx hb dM_trapOf_50 (by decide) (fun hc => ?_) (fun hc => ?_)
    · replace hf := lc_ite_pos hc hf
      exact bM_trapOf_77 hx hb hml hr hlocks hown hts hE hf (lv_sub hl [0] rfl) hH
    · replace hf := lc_ite_neg hc hf
      refine lv_aload_n hx hb dM_trapOf_53 rfl (lv_at hl 0 rfl) ?_
      refine lc_geti hx hb hts hown hE hH flM_73 lc_h19 rfl dM_trapOf_54 ?_
      refine lv_if_le (tgt := 77) hx hb dM_trapOf_57 (by decide) (fun hc => ?_) (fun hc => ?_)
      · replace hf := lc_ite_pos hc hf
        exact bM_trapOf_77 hx hb hml hr hlocks hown hts hE hf (lv_sub hl [0] rfl) hH
      · replace hf := lc_ite_neg hc hf
        refine lv_aload_n hx hb dM_trapOf_60 rfl (lv_at hl 0 rfl) ?_
        refine lc_geti hx hb hts hown hE hH flM_70 lc_h19 rfl dM_trapOf_61 ?_
        refine lv_if_ne (tgt := 77) hx hb dM_trapOf_64 (by decide) (fun hc => ?_) (fun hc => ?_)
        · replace hf := lc_ite_neg hc hf
          exact bM_trapOf_77 hx hb hml hr hlocks hown hts hE hf (lv_sub hl [0] rfl) hH
        · replace hf := lc_ite_pos hc hf
          refine lv_aload_n hx hb dM_trapOf_67 rfl (lv_at hl 0 rfl) ?_
          obtain ⟨r68, z68, h68, hf⟩ := lc_bnd_some hf
          refine lc_callv (va_runV (As := []) (rest := []) ⟨hx, hb, hml, hown, hts⟩ (cM_takeStep l G h68) (lc_cwV hts kvM_84 (lc_room (by decide) (by decide))) (lc_preV hE hH lc_h19 rfl _) rfl rfl hl.1 rfl (lv_room (Nat.le_of_ble_eq_true rfl)) dM_trapOf_68 ⟨Nat.zero_le _, Nat.zero_le _⟩) hH (fun H locs hH => ?_)
          obtain ⟨x71, e71⟩ : ∃ x : Int32, x = x4 + 1 := ⟨_, rfl⟩
          replace hf := lc_let_of e71 hf
          refine lv_iinc (k := 1) (v := x71) hx hb dM_trapOf_71 hl rfl ((lc_incv _ (by decide)).trans e71.symm) (by decide) rfl (fun ls hl => ?_)
          replace hl : lv_has ls 5 [(4, .int x71), (0, .ref (lc_ad G 19))] := hl
          refine lv_goto (tgt := 45) hx hb dM_trapOf_74 (by decide) ?_
          exact ih hf (lv_sub hl [1, 0] rfl) hH
set_option maxHeartbeats 4000000 in
set_option maxRecDepth 100000 in
theorem cM_trapOf (l : Launch) (G : lc_G) {a1 : Nat} {a2 : Int32} {a3 : Int32} {r : Int32} {z z' : lc_S} (hf : fM_trapOf a1 a2 a3 z = some (r, z')) : lc_M l G yM_trapOf wM_trapOf 5 [.ref (lc_ad G 19), .ref (lc_ad G a1), .int a2, .int a3] z (some (.int r)) z' := by
  refine lc_M_of (cc := prog_3_method_6_code) (maxL := 5) (ret := (some .int)) (own := "LinearCells$Machine") (by decide) rfl (fun w h => List.mem_cons_of_mem _ h) (Nat.le_of_ble_eq_true rfl) rfl ?_
  intro p e s m below meth c hx hb hml hr hlocks hown hts hE ls hl hH
  replace hl : lv_has ls 5 [(0, .ref (lc_ad G 19)), (1, .ref (lc_ad G a1)), (2, .int a2), (3, .int a3)] := hl
  rw [fM_trapOf] at hf
  refine lv_aload_n hx hb dM_trapOf_0 rfl (lv_at hl 0 rfl) ?_
  refine lv_aload_n hx hb dM_trapOf_1 rfl (lv_at hl 1 rfl) ?_
  refine lc_putr hx hb hts hown hE hH fpM_64 lc_h19 rfl (fun _ => rfl) (fun _ => rfl) dM_trapOf_2 (fun H locs hH => ?_)
  refine lv_aload_n hx hb dM_trapOf_5 rfl (lv_at hl 0 rfl) ?_
  refine lc_getf (d := 1) (q := 20) hx hb hts hown hE hH flM_16 lc_h19 rfl rfl dM_trapOf_6 ?_
  obtain ⟨r9, z9, h9, hf⟩ := lc_bnd_some hf
  refine lc_callv (va_runV (As := []) (rest := []) ⟨hx, hb, hml, hown, hts⟩ (cY_clear l G h9) (lc_cwV hts kvM_67 (lc_room (by decide) (by decide))) (lc_preV hE hH lc_h20 rfl _) rfl rfl hl.1 rfl (lv_room (Nat.le_of_ble_eq_true rfl)) dM_trapOf_9 ⟨Nat.zero_le _, Nat.zero_le _⟩) hH (fun H locs hH => ?_)
  refine lv_aload_n hx hb dM_trapOf_12 rfl (lv_at hl 0 rfl) ?_
  refine lv_iconst (v := 0) hx hb dM_trapOf_13 (by decide) ?_
  refine lc_puti hx hb hts hown hE hH fpM_43 lc_h19 rfl rfl rfl dM_trapOf_14 (fun H locs hH => ?_)
  refine lv_aload_n hx hb dM_trapOf_17 rfl (lv_at hl 0 rfl) ?_
  refine lv_iconst (v := 0) hx hb dM_trapOf_18 (by decide) ?_
  refine lc_puti hx hb hts hown hE hH fpM_70 lc_h19 rfl rfl rfl dM_trapOf_19 (fun H locs hH => ?_)
  refine lv_aload_n hx hb dM_trapOf_22 rfl (lv_at hl 0 rfl) ?_
  refine lv_iconst (v := 0) hx hb dM_trapOf_23 (by decide) ?_
  refine lc_puti hx hb hts hown hE hH fpM_73 lc_h19 rfl rfl rfl dM_trapOf_24 (fun H locs hH => ?_)
  refine lv_aload_n hx hb dM_trapOf_27 rfl (lv_at hl 0 rfl) ?_
  refine lv_iconst (v := 1) hx hb dM_trapOf_28 (by decide) ?_
  refine lv_iload_n hx hb dM_trapOf_29 rfl (lv_at hl 3 rfl) ?_
  obtain ⟨r30, z30, h30, hf⟩ := lc_bnd_some hf
  refine lc_calll (va_runS (As := [.int 1, .int a3]) (rest := [.ref (lc_ad G 19)]) ⟨hx, hb, hml, hown, hts⟩ (cV_of l G h30) (lc_cwS hts ksM_76 (lc_room (by decide) (by decide))) (lc_preS hE hH _) rfl rfl hl.1 rfl (lv_room (Nat.le_of_ble_eq_true rfl)) dM_trapOf_30 ⟨Nat.zero_le _, Nat.zero_le _⟩) hH (fun H locs hH => ?_)
  refine lc_putl hx hb hts hown hE hH fpM_47 lc_h19 rfl dM_trapOf_33 (fun H locs hH => ?_)
  refine lv_aload_n hx hb dM_trapOf_36 rfl (lv_at hl 0 rfl) ?_
  refine lv_iload_n hx hb dM_trapOf_37 rfl (lv_at hl 2 rfl) ?_
  refine lv_iconst (v := 1) hx hb dM_trapOf_38 (by decide) ?_
  obtain ⟨r39, z39, h39, hf⟩ := lc_bnd_some hf
  refine lc_callv (va_runV (As := [.int a2, .int 1]) (rest := []) ⟨hx, hb, hml, hown, hts⟩ (cM_enter l G h39) (lc_cwV hts kvM_80 (lc_room (by decide) (by decide))) (lc_preV hE hH lc_h19 rfl _) rfl rfl hl.1 rfl (lv_room (Nat.le_of_ble_eq_true rfl)) dM_trapOf_39 ⟨Nat.zero_le _, Nat.zero_le _⟩) hH (fun H locs hH => ?_)
  refine lv_iconst (v := 0) hx hb dM_trapOf_42 (by decide) ?_
  refine lv_istore hx hb dM_trapOf_43 hl (by decide) rfl (fun ls hl => ?_)
  replace hl : lv_has ls 5 [(4, .int 0), (0, .ref (lc_ad G 19)), (1, .ref (lc_ad G a1)), (2, .int a2), (3, .int a3)] := hl
  exact bM_trapOf_45 hx hb hml hr hlocks hown hts hE _ hf (lv_sub hl [1, 0] rfl) hH
theorem dA_run_0 : decode prog_1_method_6_code 0 = .ok (.aload_n 0, 1) := by decide +kernel
theorem dA_run_1 : decode prog_1_method_6_code 1 = .ok (.iload_n 1, 1) := by decide +kernel
theorem dA_run_2 : decode prog_1_method_6_code 2 = .ok (.invokevirtual 82, 3) := by decide +kernel
theorem dA_run_5 : decode prog_1_method_6_code 5 = .ok (.ifCond .ne 11, 3) := by decide +kernel
theorem dA_run_8 : decode prog_1_method_6_code 8 = .ok (.new 97, 3) := by decide +kernel
theorem dA_run_11 : decode prog_1_method_6_code 11 = .ok (.dup, 1) := by decide +kernel
theorem dA_run_12 : decode prog_1_method_6_code 12 = .ok (.invokespecial 99, 3) := by decide +kernel
theorem dA_run_15 : decode prog_1_method_6_code 15 = .ok (.athrow, 1) := by decide +kernel
theorem dA_run_16 : decode prog_1_method_6_code 16 = .ok (.aload_n 0, 1) := by decide +kernel
theorem dA_run_17 : decode prog_1_method_6_code 17 = .ok (.getfield 41, 3) := by decide +kernel
theorem dA_run_20 : decode prog_1_method_6_code 20 = .ok (.aload_n 0, 1) := by decide +kernel
theorem dA_run_21 : decode prog_1_method_6_code 21 = .ok (.getfield 15, 3) := by decide +kernel
theorem dA_run_24 : decode prog_1_method_6_code 24 = .ok (.iload_n 1, 1) := by decide +kernel
theorem dA_run_25 : decode prog_1_method_6_code 25 = .ok (.iload_n 2, 1) := by decide +kernel
theorem dA_run_26 : decode prog_1_method_6_code 26 = .ok (.invokevirtual 104, 3) := by decide +kernel
theorem dA_run_29 : decode prog_1_method_6_code 29 = .ok (.ireturn, 1) := by decide +kernel
def fA_run (a1 : Int32) (a2 : Int32) (z : lc_S) : Option ((Nat × Int32) × lc_S) :=
  lc_bnd (fA_isThere a1 z) (fun r2 z2 => if r2 = 0 then (some ((3, 0), z2)) else (lc_bnd (fM_trapOf 3 a1 a2 z2) (fun r26 z26 => some ((0, r26), z26))))
set_option maxHeartbeats 4000000 in
set_option maxRecDepth 100000 in
theorem cA_run (l : Launch) (G : lc_G) (htr : l.stackTraces = false) {a1 : Int32} {a2 : Int32} {r : Nat × Int32} {z z' : lc_S} (hf : fA_run a1 a2 z = some (r, z')) : lc_MT l G yA_run wA_run 8 [.ref (lc_ad G 1), .int a1, .int a2] z r z' := by
  refine lc_MT_of (cc := prog_1_method_6_code) (maxL := 3) (ret := (some .int)) (own := "LinearCells") (by decide) rfl (fun w h => List.mem_cons_of_mem _ h) (Nat.le_of_ble_eq_true rfl) rfl ?_
  intro p e s m below meth c hx hb hml hr hlocks hown hts hE hno hT hz ls hl hH
  replace hl : lv_has ls 3 [(0, .ref (lc_ad G 1)), (1, .int a1), (2, .int a2)] := hl
  rw [fA_run] at hf
  refine lv_aload_n hx hb dA_run_0 rfl (lv_at hl 0 rfl) ?_
  refine lv_iload_n hx hb dA_run_1 rfl (lv_at hl 1 rfl) ?_
  obtain ⟨r2, z2, h2, hf⟩ := lc_bnd_some hf
  refine lc_calli (va_runV (As := [.int a1]) (rest := []) ⟨hx, hb, hml, hown, hts⟩ (cA_isThere l G h2) (lc_cwV hts kvA_82 (lc_roomT (by decide) (by decide))) (lc_preV hE hH lc_h1 rfl _) rfl rfl hl.1 rfl (lv_room (Nat.le_of_ble_eq_true rfl)) dA_run_2 ⟨Nat.zero_le _, Nat.zero_le _⟩) hH (fun H locs hH => ?_)
  refine lv_if_ne (tgt := 16) hx hb dA_run_5 (by decide) (fun hc => ?_) (fun hc => ?_)
  · replace hf := lc_ite_neg hc hf
    refine lv_aload_n hx hb dA_run_16 rfl (lv_at hl 0 rfl) ?_
    refine lc_getf (d := 18) (q := 19) hx hb hts hown hE hH flA_41 lc_h1 rfl rfl dA_run_17 ?_
    refine lv_aload_n hx hb dA_run_20 rfl (lv_at hl 0 rfl) ?_
    refine lc_getf (d := 2) (q := 3) hx hb hts hown hE hH flA_15 lc_h1 rfl rfl dA_run_21 ?_
    refine lv_iload_n hx hb dA_run_24 rfl (lv_at hl 1 rfl) ?_
    refine lv_iload_n hx hb dA_run_25 rfl (lv_at hl 2 rfl) ?_
    obtain ⟨r26, z26, h26, hf⟩ := lc_bnd_some hf
    refine lc_calli (va_runV (As := [.ref (lc_ad G 3), .int a1, .int a2]) (rest := []) ⟨hx, hb, hml, hown, hts⟩ (cM_trapOf l G h26) (lc_cwV hts kvA_104 (lc_roomT (by decide) (by decide))) (lc_preV hE hH lc_h19 rfl _) rfl rfl hl.1 rfl (lv_room (Nat.le_of_ble_eq_true rfl)) dA_run_26 ⟨Nat.zero_le _, Nat.zero_le _⟩) hH (fun H locs hH => ?_)
    exact lc_iretT hx hb hr hlocks hH hf dA_run_29
  · replace hf := lc_ite_pos hc hf
    exact lc_throw (k := 3) hx hb (hml.trans hl.1.symm) hlocks hown hts hno hT hz htr (by decide) (by decide +kernel) (lc_xat3_99 hts hT) lc_xn3_99_97 lc_xi3 lc_xj3 (by decide) hH hf dA_run_8 dA_run_11 dA_run_12 dA_run_15 (Nat.le_of_ble_eq_true rfl)
theorem dM_result_0 : decode prog_3_method_4_code 0 = .ok (.aload_n 0, 1) := by decide +kernel
theorem dM_result_1 : decode prog_3_method_4_code 1 = .ok (.getfield 47, 3) := by decide +kernel
theorem dM_result_4 : decode prog_3_method_4_code 4 = .ok (.lreturn, 1) := by decide +kernel
def fM_result (z : lc_S) : Option ((Int64) × lc_S) :=
  some (lcL z 19 4, z)
set_option maxHeartbeats 4000000 in
set_option maxRecDepth 100000 in
theorem cM_result (l : Launch) (G : lc_G) {r : Int64} {z z' : lc_S} (hf : fM_result z = some (r, z')) : lc_M l G yM_result wM_result 0 [.ref (lc_ad G 19)] z (some (.long r)) z' := by
  refine lc_M_of (cc := prog_3_method_4_code) (maxL := 1) (ret := (some .long)) (own := "LinearCells$Machine") (by decide) rfl (fun w h => List.mem_cons_of_mem _ h) (Nat.le_of_ble_eq_true rfl) rfl ?_
  intro p e s m below meth c hx hb hml hr hlocks hown hts hE ls hl hH
  replace hl : lv_has ls 1 [(0, .ref (lc_ad G 19))] := hl
  rw [fM_result] at hf
  refine lv_aload_n hx hb dM_result_0 rfl (lv_at hl 0 rfl) ?_
  refine lc_getl hx hb hts hown hE hH flM_47 lc_h19 rfl dM_result_1 ?_
  exact lc_lret hx hb hr hlocks hH hf dM_result_4
theorem dV_kindOf_0 : decode prog_8_method_3_code 0 = .ok (.lload_n 0, 1) := by decide +kernel
theorem dV_kindOf_1 : decode prog_8_method_3_code 1 = .ok (.bipush 32, 2) := by decide +kernel
theorem dV_kindOf_3 : decode prog_8_method_3_code 3 = .ok (.lshr, 1) := by decide +kernel
theorem dV_kindOf_4 : decode prog_8_method_3_code 4 = .ok (.l2i, 1) := by decide +kernel
theorem dV_kindOf_5 : decode prog_8_method_3_code 5 = .ok (.ireturn, 1) := by decide +kernel
def fV_kindOf (a0 : Int64) (z : lc_S) : Option ((Int32) × lc_S) :=
  some ((a0 >>> ((32 : Int32).toInt64 &&& 63)).toInt32, z)
set_option maxHeartbeats 4000000 in
set_option maxRecDepth 100000 in
theorem cV_kindOf (l : Launch) (G : lc_G) {a0 : Int64} {r : Int32} {z z' : lc_S} (hf : fV_kindOf a0 z = some (r, z')) : lc_M l G yV_kindOf wV_kindOf 0 [.long a0] z (some (.int r)) z' := by
  refine lc_M_of (cc := prog_8_method_3_code) (maxL := 2) (ret := (some .int)) (own := "LinearCells$Value") (by decide) rfl (fun w h => List.mem_cons_of_mem _ h) (Nat.le_of_ble_eq_true rfl) rfl ?_
  intro p e s m below meth c hx hb hml hr hlocks hown hts hE ls hl hH
  replace hl : lv_has ls 2 [(0, .long a0)] := hl
  rw [fV_kindOf] at hf
  refine lv_lload_n hx hb dV_kindOf_0 rfl (lv_at hl 0 rfl) ?_
  refine lv_bipush (v := 32) hx hb dV_kindOf_1 (by decide) ?_
  refine lv_lshr hx hb dV_kindOf_3 rfl ?_
  refine lv_l2i hx hb dV_kindOf_4 rfl ?_
  exact lc_iret hx hb hr hlocks hH hf dV_kindOf_5
theorem dM_leadingNumber_0 : decode prog_3_method_5_code 0 = .ok (.aload_n 0, 1) := by decide +kernel
theorem dM_leadingNumber_1 : decode prog_3_method_5_code 1 = .ok (.getfield 47, 3) := by decide +kernel
theorem dM_leadingNumber_4 : decode prog_3_method_5_code 4 = .ok (.invokestatic 51, 3) := by decide +kernel
theorem dM_leadingNumber_7 : decode prog_3_method_5_code 7 = .ok (.ifCond .eq 13, 3) := by decide +kernel
theorem dM_leadingNumber_10 : decode prog_3_method_5_code 10 = .ok (.aload_n 0, 1) := by decide +kernel
theorem dM_leadingNumber_11 : decode prog_3_method_5_code 11 = .ok (.getfield 47, 3) := by decide +kernel
theorem dM_leadingNumber_14 : decode prog_3_method_5_code 14 = .ok (.invokestatic 57, 3) := by decide +kernel
theorem dM_leadingNumber_17 : decode prog_3_method_5_code 17 = .ok (.goto 14, 3) := by decide +kernel
theorem dM_leadingNumber_20 : decode prog_3_method_5_code 20 = .ok (.aload_n 0, 1) := by decide +kernel
theorem dM_leadingNumber_21 : decode prog_3_method_5_code 21 = .ok (.getfield 16, 3) := by decide +kernel
theorem dM_leadingNumber_24 : decode prog_3_method_5_code 24 = .ok (.aload_n 0, 1) := by decide +kernel
theorem dM_leadingNumber_25 : decode prog_3_method_5_code 25 = .ok (.getfield 47, 3) := by decide +kernel
theorem dM_leadingNumber_28 : decode prog_3_method_5_code 28 = .ok (.invokevirtual 61, 3) := by decide +kernel
theorem dM_leadingNumber_31 : decode prog_3_method_5_code 31 = .ok (.ireturn, 1) := by decide +kernel
def fM_leadingNumber (z : lc_S) : Option ((Int32) × lc_S) :=
  lc_bnd (fV_isCell (lcL z 19 4) z) (fun r4 z4 => if r4 = 0 then (lc_bnd (fY_firstNumberIn (lcL z4 19 4) z4) (fun r28 z28 => some (r28, z28))) else (lc_bnd (fV_wordOf (lcL z4 19 4) z4) (fun r14 z14 => some (r14, z14))))
set_option maxHeartbeats 4000000 in
set_option maxRecDepth 100000 in
theorem cM_leadingNumber (l : Launch) (G : lc_G) {r : Int32} {z z' : lc_S} (hf : fM_leadingNumber z = some (r, z')) : lc_M l G yM_leadingNumber wM_leadingNumber 2 [.ref (lc_ad G 19)] z (some (.int r)) z' := by
  refine lc_M_of (cc := prog_3_method_5_code) (maxL := 1) (ret := (some .int)) (own := "LinearCells$Machine") (by decide) rfl (fun w h => List.mem_cons_of_mem _ h) (Nat.le_of_ble_eq_true rfl) rfl ?_
  intro p e s m below meth c hx hb hml hr hlocks hown hts hE ls hl hH
  replace hl : lv_has ls 1 [(0, .ref (lc_ad G 19))] := hl
  rw [fM_leadingNumber] at hf
  refine lv_aload_n hx hb dM_leadingNumber_0 rfl (lv_at hl 0 rfl) ?_
  refine lc_getl hx hb hts hown hE hH flM_47 lc_h19 rfl dM_leadingNumber_1 ?_
  obtain ⟨r4, z4, h4, hf⟩ := lc_bnd_some hf
  refine lc_calli (va_runS (As := [.long (lcL z 19 4)]) (rest := []) ⟨hx, hb, hml, hown, hts⟩ (cV_isCell l G h4) (lc_cwS hts ksM_51 (lc_room (by decide) (by decide))) (lc_preS hE hH _) rfl rfl hl.1 rfl (lv_room (Nat.le_of_ble_eq_true rfl)) dM_leadingNumber_4 ⟨Nat.zero_le _, Nat.zero_le _⟩) hH (fun H locs hH => ?_)
  refine lv_if_eq (tgt := 20) hx hb dM_leadingNumber_7 (by decide) (fun hc => ?_) (fun hc => ?_)
  · replace hf := lc_ite_pos hc hf
    refine lv_aload_n hx hb dM_leadingNumber_20 rfl (lv_at hl 0 rfl) ?_
    refine lc_getf (d := 1) (q := 20) hx hb hts hown hE hH flM_16 lc_h19 rfl rfl dM_leadingNumber_21 ?_
    refine lv_aload_n hx hb dM_leadingNumber_24 rfl (lv_at hl 0 rfl) ?_
    refine lc_getl hx hb hts hown hE hH flM_47 lc_h19 rfl dM_leadingNumber_25 ?_
    obtain ⟨r28, z28, h28, hf⟩ := lc_bnd_some hf
    refine lc_calli (va_runV (As := [.long (lcL z4 19 4)]) (rest := []) ⟨hx, hb, hml, hown, hts⟩ (cY_firstNumberIn l G h28) (lc_cwV hts kvM_61 (lc_room (by decide) (by decide))) (lc_preV hE hH lc_h20 rfl _) rfl rfl hl.1 rfl (lv_room (Nat.le_of_ble_eq_true rfl)) dM_leadingNumber_28 ⟨Nat.zero_le _, Nat.zero_le _⟩) hH (fun H locs hH => ?_)
    exact lc_iret hx hb hr hlocks hH hf dM_leadingNumber_31
  · replace hf := lc_ite_neg hc hf
    refine lv_aload_n hx hb dM_leadingNumber_10 rfl (lv_at hl 0 rfl) ?_
    refine lc_getl hx hb hts hown hE hH flM_47 lc_h19 rfl dM_leadingNumber_11 ?_
    obtain ⟨r14, z14, h14, hf⟩ := lc_bnd_some hf
    refine lc_calli (va_runS (As := [.long (lcL z4 19 4)]) (rest := []) ⟨hx, hb, hml, hown, hts⟩ (cV_wordOf l G h14) (lc_cwS hts ksM_57 (lc_room (by decide) (by decide))) (lc_preS hE hH _) rfl rfl hl.1 rfl (lv_room (Nat.le_of_ble_eq_true rfl)) dM_leadingNumber_14 ⟨Nat.zero_le _, Nat.zero_le _⟩) hH (fun H locs hH => ?_)
    refine lv_goto (tgt := 31) hx hb dM_leadingNumber_17 (by decide) ?_
    exact lc_iret hx hb hr hlocks hH hf dM_leadingNumber_31
theorem dM_memory_0 : decode prog_3_method_2_code 0 = .ok (.aload_n 0, 1) := by decide +kernel
theorem dM_memory_1 : decode prog_3_method_2_code 1 = .ok (.getfield 16, 3) := by decide +kernel
theorem dM_memory_4 : decode prog_3_method_2_code 4 = .ok (.areturn, 1) := by decide +kernel
def fM_memory (z : lc_S) : Option ((Nat) × lc_S) :=
  some (20, z)
set_option maxHeartbeats 4000000 in
set_option maxRecDepth 100000 in
theorem cM_memory (l : Launch) (G : lc_G) {r : Nat} {z z' : lc_S} (hf : fM_memory z = some (r, z')) : lc_M l G yM_memory wM_memory 0 [.ref (lc_ad G 19)] z (some (.ref (lc_ad G r))) z' := by
  refine lc_M_of (cc := prog_3_method_2_code) (maxL := 1) (ret := (some (.object "LinearCells$Memory"))) (own := "LinearCells$Machine") (by decide) rfl (fun w h => List.mem_cons_of_mem _ h) (Nat.le_of_ble_eq_true rfl) rfl ?_
  intro p e s m below meth c hx hb hml hr hlocks hown hts hE ls hl hH
  replace hl : lv_has ls 1 [(0, .ref (lc_ad G 19))] := hl
  rw [fM_memory] at hf
  refine lv_aload_n hx hb dM_memory_0 rfl (lv_at hl 0 rfl) ?_
  refine lc_getf (d := 1) (q := 20) hx hb hts hown hE hH flM_16 lc_h19 rfl rfl dM_memory_1 ?_
  exact lc_aret hx hb hr (Or.inl ⟨_, rfl⟩) hlocks hH hf dM_memory_4
theorem dA_value_0 : decode prog_1_method_7_code 0 = .ok (.iload_n 1, 1) := by decide +kernel
theorem dA_value_1 : decode prog_1_method_7_code 1 = .ok (.tableswitch 86 0 3 #[31, 42, 50, 68], 31) := by decide +kernel
theorem dA_value_32 : decode prog_1_method_7_code 32 = .ok (.aload_n 0, 1) := by decide +kernel
theorem dA_value_33 : decode prog_1_method_7_code 33 = .ok (.getfield 41, 3) := by decide +kernel
theorem dA_value_36 : decode prog_1_method_7_code 36 = .ok (.invokevirtual 108, 3) := by decide +kernel
theorem dA_value_39 : decode prog_1_method_7_code 39 = .ok (.invokestatic 112, 3) := by decide +kernel
theorem dA_value_42 : decode prog_1_method_7_code 42 = .ok (.ireturn, 1) := by decide +kernel
theorem dA_value_43 : decode prog_1_method_7_code 43 = .ok (.aload_n 0, 1) := by decide +kernel
theorem dA_value_44 : decode prog_1_method_7_code 44 = .ok (.getfield 41, 3) := by decide +kernel
theorem dA_value_47 : decode prog_1_method_7_code 47 = .ok (.invokevirtual 117, 3) := by decide +kernel
theorem dA_value_50 : decode prog_1_method_7_code 50 = .ok (.ireturn, 1) := by decide +kernel
theorem dA_value_51 : decode prog_1_method_7_code 51 = .ok (.aload_n 0, 1) := by decide +kernel
theorem dA_value_52 : decode prog_1_method_7_code 52 = .ok (.getfield 41, 3) := by decide +kernel
theorem dA_value_55 : decode prog_1_method_7_code 55 = .ok (.invokevirtual 121, 3) := by decide +kernel
theorem dA_value_58 : decode prog_1_method_7_code 58 = .ok (.aload_n 0, 1) := by decide +kernel
theorem dA_value_59 : decode prog_1_method_7_code 59 = .ok (.getfield 41, 3) := by decide +kernel
theorem dA_value_62 : decode prog_1_method_7_code 62 = .ok (.invokevirtual 108, 3) := by decide +kernel
theorem dA_value_65 : decode prog_1_method_7_code 65 = .ok (.invokevirtual 125, 3) := by decide +kernel
theorem dA_value_68 : decode prog_1_method_7_code 68 = .ok (.ireturn, 1) := by decide +kernel
theorem dA_value_69 : decode prog_1_method_7_code 69 = .ok (.aload_n 0, 1) := by decide +kernel
theorem dA_value_70 : decode prog_1_method_7_code 70 = .ok (.getfield 41, 3) := by decide +kernel
theorem dA_value_73 : decode prog_1_method_7_code 73 = .ok (.invokevirtual 121, 3) := by decide +kernel
theorem dA_value_76 : decode prog_1_method_7_code 76 = .ok (.aload_n 0, 1) := by decide +kernel
theorem dA_value_77 : decode prog_1_method_7_code 77 = .ok (.getfield 41, 3) := by decide +kernel
theorem dA_value_80 : decode prog_1_method_7_code 80 = .ok (.invokevirtual 108, 3) := by decide +kernel
theorem dA_value_83 : decode prog_1_method_7_code 83 = .ok (.invokevirtual 130, 3) := by decide +kernel
theorem dA_value_86 : decode prog_1_method_7_code 86 = .ok (.ireturn, 1) := by decide +kernel
theorem dA_value_87 : decode prog_1_method_7_code 87 = .ok (.new 65, 3) := by decide +kernel
theorem dA_value_90 : decode prog_1_method_7_code 90 = .ok (.dup, 1) := by decide +kernel
theorem dA_value_91 : decode prog_1_method_7_code 91 = .ok (.invokespecial 67, 3) := by decide +kernel
theorem dA_value_94 : decode prog_1_method_7_code 94 = .ok (.athrow, 1) := by decide +kernel
def fA_value (a1 : Int32) (z : lc_S) : Option ((Nat × Int32) × lc_S) :=
  if a1 = 0 then (lc_bnd (fM_result z) (fun r36 z36 => lc_bnd (fV_kindOf r36 z36) (fun r39 z39 => some ((0, r39), z39)))) else (if a1 = 1 then (lc_bnd (fM_leadingNumber z) (fun r47 z47 => some ((0, r47), z47))) else (if a1 = 2 then (lc_bnd (fM_memory z) (fun r55 z55 => lc_chk (r55 = 20) (lc_bnd (fM_result z55) (fun r62 z62 => lc_bnd (fY_cellsIn r62 z62) (fun r65 z65 => some ((0, r65), z65)))))) else (if a1 = 3 then (lc_bnd (fM_memory z) (fun r73 z73 => lc_chk (r73 = 20) (lc_bnd (fM_result z73) (fun r80 z80 => lc_bnd (fY_numbersIn r80 z80) (fun r83 z83 => some ((0, r83), z83)))))) else (some ((1, 0), z)))))
set_option maxHeartbeats 4000000 in
set_option maxRecDepth 100000 in
theorem cA_value (l : Launch) (G : lc_G) (htr : l.stackTraces = false) {a1 : Int32} {r : Nat × Int32} {z z' : lc_S} (hf : fA_value a1 z = some (r, z')) : lc_MT l G yA_value wA_value 8 [.ref (lc_ad G 1), .int a1] z r z' := by
  refine lc_MT_of (cc := prog_1_method_7_code) (maxL := 2) (ret := (some .int)) (own := "LinearCells") (by decide) rfl (fun w h => List.mem_cons_of_mem _ h) (Nat.le_of_ble_eq_true rfl) rfl ?_
  intro p e s m below meth c hx hb hml hr hlocks hown hts hE hno hT hz ls hl hH
  replace hl : lv_has ls 2 [(0, .ref (lc_ad G 1)), (1, .int a1)] := hl
  rw [fA_value] at hf
  refine lv_iload_n hx hb dA_value_0 rfl (lv_at hl 1 rfl) ?_
  by_cases hc0 : a1 = 0
  · replace hf := lc_ite_pos hc0 hf
    refine lv_tableIn (tgt := 32) hx hb dA_value_1 (by rw [hc0]; decide) (by rw [hc0]; decide) (by rw [hc0] <;> rfl) (by decide) ?_
    refine lv_aload_n hx hb dA_value_32 rfl (lv_at hl 0 rfl) ?_
    refine lc_getf (d := 18) (q := 19) hx hb hts hown hE hH flA_41 lc_h1 rfl rfl dA_value_33 ?_
    obtain ⟨r36, z36, h36, hf⟩ := lc_bnd_some hf
    refine lc_calll (va_runV (As := []) (rest := []) ⟨hx, hb, hml, hown, hts⟩ (cM_result l G h36) (lc_cwV hts kvA_108 (lc_roomT (by decide) (by decide))) (lc_preV hE hH lc_h19 rfl _) rfl rfl hl.1 rfl (lv_room (Nat.le_of_ble_eq_true rfl)) dA_value_36 ⟨Nat.zero_le _, Nat.zero_le _⟩) hH (fun H locs hH => ?_)
    obtain ⟨r39, z39, h39, hf⟩ := lc_bnd_some hf
    refine lc_calli (va_runS (As := [.long r36]) (rest := []) ⟨hx, hb, hml, hown, hts⟩ (cV_kindOf l G h39) (lc_cwS hts ksA_112 (lc_roomT (by decide) (by decide))) (lc_preS hE hH _) rfl rfl hl.1 rfl (lv_room (Nat.le_of_ble_eq_true rfl)) dA_value_39 ⟨Nat.zero_le _, Nat.zero_le _⟩) hH (fun H locs hH => ?_)
    exact lc_iretT hx hb hr hlocks hH hf dA_value_42
  replace hf := lc_ite_neg hc0 hf
  by_cases hc1 : a1 = 1
  · replace hf := lc_ite_pos hc1 hf
    refine lv_tableIn (tgt := 43) hx hb dA_value_1 (by rw [hc1]; decide) (by rw [hc1]; decide) (by rw [hc1] <;> rfl) (by decide) ?_
    refine lv_aload_n hx hb dA_value_43 rfl (lv_at hl 0 rfl) ?_
    refine lc_getf (d := 18) (q := 19) hx hb hts hown hE hH flA_41 lc_h1 rfl rfl dA_value_44 ?_
    obtain ⟨r47, z47, h47, hf⟩ := lc_bnd_some hf
    refine lc_calli (va_runV (As := []) (rest := []) ⟨hx, hb, hml, hown, hts⟩ (cM_leadingNumber l G h47) (lc_cwV hts kvA_117 (lc_roomT (by decide) (by decide))) (lc_preV hE hH lc_h19 rfl _) rfl rfl hl.1 rfl (lv_room (Nat.le_of_ble_eq_true rfl)) dA_value_47 ⟨Nat.zero_le _, Nat.zero_le _⟩) hH (fun H locs hH => ?_)
    exact lc_iretT hx hb hr hlocks hH hf dA_value_50
  replace hf := lc_ite_neg hc1 hf
  by_cases hc2 : a1 = 2
  · replace hf := lc_ite_pos hc2 hf
    refine lv_tableIn (tgt := 51) hx hb dA_value_1 (by rw [hc2]; decide) (by rw [hc2]; decide) (by rw [hc2] <;> rfl) (by decide) ?_
    refine lv_aload_n hx hb dA_value_51 rfl (lv_at hl 0 rfl) ?_
    refine lc_getf (d := 18) (q := 19) hx hb hts hown hE hH flA_41 lc_h1 rfl rfl dA_value_52 ?_
    obtain ⟨r55, z55, h55, hf⟩ := lc_bnd_some hf
    refine lc_calla (va_runV (As := []) (rest := []) ⟨hx, hb, hml, hown, hts⟩ (cM_memory l G h55) (lc_cwV hts kvA_121 (lc_roomT (by decide) (by decide))) (lc_preV hE hH lc_h19 rfl _) rfl rfl hl.1 rfl (lv_room (Nat.le_of_ble_eq_true rfl)) dA_value_55 ⟨Nat.zero_le _, Nat.zero_le _⟩) hH (fun H locs hH => ?_)
    replace hf := lc_chk_some hf
    obtain ⟨hm55, hf⟩ := hf
    subst hm55
    refine lv_aload_n hx hb dA_value_58 rfl (lv_at hl 0 rfl) ?_
    refine lc_getf (d := 18) (q := 19) hx hb hts hown hE hH flA_41 lc_h1 rfl rfl dA_value_59 ?_
    obtain ⟨r62, z62, h62, hf⟩ := lc_bnd_some hf
    refine lc_calll (va_runV (As := []) (rest := [.ref (lc_ad G 20)]) ⟨hx, hb, hml, hown, hts⟩ (cM_result l G h62) (lc_cwV hts kvA_108 (lc_roomT (by decide) (by decide))) (lc_preV hE hH lc_h19 rfl _) rfl rfl hl.1 rfl (lv_room (Nat.le_of_ble_eq_true rfl)) dA_value_62 ⟨Nat.zero_le _, Nat.zero_le _⟩) hH (fun H locs hH => ?_)
    obtain ⟨r65, z65, h65, hf⟩ := lc_bnd_some hf
    refine lc_calli (va_runV (As := [.long r62]) (rest := []) ⟨hx, hb, hml, hown, hts⟩ (cY_cellsIn l G h65) (lc_cwV hts kvA_125 (lc_roomT (by decide) (by decide))) (lc_preV hE hH lc_h20 rfl _) rfl rfl hl.1 rfl (lv_room (Nat.le_of_ble_eq_true rfl)) dA_value_65 ⟨Nat.zero_le _, Nat.zero_le _⟩) hH (fun H locs hH => ?_)
    exact lc_iretT hx hb hr hlocks hH hf dA_value_68
  replace hf := lc_ite_neg hc2 hf
  by_cases hc3 : a1 = 3
  · replace hf := lc_ite_pos hc3 hf
    refine lv_tableIn (tgt := 69) hx hb dA_value_1 (by rw [hc3]; decide) (by rw [hc3]; decide) (by rw [hc3] <;> rfl) (by decide) ?_
    refine lv_aload_n hx hb dA_value_69 rfl (lv_at hl 0 rfl) ?_
    refine lc_getf (d := 18) (q := 19) hx hb hts hown hE hH flA_41 lc_h1 rfl rfl dA_value_70 ?_
    obtain ⟨r73, z73, h73, hf⟩ := lc_bnd_some hf
    refine lc_calla (va_runV (As := []) (rest := []) ⟨hx, hb, hml, hown, hts⟩ (cM_memory l G h73) (lc_cwV hts kvA_121 (lc_roomT (by decide) (by decide))) (lc_preV hE hH lc_h19 rfl _) rfl rfl hl.1 rfl (lv_room (Nat.le_of_ble_eq_true rfl)) dA_value_73 ⟨Nat.zero_le _, Nat.zero_le _⟩) hH (fun H locs hH => ?_)
    replace hf := lc_chk_some hf
    obtain ⟨hm73, hf⟩ := hf
    subst hm73
    refine lv_aload_n hx hb dA_value_76 rfl (lv_at hl 0 rfl) ?_
    refine lc_getf (d := 18) (q := 19) hx hb hts hown hE hH flA_41 lc_h1 rfl rfl dA_value_77 ?_
    obtain ⟨r80, z80, h80, hf⟩ := lc_bnd_some hf
    refine lc_calll (va_runV (As := []) (rest := [.ref (lc_ad G 20)]) ⟨hx, hb, hml, hown, hts⟩ (cM_result l G h80) (lc_cwV hts kvA_108 (lc_roomT (by decide) (by decide))) (lc_preV hE hH lc_h19 rfl _) rfl rfl hl.1 rfl (lv_room (Nat.le_of_ble_eq_true rfl)) dA_value_80 ⟨Nat.zero_le _, Nat.zero_le _⟩) hH (fun H locs hH => ?_)
    obtain ⟨r83, z83, h83, hf⟩ := lc_bnd_some hf
    refine lc_calli (va_runV (As := [.long r80]) (rest := []) ⟨hx, hb, hml, hown, hts⟩ (cY_numbersIn l G h83) (lc_cwV hts kvA_130 (lc_roomT (by decide) (by decide))) (lc_preV hE hH lc_h20 rfl _) rfl rfl hl.1 rfl (lv_room (Nat.le_of_ble_eq_true rfl)) dA_value_83 ⟨Nat.zero_le _, Nat.zero_le _⟩) hH (fun H locs hH => ?_)
    exact lc_iretT hx hb hr hlocks hH hf dA_value_86
  replace hf := lc_ite_neg hc3 hf
  have nhc0 := lv_neT (a := 0) hc0 (by decide)
  have nhc1 := lv_neT (a := 1) hc1 (by decide)
  have nhc2 := lv_neT (a := 2) hc2 (by decide)
  have nhc3 := lv_neT (a := 3) hc3 (by decide)
  refine lv_tableOut (tgt := 87) hx hb dA_value_1 (by omega) (by decide) ?_
  exact lc_throw (k := 1) hx hb (hml.trans hl.1.symm) hlocks hown hts hno hT hz htr (by decide) (by decide +kernel) (lc_xat1_67 hts hT) lc_xn1_67_65 lc_xi1 lc_xj1 (by decide) hH hf dA_value_87 dA_value_90 dA_value_91 dA_value_94 (Nat.le_of_ble_eq_true rfl)
theorem dY_cellsMade_0 : decode prog_4_method_3_code 0 = .ok (.aload_n 0, 1) := by decide +kernel
theorem dY_cellsMade_1 : decode prog_4_method_3_code 1 = .ok (.getfield 38, 3) := by decide +kernel
theorem dY_cellsMade_4 : decode prog_4_method_3_code 4 = .ok (.ireturn, 1) := by decide +kernel
def fY_cellsMade (z : lc_S) : Option ((Int32) × lc_S) :=
  some (lcI z 20 2, z)
set_option maxHeartbeats 4000000 in
set_option maxRecDepth 100000 in
theorem cY_cellsMade (l : Launch) (G : lc_G) {r : Int32} {z z' : lc_S} (hf : fY_cellsMade z = some (r, z')) : lc_M l G yY_cellsMade wY_cellsMade 0 [.ref (lc_ad G 20)] z (some (.int r)) z' := by
  refine lc_M_of (cc := prog_4_method_3_code) (maxL := 1) (ret := (some .int)) (own := "LinearCells$Memory") (by decide) rfl (fun w h => List.mem_cons_of_mem _ h) (Nat.le_of_ble_eq_true rfl) rfl ?_
  intro p e s m below meth c hx hb hml hr hlocks hown hts hE ls hl hH
  replace hl : lv_has ls 1 [(0, .ref (lc_ad G 20))] := hl
  rw [fY_cellsMade] at hf
  refine lv_aload_n hx hb dY_cellsMade_0 rfl (lv_at hl 0 rfl) ?_
  refine lc_geti hx hb hts hown hE hH flY_38 lc_h20 rfl dY_cellsMade_1 ?_
  exact lc_iret hx hb hr hlocks hH hf dY_cellsMade_4
theorem dY_cellsFreed_0 : decode prog_4_method_4_code 0 = .ok (.aload_n 0, 1) := by decide +kernel
theorem dY_cellsFreed_1 : decode prog_4_method_4_code 1 = .ok (.getfield 42, 3) := by decide +kernel
theorem dY_cellsFreed_4 : decode prog_4_method_4_code 4 = .ok (.ireturn, 1) := by decide +kernel
def fY_cellsFreed (z : lc_S) : Option ((Int32) × lc_S) :=
  some (lcI z 20 3, z)
set_option maxHeartbeats 4000000 in
set_option maxRecDepth 100000 in
theorem cY_cellsFreed (l : Launch) (G : lc_G) {r : Int32} {z z' : lc_S} (hf : fY_cellsFreed z = some (r, z')) : lc_M l G yY_cellsFreed wY_cellsFreed 0 [.ref (lc_ad G 20)] z (some (.int r)) z' := by
  refine lc_M_of (cc := prog_4_method_4_code) (maxL := 1) (ret := (some .int)) (own := "LinearCells$Memory") (by decide) rfl (fun w h => List.mem_cons_of_mem _ h) (Nat.le_of_ble_eq_true rfl) rfl ?_
  intro p e s m below meth c hx hb hml hr hlocks hown hts hE ls hl hH
  replace hl : lv_has ls 1 [(0, .ref (lc_ad G 20))] := hl
  rw [fY_cellsFreed] at hf
  refine lv_aload_n hx hb dY_cellsFreed_0 rfl (lv_at hl 0 rfl) ?_
  refine lc_geti hx hb hts hown hE hH flY_42 lc_h20 rfl dY_cellsFreed_1 ?_
  exact lc_iret hx hb hr hlocks hH hf dY_cellsFreed_4
theorem dM_expressionsBegun_0 : decode prog_3_method_3_code 0 = .ok (.aload_n 0, 1) := by decide +kernel
theorem dM_expressionsBegun_1 : decode prog_3_method_3_code 1 = .ok (.getfield 43, 3) := by decide +kernel
theorem dM_expressionsBegun_4 : decode prog_3_method_3_code 4 = .ok (.ireturn, 1) := by decide +kernel
def fM_expressionsBegun (z : lc_S) : Option ((Int32) × lc_S) :=
  some (lcI z 19 2, z)
set_option maxHeartbeats 4000000 in
set_option maxRecDepth 100000 in
theorem cM_expressionsBegun (l : Launch) (G : lc_G) {r : Int32} {z z' : lc_S} (hf : fM_expressionsBegun z = some (r, z')) : lc_M l G yM_expressionsBegun wM_expressionsBegun 0 [.ref (lc_ad G 19)] z (some (.int r)) z' := by
  refine lc_M_of (cc := prog_3_method_3_code) (maxL := 1) (ret := (some .int)) (own := "LinearCells$Machine") (by decide) rfl (fun w h => List.mem_cons_of_mem _ h) (Nat.le_of_ble_eq_true rfl) rfl ?_
  intro p e s m below meth c hx hb hml hr hlocks hown hts hE ls hl hH
  replace hl : lv_has ls 1 [(0, .ref (lc_ad G 19))] := hl
  rw [fM_expressionsBegun] at hf
  refine lv_aload_n hx hb dM_expressionsBegun_0 rfl (lv_at hl 0 rfl) ?_
  refine lc_geti hx hb hts hown hE hH flM_43 lc_h19 rfl dM_expressionsBegun_1 ?_
  exact lc_iret hx hb hr hlocks hH hf dM_expressionsBegun_4
theorem dA_heap_0 : decode prog_1_method_8_code 0 = .ok (.iload_n 1, 1) := by decide +kernel
theorem dA_heap_1 : decode prog_1_method_8_code 1 = .ok (.tableswitch 98 0 4 #[35, 57, 68, 79, 90], 35) := by decide +kernel
theorem dA_heap_36 : decode prog_1_method_8_code 36 = .ok (.aload_n 0, 1) := by decide +kernel
theorem dA_heap_37 : decode prog_1_method_8_code 37 = .ok (.getfield 41, 3) := by decide +kernel
theorem dA_heap_40 : decode prog_1_method_8_code 40 = .ok (.invokevirtual 121, 3) := by decide +kernel
theorem dA_heap_43 : decode prog_1_method_8_code 43 = .ok (.invokevirtual 133, 3) := by decide +kernel
theorem dA_heap_46 : decode prog_1_method_8_code 46 = .ok (.aload_n 0, 1) := by decide +kernel
theorem dA_heap_47 : decode prog_1_method_8_code 47 = .ok (.getfield 41, 3) := by decide +kernel
theorem dA_heap_50 : decode prog_1_method_8_code 50 = .ok (.invokevirtual 121, 3) := by decide +kernel
theorem dA_heap_53 : decode prog_1_method_8_code 53 = .ok (.invokevirtual 136, 3) := by decide +kernel
theorem dA_heap_56 : decode prog_1_method_8_code 56 = .ok (.isub, 1) := by decide +kernel
theorem dA_heap_57 : decode prog_1_method_8_code 57 = .ok (.ireturn, 1) := by decide +kernel
theorem dA_heap_58 : decode prog_1_method_8_code 58 = .ok (.aload_n 0, 1) := by decide +kernel
theorem dA_heap_59 : decode prog_1_method_8_code 59 = .ok (.getfield 41, 3) := by decide +kernel
theorem dA_heap_62 : decode prog_1_method_8_code 62 = .ok (.invokevirtual 121, 3) := by decide +kernel
theorem dA_heap_65 : decode prog_1_method_8_code 65 = .ok (.invokevirtual 133, 3) := by decide +kernel
theorem dA_heap_68 : decode prog_1_method_8_code 68 = .ok (.ireturn, 1) := by decide +kernel
theorem dA_heap_69 : decode prog_1_method_8_code 69 = .ok (.aload_n 0, 1) := by decide +kernel
theorem dA_heap_70 : decode prog_1_method_8_code 70 = .ok (.getfield 41, 3) := by decide +kernel
theorem dA_heap_73 : decode prog_1_method_8_code 73 = .ok (.invokevirtual 121, 3) := by decide +kernel
theorem dA_heap_76 : decode prog_1_method_8_code 76 = .ok (.invokevirtual 136, 3) := by decide +kernel
theorem dA_heap_79 : decode prog_1_method_8_code 79 = .ok (.ireturn, 1) := by decide +kernel
theorem dA_heap_80 : decode prog_1_method_8_code 80 = .ok (.aload_n 0, 1) := by decide +kernel
theorem dA_heap_81 : decode prog_1_method_8_code 81 = .ok (.getfield 41, 3) := by decide +kernel
theorem dA_heap_84 : decode prog_1_method_8_code 84 = .ok (.invokevirtual 121, 3) := by decide +kernel
theorem dA_heap_87 : decode prog_1_method_8_code 87 = .ok (.invokevirtual 139, 3) := by decide +kernel
theorem dA_heap_90 : decode prog_1_method_8_code 90 = .ok (.ireturn, 1) := by decide +kernel
theorem dA_heap_91 : decode prog_1_method_8_code 91 = .ok (.aload_n 0, 1) := by decide +kernel
theorem dA_heap_92 : decode prog_1_method_8_code 92 = .ok (.getfield 41, 3) := by decide +kernel
theorem dA_heap_95 : decode prog_1_method_8_code 95 = .ok (.invokevirtual 142, 3) := by decide +kernel
theorem dA_heap_98 : decode prog_1_method_8_code 98 = .ok (.ireturn, 1) := by decide +kernel
theorem dA_heap_99 : decode prog_1_method_8_code 99 = .ok (.new 65, 3) := by decide +kernel
theorem dA_heap_102 : decode prog_1_method_8_code 102 = .ok (.dup, 1) := by decide +kernel
theorem dA_heap_103 : decode prog_1_method_8_code 103 = .ok (.invokespecial 67, 3) := by decide +kernel
theorem dA_heap_106 : decode prog_1_method_8_code 106 = .ok (.athrow, 1) := by decide +kernel
def fA_heap (a1 : Int32) (z : lc_S) : Option ((Nat × Int32) × lc_S) :=
  if a1 = 0 then (lc_bnd (fM_memory z) (fun r40 z40 => lc_chk (r40 = 20) (lc_bnd (fY_cellsMade z40) (fun r43 z43 => lc_bnd (fM_memory z43) (fun r50 z50 => lc_chk (r50 = 20) (lc_bnd (fY_cellsFreed z50) (fun r53 z53 => some ((0, r43 - r53), z53)))))))) else (if a1 = 1 then (lc_bnd (fM_memory z) (fun r62 z62 => lc_chk (r62 = 20) (lc_bnd (fY_cellsMade z62) (fun r65 z65 => some ((0, r65), z65))))) else (if a1 = 2 then (lc_bnd (fM_memory z) (fun r73 z73 => lc_chk (r73 = 20) (lc_bnd (fY_cellsFreed z73) (fun r76 z76 => some ((0, r76), z76))))) else (if a1 = 3 then (lc_bnd (fM_memory z) (fun r84 z84 => lc_chk (r84 = 20) (lc_bnd (fY_pairsMade z84) (fun r87 z87 => some ((0, r87), z87))))) else (if a1 = 4 then (lc_bnd (fM_expressionsBegun z) (fun r95 z95 => some ((0, r95), z95))) else (some ((1, 0), z))))))
set_option maxHeartbeats 4000000 in
set_option maxRecDepth 100000 in
theorem cA_heap (l : Launch) (G : lc_G) (htr : l.stackTraces = false) {a1 : Int32} {r : Nat × Int32} {z z' : lc_S} (hf : fA_heap a1 z = some (r, z')) : lc_MT l G yA_heap wA_heap 8 [.ref (lc_ad G 1), .int a1] z r z' := by
  refine lc_MT_of (cc := prog_1_method_8_code) (maxL := 2) (ret := (some .int)) (own := "LinearCells") (by decide) rfl (fun w h => List.mem_cons_of_mem _ h) (Nat.le_of_ble_eq_true rfl) rfl ?_
  intro p e s m below meth c hx hb hml hr hlocks hown hts hE hno hT hz ls hl hH
  replace hl : lv_has ls 2 [(0, .ref (lc_ad G 1)), (1, .int a1)] := hl
  rw [fA_heap] at hf
  refine lv_iload_n hx hb dA_heap_0 rfl (lv_at hl 1 rfl) ?_
  by_cases hc0 : a1 = 0
  · replace hf := lc_ite_pos hc0 hf
    refine lv_tableIn (tgt := 36) hx hb dA_heap_1 (by rw [hc0]; decide) (by rw [hc0]; decide) (by rw [hc0] <;> rfl) (by decide) ?_
    refine lv_aload_n hx hb dA_heap_36 rfl (lv_at hl 0 rfl) ?_
    refine lc_getf (d := 18) (q := 19) hx hb hts hown hE hH flA_41 lc_h1 rfl rfl dA_heap_37 ?_
    obtain ⟨r40, z40, h40, hf⟩ := lc_bnd_some hf
    refine lc_calla (va_runV (As := []) (rest := []) ⟨hx, hb, hml, hown, hts⟩ (cM_memory l G h40) (lc_cwV hts kvA_121 (lc_roomT (by decide) (by decide))) (lc_preV hE hH lc_h19 rfl _) rfl rfl hl.1 rfl (lv_room (Nat.le_of_ble_eq_true rfl)) dA_heap_40 ⟨Nat.zero_le _, Nat.zero_le _⟩) hH (fun H locs hH => ?_)
    replace hf := lc_chk_some hf
    obtain ⟨hm40, hf⟩ := hf
    subst hm40
    obtain ⟨r43, z43, h43, hf⟩ := lc_bnd_some hf
    refine lc_calli (va_runV (As := []) (rest := []) ⟨hx, hb, hml, hown, hts⟩ (cY_cellsMade l G h43) (lc_cwV hts kvA_133 (lc_roomT (by decide) (by decide))) (lc_preV hE hH lc_h20 rfl _) rfl rfl hl.1 rfl (lv_room (Nat.le_of_ble_eq_true rfl)) dA_heap_43 ⟨Nat.zero_le _, Nat.zero_le _⟩) hH (fun H locs hH => ?_)
    refine lv_aload_n hx hb dA_heap_46 rfl (lv_at hl 0 rfl) ?_
    refine lc_getf (d := 18) (q := 19) hx hb hts hown hE hH flA_41 lc_h1 rfl rfl dA_heap_47 ?_
    obtain ⟨r50, z50, h50, hf⟩ := lc_bnd_some hf
    refine lc_calla (va_runV (As := []) (rest := [.int r43]) ⟨hx, hb, hml, hown, hts⟩ (cM_memory l G h50) (lc_cwV hts kvA_121 (lc_roomT (by decide) (by decide))) (lc_preV hE hH lc_h19 rfl _) rfl rfl hl.1 rfl (lv_room (Nat.le_of_ble_eq_true rfl)) dA_heap_50 ⟨Nat.zero_le _, Nat.zero_le _⟩) hH (fun H locs hH => ?_)
    replace hf := lc_chk_some hf
    obtain ⟨hm50, hf⟩ := hf
    subst hm50
    obtain ⟨r53, z53, h53, hf⟩ := lc_bnd_some hf
    refine lc_calli (va_runV (As := []) (rest := [.int r43]) ⟨hx, hb, hml, hown, hts⟩ (cY_cellsFreed l G h53) (lc_cwV hts kvA_136 (lc_roomT (by decide) (by decide))) (lc_preV hE hH lc_h20 rfl _) rfl rfl hl.1 rfl (lv_room (Nat.le_of_ble_eq_true rfl)) dA_heap_53 ⟨Nat.zero_le _, Nat.zero_le _⟩) hH (fun H locs hH => ?_)
    refine lv_isub hx hb dA_heap_56 ?_
    exact lc_iretT hx hb hr hlocks hH hf dA_heap_57
  replace hf := lc_ite_neg hc0 hf
  by_cases hc1 : a1 = 1
  · replace hf := lc_ite_pos hc1 hf
    refine lv_tableIn (tgt := 58) hx hb dA_heap_1 (by rw [hc1]; decide) (by rw [hc1]; decide) (by rw [hc1] <;> rfl) (by decide) ?_
    refine lv_aload_n hx hb dA_heap_58 rfl (lv_at hl 0 rfl) ?_
    refine lc_getf (d := 18) (q := 19) hx hb hts hown hE hH flA_41 lc_h1 rfl rfl dA_heap_59 ?_
    obtain ⟨r62, z62, h62, hf⟩ := lc_bnd_some hf
    refine lc_calla (va_runV (As := []) (rest := []) ⟨hx, hb, hml, hown, hts⟩ (cM_memory l G h62) (lc_cwV hts kvA_121 (lc_roomT (by decide) (by decide))) (lc_preV hE hH lc_h19 rfl _) rfl rfl hl.1 rfl (lv_room (Nat.le_of_ble_eq_true rfl)) dA_heap_62 ⟨Nat.zero_le _, Nat.zero_le _⟩) hH (fun H locs hH => ?_)
    replace hf := lc_chk_some hf
    obtain ⟨hm62, hf⟩ := hf
    subst hm62
    obtain ⟨r65, z65, h65, hf⟩ := lc_bnd_some hf
    refine lc_calli (va_runV (As := []) (rest := []) ⟨hx, hb, hml, hown, hts⟩ (cY_cellsMade l G h65) (lc_cwV hts kvA_133 (lc_roomT (by decide) (by decide))) (lc_preV hE hH lc_h20 rfl _) rfl rfl hl.1 rfl (lv_room (Nat.le_of_ble_eq_true rfl)) dA_heap_65 ⟨Nat.zero_le _, Nat.zero_le _⟩) hH (fun H locs hH => ?_)
    exact lc_iretT hx hb hr hlocks hH hf dA_heap_68
  replace hf := lc_ite_neg hc1 hf
  by_cases hc2 : a1 = 2
  · replace hf := lc_ite_pos hc2 hf
    refine lv_tableIn (tgt := 69) hx hb dA_heap_1 (by rw [hc2]; decide) (by rw [hc2]; decide) (by rw [hc2] <;> rfl) (by decide) ?_
    refine lv_aload_n hx hb dA_heap_69 rfl (lv_at hl 0 rfl) ?_
    refine lc_getf (d := 18) (q := 19) hx hb hts hown hE hH flA_41 lc_h1 rfl rfl dA_heap_70 ?_
    obtain ⟨r73, z73, h73, hf⟩ := lc_bnd_some hf
    refine lc_calla (va_runV (As := []) (rest := []) ⟨hx, hb, hml, hown, hts⟩ (cM_memory l G h73) (lc_cwV hts kvA_121 (lc_roomT (by decide) (by decide))) (lc_preV hE hH lc_h19 rfl _) rfl rfl hl.1 rfl (lv_room (Nat.le_of_ble_eq_true rfl)) dA_heap_73 ⟨Nat.zero_le _, Nat.zero_le _⟩) hH (fun H locs hH => ?_)
    replace hf := lc_chk_some hf
    obtain ⟨hm73, hf⟩ := hf
    subst hm73
    obtain ⟨r76, z76, h76, hf⟩ := lc_bnd_some hf
    refine lc_calli (va_runV (As := []) (rest := []) ⟨hx, hb, hml, hown, hts⟩ (cY_cellsFreed l G h76) (lc_cwV hts kvA_136 (lc_roomT (by decide) (by decide))) (lc_preV hE hH lc_h20 rfl _) rfl rfl hl.1 rfl (lv_room (Nat.le_of_ble_eq_true rfl)) dA_heap_76 ⟨Nat.zero_le _, Nat.zero_le _⟩) hH (fun H locs hH => ?_)
    exact lc_iretT hx hb hr hlocks hH hf dA_heap_79
  replace hf := lc_ite_neg hc2 hf
  by_cases hc3 : a1 = 3
  · replace hf := lc_ite_pos hc3 hf
    refine lv_tableIn (tgt := 80) hx hb dA_heap_1 (by rw [hc3]; decide) (by rw [hc3]; decide) (by rw [hc3] <;> rfl) (by decide) ?_
    refine lv_aload_n hx hb dA_heap_80 rfl (lv_at hl 0 rfl) ?_
    refine lc_getf (d := 18) (q := 19) hx hb hts hown hE hH flA_41 lc_h1 rfl rfl dA_heap_81 ?_
    obtain ⟨r84, z84, h84, hf⟩ := lc_bnd_some hf
    refine lc_calla (va_runV (As := []) (rest := []) ⟨hx, hb, hml, hown, hts⟩ (cM_memory l G h84) (lc_cwV hts kvA_121 (lc_roomT (by decide) (by decide))) (lc_preV hE hH lc_h19 rfl _) rfl rfl hl.1 rfl (lv_room (Nat.le_of_ble_eq_true rfl)) dA_heap_84 ⟨Nat.zero_le _, Nat.zero_le _⟩) hH (fun H locs hH => ?_)
    replace hf := lc_chk_some hf
    obtain ⟨hm84, hf⟩ := hf
    subst hm84
    obtain ⟨r87, z87, h87, hf⟩ := lc_bnd_some hf
    refine lc_calli (va_runV (As := []) (rest := []) ⟨hx, hb, hml, hown, hts⟩ (cY_pairsMade l G h87) (lc_cwV hts kvA_139 (lc_roomT (by decide) (by decide))) (lc_preV hE hH lc_h20 rfl _) rfl rfl hl.1 rfl (lv_room (Nat.le_of_ble_eq_true rfl)) dA_heap_87 ⟨Nat.zero_le _, Nat.zero_le _⟩) hH (fun H locs hH => ?_)
    exact lc_iretT hx hb hr hlocks hH hf dA_heap_90
  replace hf := lc_ite_neg hc3 hf
  by_cases hc4 : a1 = 4
  · replace hf := lc_ite_pos hc4 hf
    refine lv_tableIn (tgt := 91) hx hb dA_heap_1 (by rw [hc4]; decide) (by rw [hc4]; decide) (by rw [hc4] <;> rfl) (by decide) ?_
    refine lv_aload_n hx hb dA_heap_91 rfl (lv_at hl 0 rfl) ?_
    refine lc_getf (d := 18) (q := 19) hx hb hts hown hE hH flA_41 lc_h1 rfl rfl dA_heap_92 ?_
    obtain ⟨r95, z95, h95, hf⟩ := lc_bnd_some hf
    refine lc_calli (va_runV (As := []) (rest := []) ⟨hx, hb, hml, hown, hts⟩ (cM_expressionsBegun l G h95) (lc_cwV hts kvA_142 (lc_roomT (by decide) (by decide))) (lc_preV hE hH lc_h19 rfl _) rfl rfl hl.1 rfl (lv_room (Nat.le_of_ble_eq_true rfl)) dA_heap_95 ⟨Nat.zero_le _, Nat.zero_le _⟩) hH (fun H locs hH => ?_)
    exact lc_iretT hx hb hr hlocks hH hf dA_heap_98
  replace hf := lc_ite_neg hc4 hf
  have nhc0 := lv_neT (a := 0) hc0 (by decide)
  have nhc1 := lv_neT (a := 1) hc1 (by decide)
  have nhc2 := lv_neT (a := 2) hc2 (by decide)
  have nhc3 := lv_neT (a := 3) hc3 (by decide)
  have nhc4 := lv_neT (a := 4) hc4 (by decide)
  refine lv_tableOut (tgt := 99) hx hb dA_heap_1 (by omega) (by decide) ?_
  exact lc_throw (k := 1) hx hb (hml.trans hl.1.symm) hlocks hown hts hno hT hz htr (by decide) (by decide +kernel) (lc_xat1_67 hts hT) lc_xn1_67_65 lc_xi1 lc_xj1 (by decide) hH hf dA_heap_99 dA_heap_102 dA_heap_103 dA_heap_106 (Nat.le_of_ble_eq_true rfl)
theorem dA_cell_0 : decode prog_1_method_9_code 0 = .ok (.aload_n 0, 1) := by decide +kernel
theorem dA_cell_1 : decode prog_1_method_9_code 1 = .ok (.getfield 41, 3) := by decide +kernel
theorem dA_cell_4 : decode prog_1_method_9_code 4 = .ok (.invokevirtual 121, 3) := by decide +kernel
theorem dA_cell_7 : decode prog_1_method_9_code 7 = .ok (.iload_n 1, 1) := by decide +kernel
theorem dA_cell_8 : decode prog_1_method_9_code 8 = .ok (.invokevirtual 145, 3) := by decide +kernel
theorem dA_cell_11 : decode prog_1_method_9_code 11 = .ok (.ifCond .eq 11, 3) := by decide +kernel
theorem dA_cell_14 : decode prog_1_method_9_code 14 = .ok (.new 148, 3) := by decide +kernel
theorem dA_cell_17 : decode prog_1_method_9_code 17 = .ok (.dup, 1) := by decide +kernel
theorem dA_cell_18 : decode prog_1_method_9_code 18 = .ok (.invokespecial 150, 3) := by decide +kernel
theorem dA_cell_21 : decode prog_1_method_9_code 21 = .ok (.athrow, 1) := by decide +kernel
theorem dA_cell_22 : decode prog_1_method_9_code 22 = .ok (.aload_n 0, 1) := by decide +kernel
theorem dA_cell_23 : decode prog_1_method_9_code 23 = .ok (.getfield 41, 3) := by decide +kernel
theorem dA_cell_26 : decode prog_1_method_9_code 26 = .ok (.invokevirtual 121, 3) := by decide +kernel
theorem dA_cell_29 : decode prog_1_method_9_code 29 = .ok (.iload_n 1, 1) := by decide +kernel
theorem dA_cell_30 : decode prog_1_method_9_code 30 = .ok (.invokevirtual 151, 3) := by decide +kernel
theorem dA_cell_33 : decode prog_1_method_9_code 33 = .ok (.ireturn, 1) := by decide +kernel
def fA_cell (a1 : Int32) (z : lc_S) : Option ((Nat × Int32) × lc_S) :=
  lc_bnd (fM_memory z) (fun r4 z4 => lc_chk (r4 = 20) (lc_bnd (fY_isFree a1 z4) (fun r8 z8 => if r8 = 0 then (lc_bnd (fM_memory z8) (fun r26 z26 => lc_chk (r26 = 20) (lc_bnd (fY_numberAt a1 z26) (fun r30 z30 => some ((0, r30), z30))))) else (some ((4, 0), z8)))))
set_option maxHeartbeats 4000000 in
set_option maxRecDepth 100000 in
theorem cA_cell (l : Launch) (G : lc_G) (htr : l.stackTraces = false) {a1 : Int32} {r : Nat × Int32} {z z' : lc_S} (hf : fA_cell a1 z = some (r, z')) : lc_MT l G yA_cell wA_cell 8 [.ref (lc_ad G 1), .int a1] z r z' := by
  refine lc_MT_of (cc := prog_1_method_9_code) (maxL := 2) (ret := (some .int)) (own := "LinearCells") (by decide) rfl (fun w h => List.mem_cons_of_mem _ h) (Nat.le_of_ble_eq_true rfl) rfl ?_
  intro p e s m below meth c hx hb hml hr hlocks hown hts hE hno hT hz ls hl hH
  replace hl : lv_has ls 2 [(0, .ref (lc_ad G 1)), (1, .int a1)] := hl
  rw [fA_cell] at hf
  refine lv_aload_n hx hb dA_cell_0 rfl (lv_at hl 0 rfl) ?_
  refine lc_getf (d := 18) (q := 19) hx hb hts hown hE hH flA_41 lc_h1 rfl rfl dA_cell_1 ?_
  obtain ⟨r4, z4, h4, hf⟩ := lc_bnd_some hf
  refine lc_calla (va_runV (As := []) (rest := []) ⟨hx, hb, hml, hown, hts⟩ (cM_memory l G h4) (lc_cwV hts kvA_121 (lc_roomT (by decide) (by decide))) (lc_preV hE hH lc_h19 rfl _) rfl rfl hl.1 rfl (lv_room (Nat.le_of_ble_eq_true rfl)) dA_cell_4 ⟨Nat.zero_le _, Nat.zero_le _⟩) hH (fun H locs hH => ?_)
  replace hf := lc_chk_some hf
  obtain ⟨hm4, hf⟩ := hf
  subst hm4
  refine lv_iload_n hx hb dA_cell_7 rfl (lv_at hl 1 rfl) ?_
  obtain ⟨r8, z8, h8, hf⟩ := lc_bnd_some hf
  refine lc_calli (va_runV (As := [.int a1]) (rest := []) ⟨hx, hb, hml, hown, hts⟩ (cY_isFree l G h8) (lc_cwV hts kvA_145 (lc_roomT (by decide) (by decide))) (lc_preV hE hH lc_h20 rfl _) rfl rfl hl.1 rfl (lv_room (Nat.le_of_ble_eq_true rfl)) dA_cell_8 ⟨Nat.zero_le _, Nat.zero_le _⟩) hH (fun H locs hH => ?_)
  refine lv_if_eq (tgt := 22) hx hb dA_cell_11 (by decide) (fun hc => ?_) (fun hc => ?_)
  · replace hf := lc_ite_pos hc hf
    refine lv_aload_n hx hb dA_cell_22 rfl (lv_at hl 0 rfl) ?_
    refine lc_getf (d := 18) (q := 19) hx hb hts hown hE hH flA_41 lc_h1 rfl rfl dA_cell_23 ?_
    obtain ⟨r26, z26, h26, hf⟩ := lc_bnd_some hf
    refine lc_calla (va_runV (As := []) (rest := []) ⟨hx, hb, hml, hown, hts⟩ (cM_memory l G h26) (lc_cwV hts kvA_121 (lc_roomT (by decide) (by decide))) (lc_preV hE hH lc_h19 rfl _) rfl rfl hl.1 rfl (lv_room (Nat.le_of_ble_eq_true rfl)) dA_cell_26 ⟨Nat.zero_le _, Nat.zero_le _⟩) hH (fun H locs hH => ?_)
    replace hf := lc_chk_some hf
    obtain ⟨hm26, hf⟩ := hf
    subst hm26
    refine lv_iload_n hx hb dA_cell_29 rfl (lv_at hl 1 rfl) ?_
    obtain ⟨r30, z30, h30, hf⟩ := lc_bnd_some hf
    refine lc_calli (va_runV (As := [.int a1]) (rest := []) ⟨hx, hb, hml, hown, hts⟩ (cY_numberAt l G h30) (lc_cwV hts kvA_151 (lc_roomT (by decide) (by decide))) (lc_preV hE hH lc_h20 rfl _) rfl rfl hl.1 rfl (lv_room (Nat.le_of_ble_eq_true rfl)) dA_cell_30 ⟨Nat.zero_le _, Nat.zero_le _⟩) hH (fun H locs hH => ?_)
    exact lc_iretT hx hb hr hlocks hH hf dA_cell_33
  · replace hf := lc_ite_neg hc hf
    exact lc_throw (k := 4) hx hb (hml.trans hl.1.symm) hlocks hown hts hno hT hz htr (by decide) (by decide +kernel) (lc_xat4_150 hts hT) lc_xn4_150_148 lc_xi4 lc_xj4 (by decide) hH hf dA_cell_14 dA_cell_17 dA_cell_18 dA_cell_21 (Nat.le_of_ble_eq_true rfl)
theorem dQ_thrown_0 : decode prog_10_method_2_code 0 = .ok (.aload_n 0, 1) := by decide +kernel
theorem dQ_thrown_1 : decode prog_10_method_2_code 1 = .ok (.getfield 135, 3) := by decide +kernel
theorem dQ_thrown_4 : decode prog_10_method_2_code 4 = .ok (.ireturn, 1) := by decide +kernel
def fQ_thrown (z : lc_S) : Option ((Int32) × lc_S) :=
  some (lcI z 80 0, z)
set_option maxHeartbeats 4000000 in
set_option maxRecDepth 100000 in
theorem cQ_thrown (l : Launch) (G : lc_G) {r : Int32} {z z' : lc_S} (hf : fQ_thrown z = some (r, z')) : lc_M l G yQ_thrown wQ_thrown 0 [.ref (lc_ad G 80)] z (some (.int r)) z' := by
  refine lc_M_of (cc := prog_10_method_2_code) (maxL := 1) (ret := (some .int)) (own := "LinearCellsModel") (by decide) rfl (fun w h => List.mem_cons_of_mem _ h) (Nat.le_of_ble_eq_true rfl) rfl ?_
  intro p e s m below meth c hx hb hml hr hlocks hown hts hE ls hl hH
  replace hl : lv_has ls 1 [(0, .ref (lc_ad G 80))] := hl
  rw [fQ_thrown] at hf
  refine lv_aload_n hx hb dQ_thrown_0 rfl (lv_at hl 0 rfl) ?_
  refine lc_geti hx hb hts hown hE hH flQ_135 lc_h80 rfl dQ_thrown_1 ?_
  exact lc_iret hx hb hr hlocks hH hf dQ_thrown_4
theorem dQ_refuse_0 : decode prog_10_method_3_code 0 = .ok (.aload_n 0, 1) := by decide +kernel
theorem dQ_refuse_1 : decode prog_10_method_3_code 1 = .ok (.iload_n 1, 1) := by decide +kernel
theorem dQ_refuse_2 : decode prog_10_method_3_code 2 = .ok (.putfield 135, 3) := by decide +kernel
theorem dQ_refuse_5 : decode prog_10_method_3_code 5 = .ok (.iconst 0, 1) := by decide +kernel
theorem dQ_refuse_6 : decode prog_10_method_3_code 6 = .ok (.ireturn, 1) := by decide +kernel
def fQ_refuse (a1 : Int32) (z : lc_S) : Option ((Int32) × lc_S) :=
  some (0, lcUI z 80 0 a1)
set_option maxHeartbeats 4000000 in
set_option maxRecDepth 100000 in
theorem cQ_refuse (l : Launch) (G : lc_G) {a1 : Int32} {r : Int32} {z z' : lc_S} (hf : fQ_refuse a1 z = some (r, z')) : lc_M l G yQ_refuse wQ_refuse 0 [.ref (lc_ad G 80), .int a1] z (some (.int r)) z' := by
  refine lc_M_of (cc := prog_10_method_3_code) (maxL := 2) (ret := (some .int)) (own := "LinearCellsModel") (by decide) rfl (fun w h => List.mem_cons_of_mem _ h) (Nat.le_of_ble_eq_true rfl) rfl ?_
  intro p e s m below meth c hx hb hml hr hlocks hown hts hE ls hl hH
  replace hl : lv_has ls 2 [(0, .ref (lc_ad G 80)), (1, .int a1)] := hl
  rw [fQ_refuse] at hf
  refine lv_aload_n hx hb dQ_refuse_0 rfl (lv_at hl 0 rfl) ?_
  refine lv_iload_n hx hb dQ_refuse_1 rfl (lv_at hl 1 rfl) ?_
  refine lc_puti hx hb hts hown hE hH fpQ_135 lc_h80 rfl rfl rfl dQ_refuse_2 (fun H locs hH => ?_)
  refine lv_iconst (v := 0) hx hb dQ_refuse_5 (by decide) ?_
  exact lc_iret hx hb hr hlocks hH hf dQ_refuse_6
theorem dQ_draft_0 : decode prog_10_method_4_code 0 = .ok (.aload_n 0, 1) := by decide +kernel
theorem dQ_draft_1 : decode prog_10_method_4_code 1 = .ok (.iconst 0, 1) := by decide +kernel
theorem dQ_draft_2 : decode prog_10_method_4_code 2 = .ok (.putfield 135, 3) := by decide +kernel
theorem dQ_draft_5 : decode prog_10_method_4_code 5 = .ok (.iconst 0, 1) := by decide +kernel
theorem dQ_draft_6 : decode prog_10_method_4_code 6 = .ok (.istore_n 3, 1) := by decide +kernel
theorem dQ_draft_7 : decode prog_10_method_4_code 7 = .ok (.iconst 1, 1) := by decide +kernel
theorem dQ_draft_8 : decode prog_10_method_4_code 8 = .ok (.istore 4, 2) := by decide +kernel
theorem dQ_draft_10 : decode prog_10_method_4_code 10 = .ok (.iload_n 3, 1) := by decide +kernel
theorem dQ_draft_11 : decode prog_10_method_4_code 11 = .ok (.bipush 8, 2) := by decide +kernel
theorem dQ_draft_13 : decode prog_10_method_4_code 13 = .ok (.if_icmp .ge 66, 3) := by decide +kernel
theorem dQ_draft_16 : decode prog_10_method_4_code 16 = .ok (.lload_n 1, 1) := by decide +kernel
theorem dQ_draft_17 : decode prog_10_method_4_code 17 = .ok (.bipush 8, 2) := by decide +kernel
theorem dQ_draft_19 : decode prog_10_method_4_code 19 = .ok (.iload_n 3, 1) := by decide +kernel
theorem dQ_draft_20 : decode prog_10_method_4_code 20 = .ok (.imul, 1) := by decide +kernel
theorem dQ_draft_21 : decode prog_10_method_4_code 21 = .ok (.lushr, 1) := by decide +kernel
theorem dQ_draft_22 : decode prog_10_method_4_code 22 = .ok (.ldc2_w 139, 3) := by decide +kernel
theorem dQ_draft_25 : decode prog_10_method_4_code 25 = .ok (.land, 1) := by decide +kernel
theorem dQ_draft_26 : decode prog_10_method_4_code 26 = .ok (.lconst 0, 1) := by decide +kernel
theorem dQ_draft_27 : decode prog_10_method_4_code 27 = .ok (.lcmp, 1) := by decide +kernel
theorem dQ_draft_28 : decode prog_10_method_4_code 28 = .ok (.ifCond .eq 51, 3) := by decide +kernel
theorem dQ_draft_31 : decode prog_10_method_4_code 31 = .ok (.lload_n 1, 1) := by decide +kernel
theorem dQ_draft_32 : decode prog_10_method_4_code 32 = .ok (.bipush 8, 2) := by decide +kernel
theorem dQ_draft_34 : decode prog_10_method_4_code 34 = .ok (.iload_n 3, 1) := by decide +kernel
theorem dQ_draft_35 : decode prog_10_method_4_code 35 = .ok (.imul, 1) := by decide +kernel
theorem dQ_draft_36 : decode prog_10_method_4_code 36 = .ok (.lushr, 1) := by decide +kernel
theorem dQ_draft_37 : decode prog_10_method_4_code 37 = .ok (.ldc2_w 139, 3) := by decide +kernel
theorem dQ_draft_40 : decode prog_10_method_4_code 40 = .ok (.land, 1) := by decide +kernel
theorem dQ_draft_41 : decode prog_10_method_4_code 41 = .ok (.lstore 5, 2) := by decide +kernel
theorem dQ_draft_43 : decode prog_10_method_4_code 43 = .ok (.iload 4, 2) := by decide +kernel
theorem dQ_draft_45 : decode prog_10_method_4_code 45 = .ok (.ifCond .eq 25, 3) := by decide +kernel
theorem dQ_draft_48 : decode prog_10_method_4_code 48 = .ok (.lload 5, 2) := by decide +kernel
theorem dQ_draft_50 : decode prog_10_method_4_code 50 = .ok (.ldc2_w 141, 3) := by decide +kernel
theorem dQ_draft_53 : decode prog_10_method_4_code 53 = .ok (.lcmp, 1) := by decide +kernel
theorem dQ_draft_54 : decode prog_10_method_4_code 54 = .ok (.ifCond .lt 16, 3) := by decide +kernel
theorem dQ_draft_57 : decode prog_10_method_4_code 57 = .ok (.lload 5, 2) := by decide +kernel
theorem dQ_draft_59 : decode prog_10_method_4_code 59 = .ok (.ldc2_w 143, 3) := by decide +kernel
theorem dQ_draft_62 : decode prog_10_method_4_code 62 = .ok (.lcmp, 1) := by decide +kernel
theorem dQ_draft_63 : decode prog_10_method_4_code 63 = .ok (.ifCond .gt 7, 3) := by decide +kernel
theorem dQ_draft_66 : decode prog_10_method_4_code 66 = .ok (.iconst 1, 1) := by decide +kernel
theorem dQ_draft_67 : decode prog_10_method_4_code 67 = .ok (.goto 4, 3) := by decide +kernel
theorem dQ_draft_70 : decode prog_10_method_4_code 70 = .ok (.iconst 0, 1) := by decide +kernel
theorem dQ_draft_71 : decode prog_10_method_4_code 71 = .ok (.istore 4, 2) := by decide +kernel
theorem dQ_draft_73 : decode prog_10_method_4_code 73 = .ok (.iinc 3 1, 3) := by decide +kernel
theorem dQ_draft_76 : decode prog_10_method_4_code 76 = .ok (.goto (-66), 3) := by decide +kernel
theorem dQ_draft_79 : decode prog_10_method_4_code 79 = .ok (.iload_n 3, 1) := by decide +kernel
theorem dQ_draft_80 : decode prog_10_method_4_code 80 = .ok (.ifCond .eq 19, 3) := by decide +kernel
theorem dQ_draft_83 : decode prog_10_method_4_code 83 = .ok (.iload 4, 2) := by decide +kernel
theorem dQ_draft_85 : decode prog_10_method_4_code 85 = .ok (.ifCond .eq 14, 3) := by decide +kernel
theorem dQ_draft_88 : decode prog_10_method_4_code 88 = .ok (.aload_n 0, 1) := by decide +kernel
theorem dQ_draft_89 : decode prog_10_method_4_code 89 = .ok (.getfield 145, 3) := by decide +kernel
theorem dQ_draft_92 : decode prog_10_method_4_code 92 = .ok (.iload_n 3, 1) := by decide +kernel
theorem dQ_draft_93 : decode prog_10_method_4_code 93 = .ok (.iadd, 1) := by decide +kernel
theorem dQ_draft_94 : decode prog_10_method_4_code 94 = .ok (.bipush 120, 2) := by decide +kernel
theorem dQ_draft_96 : decode prog_10_method_4_code 96 = .ok (.if_icmp .le 5, 3) := by decide +kernel
theorem dQ_draft_99 : decode prog_10_method_4_code 99 = .ok (.iconst 0, 1) := by decide +kernel
theorem dQ_draft_100 : decode prog_10_method_4_code 100 = .ok (.ireturn, 1) := by decide +kernel
theorem dQ_draft_101 : decode prog_10_method_4_code 101 = .ok (.iconst 0, 1) := by decide +kernel
theorem dQ_draft_102 : decode prog_10_method_4_code 102 = .ok (.istore 5, 2) := by decide +kernel
theorem dQ_draft_104 : decode prog_10_method_4_code 104 = .ok (.iload 5, 2) := by decide +kernel
theorem dQ_draft_106 : decode prog_10_method_4_code 106 = .ok (.iload_n 3, 1) := by decide +kernel
theorem dQ_draft_107 : decode prog_10_method_4_code 107 = .ok (.if_icmp .ge 33, 3) := by decide +kernel
theorem dQ_draft_110 : decode prog_10_method_4_code 110 = .ok (.aload_n 0, 1) := by decide +kernel
theorem dQ_draft_111 : decode prog_10_method_4_code 111 = .ok (.getfield 7, 3) := by decide +kernel
theorem dQ_draft_114 : decode prog_10_method_4_code 114 = .ok (.aload_n 0, 1) := by decide +kernel
theorem dQ_draft_115 : decode prog_10_method_4_code 115 = .ok (.getfield 145, 3) := by decide +kernel
theorem dQ_draft_118 : decode prog_10_method_4_code 118 = .ok (.iload 5, 2) := by decide +kernel
theorem dQ_draft_120 : decode prog_10_method_4_code 120 = .ok (.iadd, 1) := by decide +kernel
theorem dQ_draft_121 : decode prog_10_method_4_code 121 = .ok (.lload_n 1, 1) := by decide +kernel
theorem dQ_draft_122 : decode prog_10_method_4_code 122 = .ok (.bipush 8, 2) := by decide +kernel
theorem dQ_draft_124 : decode prog_10_method_4_code 124 = .ok (.iload 5, 2) := by decide +kernel
theorem dQ_draft_126 : decode prog_10_method_4_code 126 = .ok (.imul, 1) := by decide +kernel
theorem dQ_draft_127 : decode prog_10_method_4_code 127 = .ok (.lushr, 1) := by decide +kernel
theorem dQ_draft_128 : decode prog_10_method_4_code 128 = .ok (.ldc2_w 139, 3) := by decide +kernel
theorem dQ_draft_131 : decode prog_10_method_4_code 131 = .ok (.land, 1) := by decide +kernel
theorem dQ_draft_132 : decode prog_10_method_4_code 132 = .ok (.l2i, 1) := by decide +kernel
theorem dQ_draft_133 : decode prog_10_method_4_code 133 = .ok (.iastore, 1) := by decide +kernel
theorem dQ_draft_134 : decode prog_10_method_4_code 134 = .ok (.iinc 5 1, 3) := by decide +kernel
theorem dQ_draft_137 : decode prog_10_method_4_code 137 = .ok (.goto (-33), 3) := by decide +kernel
theorem dQ_draft_140 : decode prog_10_method_4_code 140 = .ok (.aload_n 0, 1) := by decide +kernel
theorem dQ_draft_141 : decode prog_10_method_4_code 141 = .ok (.dup, 1) := by decide +kernel
theorem dQ_draft_142 : decode prog_10_method_4_code 142 = .ok (.getfield 145, 3) := by decide +kernel
theorem dQ_draft_145 : decode prog_10_method_4_code 145 = .ok (.iload_n 3, 1) := by decide +kernel
theorem dQ_draft_146 : decode prog_10_method_4_code 146 = .ok (.iadd, 1) := by decide +kernel
theorem dQ_draft_147 : decode prog_10_method_4_code 147 = .ok (.putfield 145, 3) := by decide +kernel
theorem dQ_draft_150 : decode prog_10_method_4_code 150 = .ok (.iconst 1, 1) := by decide +kernel
theorem dQ_draft_151 : decode prog_10_method_4_code 151 = .ok (.ireturn, 1) := by decide +kernel
def fQ_draft_71 (k10 : Int64 → Int32 → Int32 → lc_S → Option ((Int32) × lc_S)) (x1 : Int64) (x3 : Int32) (t0 : Int32) (z : lc_S) : Option ((Int32) × lc_S) :=
  lc_let (x3 + 1) (fun x73 => k10 x1 x73 t0 z)
def fQ_draft_70 (k10 : Int64 → Int32 → Int32 → lc_S → Option ((Int32) × lc_S)) (x1 : Int64) (x3 : Int32) (z : lc_S) : Option ((Int32) × lc_S) :=
  fQ_draft_71 k10 x1 x3 0 z
def fQ_draft_99 (z : lc_S) : Option ((Int32) × lc_S) :=
  some (0, z)
def fQ_draft_104 : Nat → Int64 → Int32 → Int32 → lc_S → Option ((Int32) × lc_S)
  | 0, _, _, _, _ => none
  | n + 1, x1, x3, x5, z => if x3 ≤ x5 then (some (1, lcUI z 80 1 ((lcI z 80 1) + x3))) else (lc_chk (lc_in ((lcI z 80 1) + x5) 120) (lc_let (x5 + 1) (fun x134 => fQ_draft_104 n x1 x3 x134 (lcUI z 81 ((lcI z 80 1) + x5).toNatClampNeg ((((x1.toUInt64 >>> ((8 * x5).toInt64.toUInt64 &&& Int64.toUInt64 63)).toInt64) &&& 255).toInt32)))))
def fQ_draft_79 (x1 : Int64) (x3 : Int32) (x4 : Int32) (z : lc_S) : Option ((Int32) × lc_S) :=
  if x3 = 0 then (fQ_draft_99 z) else (if x4 = 0 then (fQ_draft_99 z) else (if ((lcI z 80 1) + x3) ≤ 120 then (fQ_draft_104 lc_FU x1 x3 0 z) else (fQ_draft_99 z)))
def fQ_draft_10 : Nat → Int64 → Int32 → Int32 → lc_S → Option ((Int32) × lc_S)
  | 0, _, _, _, _ => none
  | n + 1, x1, x3, x4, z => if 8 ≤ x3 then (fQ_draft_79 x1 x3 x4 z) else (if (lg_cmp (((x1.toUInt64 >>> ((8 * x3).toInt64.toUInt64 &&& Int64.toUInt64 63)).toInt64) &&& 255) 0) = 0 then (fQ_draft_79 x1 x3 x4 z) else (lc_let (((x1.toUInt64 >>> ((8 * x3).toInt64.toUInt64 &&& Int64.toUInt64 63)).toInt64) &&& 255) (fun x41 => if x4 = 0 then (fQ_draft_70 (fQ_draft_10 n) x1 x3 z) else (if (lg_cmp x41 32) < 0 then (fQ_draft_70 (fQ_draft_10 n) x1 x3 z) else (if 0 < (lg_cmp x41 126) then (fQ_draft_70 (fQ_draft_10 n) x1 x3 z) else (fQ_draft_71 (fQ_draft_10 n) x1 x3 1 z))))))
def fQ_draft (a1 : Int64) (z : lc_S) : Option ((Int32) × lc_S) :=
  fQ_draft_10 lc_FU a1 0 1 (lcUI z 80 0 0)
set_option maxHeartbeats 4000000 in
set_option maxRecDepth 100000 in
theorem bQ_draft_71 {p : Program} {l : Launch} {e : Env} {s : State} {m : MethodId} {args : Array Value} {below : List Frame} {meth : Method} {c : Code} {G : lc_G} (hx : p.tables.exec = Jvm.exec) (hb : c.code = prog_10_method_4_code) (hml : c.maxLocals = 7) (hr : meth.sig.returnType = (some .boolean)) (hlocks : meth.locks = false) (hown : s.vm.findClass "LinearCellsModel" = some m.cls) (hts : ∀ w ∈ lc_ALL, w.before args s = true) (hE : lc_E G s) {k10 : Int64 → Int32 → Int32 → lc_S → Option ((Int32) × lc_S)} {r : Int32} {z' : lc_S} (hk10 : ∀ {x1 : Int64} {x3 : Int32} {x4 : Int32} {z : lc_S} {H : Heap} {locs : List Loc} {ls : Array Slot}, k10 x1 x3 x4 z = some (r, z') → lv_has ls 7 [(0, .ref (lc_ad G 80)), (1, .long x1), (3, .int x3), (4, .int x4)] → lc_H G z s.heap H locs → W p l e (lc_rm 0) s m args below meth c H locs 0 0 (MQ below (lc_Q G (some (.int r)) z') args s 0 0 (lc_A G)) (F0 m 10 ls [])) : ∀ {x1 : Int64} {x3 : Int32} {t0 : Int32} {z : lc_S} {H : Heap} {locs : List Loc} {ls : Array Slot}, fQ_draft_71 k10 x1 x3 t0 z = some (r, z') → lv_has ls 7 [(0, .ref (lc_ad G 80)), (1, .long x1), (3, .int x3)] → lc_H G z s.heap H locs → W p l e (lc_rm 0) s m args below meth c H locs 0 0 (MQ below (lc_Q G (some (.int r)) z') args s 0 0 (lc_A G)) (F0 m 71 ls [.int t0]) := by
  intro x1 x3 t0 z H locs ls hf hl hH
  rw [fQ_draft_71] at hf
  refine lv_istore hx hb dQ_draft_71 hl (by decide) rfl (fun ls hl => ?_)
  replace hl : lv_has ls 7 [(4, .int t0), (0, .ref (lc_ad G 80)), (1, .long x1), (3, .int x3)] := hl
  obtain ⟨x73, e73⟩ : ∃ x : Int32, x = x3 + 1 := ⟨_, rfl⟩
  replace hf := lc_let_of e73 hf
  refine lv_iinc (k := 3) (v := x73) hx hb dQ_draft_73 hl rfl ((lc_incv _ (by decide)).trans e73.symm) (by decide) rfl (fun ls hl => ?_)
  replace hl : lv_has ls 7 [(3, .int x73), (4, .int t0), (0, .ref (lc_ad G 80)), (1, .long x1)] := hl
  refine lv_goto (tgt := 10) hx hb dQ_draft_76 (by decide) ?_
  exact hk10 hf (lv_sub hl [2, 3, 0, 1] rfl) hH
set_option maxHeartbeats 4000000 in
set_option maxRecDepth 100000 in
theorem bQ_draft_70 {p : Program} {l : Launch} {e : Env} {s : State} {m : MethodId} {args : Array Value} {below : List Frame} {meth : Method} {c : Code} {G : lc_G} (hx : p.tables.exec = Jvm.exec) (hb : c.code = prog_10_method_4_code) (hml : c.maxLocals = 7) (hr : meth.sig.returnType = (some .boolean)) (hlocks : meth.locks = false) (hown : s.vm.findClass "LinearCellsModel" = some m.cls) (hts : ∀ w ∈ lc_ALL, w.before args s = true) (hE : lc_E G s) {k10 : Int64 → Int32 → Int32 → lc_S → Option ((Int32) × lc_S)} {r : Int32} {z' : lc_S} (hk10 : ∀ {x1 : Int64} {x3 : Int32} {x4 : Int32} {z : lc_S} {H : Heap} {locs : List Loc} {ls : Array Slot}, k10 x1 x3 x4 z = some (r, z') → lv_has ls 7 [(0, .ref (lc_ad G 80)), (1, .long x1), (3, .int x3), (4, .int x4)] → lc_H G z s.heap H locs → W p l e (lc_rm 0) s m args below meth c H locs 0 0 (MQ below (lc_Q G (some (.int r)) z') args s 0 0 (lc_A G)) (F0 m 10 ls [])) : ∀ {x1 : Int64} {x3 : Int32} {z : lc_S} {H : Heap} {locs : List Loc} {ls : Array Slot}, fQ_draft_70 k10 x1 x3 z = some (r, z') → lv_has ls 7 [(0, .ref (lc_ad G 80)), (1, .long x1), (3, .int x3)] → lc_H G z s.heap H locs → W p l e (lc_rm 0) s m args below meth c H locs 0 0 (MQ below (lc_Q G (some (.int r)) z') args s 0 0 (lc_A G)) (F0 m 70 ls []) := by
  intro x1 x3 z H locs ls hf hl hH
  rw [fQ_draft_70] at hf
  refine lv_iconst (v := 0) hx hb dQ_draft_70 (by decide) ?_
  exact bQ_draft_71 hx hb hml hr hlocks hown hts hE (fun hf hl hH => hk10 hf hl hH) hf (lv_sub hl [0, 1, 2] rfl) hH
set_option maxHeartbeats 4000000 in
set_option maxRecDepth 100000 in
theorem bQ_draft_99 {p : Program} {l : Launch} {e : Env} {s : State} {m : MethodId} {args : Array Value} {below : List Frame} {meth : Method} {c : Code} {G : lc_G} (hx : p.tables.exec = Jvm.exec) (hb : c.code = prog_10_method_4_code) (hml : c.maxLocals = 7) (hr : meth.sig.returnType = (some .boolean)) (hlocks : meth.locks = false) (hown : s.vm.findClass "LinearCellsModel" = some m.cls) (hts : ∀ w ∈ lc_ALL, w.before args s = true) (hE : lc_E G s) {r : Int32} {z' : lc_S} : ∀ {z : lc_S} {H : Heap} {locs : List Loc} {ls : Array Slot}, fQ_draft_99 z = some (r, z') → lv_has ls 7 [] → lc_H G z s.heap H locs → W p l e (lc_rm 0) s m args below meth c H locs 0 0 (MQ below (lc_Q G (some (.int r)) z') args s 0 0 (lc_A G)) (F0 m 99 ls []) := by
  intro z H locs ls hf hl hH
  rw [fQ_draft_99] at hf
  refine lv_iconst (v := 0) hx hb dQ_draft_99 (by decide) ?_
  exact lc_zret hx hb hr hlocks (by decide) hH hf dQ_draft_100
set_option maxHeartbeats 4000000 in
set_option maxRecDepth 100000 in
theorem bQ_draft_104 {p : Program} {l : Launch} {e : Env} {s : State} {m : MethodId} {args : Array Value} {below : List Frame} {meth : Method} {c : Code} {G : lc_G} (hx : p.tables.exec = Jvm.exec) (hb : c.code = prog_10_method_4_code) (hml : c.maxLocals = 7) (hr : meth.sig.returnType = (some .boolean)) (hlocks : meth.locks = false) (hown : s.vm.findClass "LinearCellsModel" = some m.cls) (hts : ∀ w ∈ lc_ALL, w.before args s = true) (hE : lc_E G s) {r : Int32} {z' : lc_S} : ∀ (n : Nat) {x1 : Int64} {x3 : Int32} {x5 : Int32} {z : lc_S} {H : Heap} {locs : List Loc} {ls : Array Slot}, fQ_draft_104 n x1 x3 x5 z = some (r, z') → lv_has ls 7 [(0, .ref (lc_ad G 80)), (1, .long x1), (3, .int x3), (5, .int x5)] → lc_H G z s.heap H locs → W p l e (lc_rm 0) s m args below meth c H locs 0 0 (MQ below (lc_Q G (some (.int r)) z') args s 0 0 (lc_A G)) (F0 m 104 ls []) := by
  intro n
  induction n with
  | zero =>
    intro x1 x3 x5 z H locs ls hf hl hH
    exact absurd (show (none : Option ((Int32) × lc_S)) = some (r, z') from hf) (fun h => by cases h)
  | succ n ih =>
    intro x1 x3 x5 z H locs ls hf hl hH
    rw [fQ_draft_104] at hf
    refine lv_iload hx hb dQ_draft_104 (lv_at hl 3 rfl) ?_
    refine lv_iload_n hx hb dQ_draft_106 rfl (lv_at hl 2 rfl) ?_
    refine lv_icmp_ge (tgt := 140) hx hb dQ_draft_107 (by decide) (fun hc => ?_) (fun hc => ?_)
    · replace hf := lc_ite_pos hc hf
      refine lv_aload_n hx hb dQ_draft_140 rfl (lv_at hl 0 rfl) ?_
      refine lv_dup hx hb dQ_draft_141 rfl ?_
      refine lc_geti hx hb hts hown hE hH flQ_145 lc_h80 rfl dQ_draft_142 ?_
      refine lv_iload_n hx hb dQ_draft_145 rfl (lv_at hl 2 rfl) ?_
      refine lv_iadd hx hb dQ_draft_146 ?_
      refine lc_puti hx hb hts hown hE hH fpQ_145 lc_h80 rfl rfl rfl dQ_draft_147 (fun H locs hH => ?_)
      refine lv_iconst (v := 1) hx hb dQ_draft_150 (by decide) ?_
      exact lc_zret hx hb hr hlocks (by decide) hH hf dQ_draft_151
    · replace hf := lc_ite_neg hc hf
      refine lv_aload_n hx hb dQ_draft_110 rfl (lv_at hl 0 rfl) ?_
      refine lc_getf (d := 1) (q := 81) hx hb hts hown hE hH flQ_7 lc_h80 rfl rfl dQ_draft_111 ?_
      refine lv_aload_n hx hb dQ_draft_114 rfl (lv_at hl 0 rfl) ?_
      refine lc_geti hx hb hts hown hE hH flQ_145 lc_h80 rfl dQ_draft_115 ?_
      refine lv_iload hx hb dQ_draft_118 (lv_at hl 3 rfl) ?_
      refine lv_iadd hx hb dQ_draft_120 ?_
      refine lv_lload_n hx hb dQ_draft_121 rfl (lv_at hl 1 rfl) ?_
      refine lv_bipush (v := 8) hx hb dQ_draft_122 (by decide) ?_
      refine lv_iload hx hb dQ_draft_124 (lv_at hl 3 rfl) ?_
      refine lv_imul hx hb dQ_draft_126 ?_
      refine lv_lushr hx hb dQ_draft_127 rfl ?_
      refine lv_ldc2 hx hb hown (hts _ kcQ_139) dQ_draft_128 ?_
      refine lv_land hx hb dQ_draft_131 ?_
      refine lv_l2i hx hb dQ_draft_132 rfl ?_
      obtain ⟨hi133, hf⟩ := lc_chk_some hf
      refine lc_iast hx hb hE hH lc_h81 rfl hi133 dQ_draft_133 (fun H locs hH => ?_)
      obtain ⟨x134, e134⟩ : ∃ x : Int32, x = x5 + 1 := ⟨_, rfl⟩
      replace hf := lc_let_of e134 hf
      refine lv_iinc (k := 3) (v := x134) hx hb dQ_draft_134 hl rfl ((lc_incv _ (by decide)).trans e134.symm) (by decide) rfl (fun ls hl => ?_)
      replace hl : lv_has ls 7 [(5, .int x134), (0, .ref (lc_ad G 80)), (1, .long x1), (3, .int x3)] := hl
      refine lv_goto (tgt := 104) hx hb dQ_draft_137 (by decide) ?_
      exact ih hf (lv_sub hl [1, 2, 3, 0] rfl) hH
set_option maxHeartbeats 4000000 in
set_option maxRecDepth 100000 in
theorem bQ_draft_79 {p : Program} {l : Launch} {e : Env} {s : State} {m : MethodId} {args : Array Value} {below : List Frame} {meth : Method} {c : Code} {G : lc_G} (hx : p.tables.exec = Jvm.exec) (hb : c.code = prog_10_method_4_code) (hml : c.maxLocals = 7) (hr : meth.sig.returnType = (some .boolean)) (hlocks : meth.locks = false) (hown : s.vm.findClass "LinearCellsModel" = some m.cls) (hts : ∀ w ∈ lc_ALL, w.before args s = true) (hE : lc_E G s) {r : Int32} {z' : lc_S} : ∀ {x1 : Int64} {x3 : Int32} {x4 : Int32} {z : lc_S} {H : Heap} {locs : List Loc} {ls : Array Slot}, fQ_draft_79 x1 x3 x4 z = some (r, z') → lv_has ls 7 [(0, .ref (lc_ad G 80)), (1, .long x1), (3, .int x3), (4, .int x4)] → lc_H G z s.heap H locs → W p l e (lc_rm 0) s m args below meth c H locs 0 0 (MQ below (lc_Q G (some (.int r)) z') args s 0 0 (lc_A G)) (F0 m 79 ls []) := by
  intro x1 x3 x4 z H locs ls hf hl hH
  rw [fQ_draft_79] at hf
  refine lv_iload_n hx hb dQ_draft_79 rfl (lv_at hl 2 rfl) ?_
  refine lv_if_eq (tgt := 99) hx hb dQ_draft_80 (by decide) (fun hc => ?_) (fun hc => ?_)
  · replace hf := lc_ite_pos hc hf
    exact bQ_draft_99 hx hb hml hr hlocks hown hts hE hf (lv_sub hl [] rfl) hH
  · replace hf := lc_ite_neg hc hf
    refine lv_iload hx hb dQ_draft_83 (lv_at hl 3 rfl) ?_
    refine lv_if_eq (tgt := 99) hx hb dQ_draft_85 (by decide) (fun hc => ?_) (fun hc => ?_)
    · replace hf := lc_ite_pos hc hf
      exact bQ_draft_99 hx hb hml hr hlocks hown hts hE hf (lv_sub hl [] rfl) hH
    · replace hf := lc_ite_neg hc hf
      refine lv_aload_n hx hb dQ_draft_88 rfl (lv_at hl 0 rfl) ?_
      refine lc_geti hx hb hts hown hE hH flQ_145 lc_h80 rfl dQ_draft_89 ?_
      refine lv_iload_n hx hb dQ_draft_92 rfl (lv_at hl 2 rfl) ?_
      refine lv_iadd hx hb dQ_draft_93 ?_
      refine lv_bipush (v := 120) hx hb dQ_draft_94 (by decide) ?_
      refine lv_icmp_le (tgt := 101) hx hb dQ_draft_96 (by decide) (fun hc => ?_) (fun hc => ?_)
      · replace hf := lc_ite_pos hc hf
        refine lv_iconst (v := 0) hx hb dQ_draft_101 (by decide) ?_
        refine lv_istore hx hb dQ_draft_102 hl (by decide) rfl (fun ls hl => ?_)
        replace hl : lv_has ls 7 [(5, .int 0), (0, .ref (lc_ad G 80)), (1, .long x1), (3, .int x3), (4, .int x4)] := hl
        exact bQ_draft_104 hx hb hml hr hlocks hown hts hE _ hf (lv_sub hl [1, 2, 3, 0] rfl) hH
      · replace hf := lc_ite_neg hc hf
        exact bQ_draft_99 hx hb hml hr hlocks hown hts hE hf (lv_sub hl [] rfl) hH
set_option maxHeartbeats 4000000 in
set_option maxRecDepth 100000 in
theorem bQ_draft_10 {p : Program} {l : Launch} {e : Env} {s : State} {m : MethodId} {args : Array Value} {below : List Frame} {meth : Method} {c : Code} {G : lc_G} (hx : p.tables.exec = Jvm.exec) (hb : c.code = prog_10_method_4_code) (hml : c.maxLocals = 7) (hr : meth.sig.returnType = (some .boolean)) (hlocks : meth.locks = false) (hown : s.vm.findClass "LinearCellsModel" = some m.cls) (hts : ∀ w ∈ lc_ALL, w.before args s = true) (hE : lc_E G s) {r : Int32} {z' : lc_S} : ∀ (n : Nat) {x1 : Int64} {x3 : Int32} {x4 : Int32} {z : lc_S} {H : Heap} {locs : List Loc} {ls : Array Slot}, fQ_draft_10 n x1 x3 x4 z = some (r, z') → lv_has ls 7 [(0, .ref (lc_ad G 80)), (1, .long x1), (3, .int x3), (4, .int x4)] → lc_H G z s.heap H locs → W p l e (lc_rm 0) s m args below meth c H locs 0 0 (MQ below (lc_Q G (some (.int r)) z') args s 0 0 (lc_A G)) (F0 m 10 ls []) := by
  intro n
  induction n with
  | zero =>
    intro x1 x3 x4 z H locs ls hf hl hH
    exact absurd (show (none : Option ((Int32) × lc_S)) = some (r, z') from hf) (fun h => by cases h)
  | succ n ih =>
    intro x1 x3 x4 z H locs ls hf hl hH
    rw [fQ_draft_10] at hf
    refine lv_iload_n hx hb dQ_draft_10 rfl (lv_at hl 2 rfl) ?_
    refine lv_bipush (v := 8) hx hb dQ_draft_11 (by decide) ?_
    refine lv_icmp_ge (tgt := 79) hx hb dQ_draft_13 (by decide) (fun hc => ?_) (fun hc => ?_)
    · replace hf := lc_ite_pos hc hf
      exact bQ_draft_79 hx hb hml hr hlocks hown hts hE hf (lv_sub hl [0, 1, 2, 3] rfl) hH
    · replace hf := lc_ite_neg hc hf
      refine lv_lload_n hx hb dQ_draft_16 rfl (lv_at hl 1 rfl) ?_
      refine lv_bipush (v := 8) hx hb dQ_draft_17 (by decide) ?_
      refine lv_iload_n hx hb dQ_draft_19 rfl (lv_at hl 2 rfl) ?_
      refine lv_imul hx hb dQ_draft_20 ?_
      refine lv_lushr hx hb dQ_draft_21 rfl ?_
      refine lv_ldc2 hx hb hown (hts _ kcQ_139) dQ_draft_22 ?_
      refine lv_land hx hb dQ_draft_25 ?_
      refine lv_lconst (v := 0) hx hb dQ_draft_26 (by decide) ?_
      refine W.lcmp hx hb dQ_draft_27 ?_
      refine lv_if_eq (tgt := 79) hx hb dQ_draft_28 (by decide) (fun hc => ?_) (fun hc => ?_)
      · replace hf := lc_ite_pos hc hf
        exact bQ_draft_79 hx hb hml hr hlocks hown hts hE hf (lv_sub hl [0, 1, 2, 3] rfl) hH
      · replace hf := lc_ite_neg hc hf
        refine lv_lload_n hx hb dQ_draft_31 rfl (lv_at hl 1 rfl) ?_
        refine lv_bipush (v := 8) hx hb dQ_draft_32 (by decide) ?_
        refine lv_iload_n hx hb dQ_draft_34 rfl (lv_at hl 2 rfl) ?_
        refine lv_imul hx hb dQ_draft_35 ?_
        refine lv_lushr hx hb dQ_draft_36 rfl ?_
        refine lv_ldc2 hx hb hown (hts _ kcQ_139) dQ_draft_37 ?_
        refine lv_land hx hb dQ_draft_40 ?_
        refine lv_topl (fun x41 e41 => ?_)
        replace hf := lc_let_of e41 hf
        refine lv_lstore hx hb dQ_draft_41 hl (by decide) rfl (fun ls hl => ?_)
        replace hl : lv_has ls 7 [(5, .long x41), (0, .ref (lc_ad G 80)), (1, .long x1), (3, .int x3), (4, .int x4)] := hl
        refine lv_iload hx hb dQ_draft_43 (lv_at hl 4 rfl) ?_
        refine lv_if_eq (tgt := 70) hx hb dQ_draft_45 (by decide) (fun hc => ?_) (fun hc => ?_)
        · replace hf := lc_ite_pos hc hf
          exact bQ_draft_70 hx hb hml hr hlocks hown hts hE (fun hf hl hH => ih hf hl hH) hf (lv_sub hl [1, 2, 3] rfl) hH
        · replace hf := lc_ite_neg hc hf
          refine lv_lload hx hb dQ_draft_48 (lv_at hl 0 rfl) ?_
          refine lv_ldc2 hx hb hown (hts _ kcQ_141) dQ_draft_50 ?_
          refine W.lcmp hx hb dQ_draft_53 ?_
          refine lv_if_lt (tgt := 70) hx hb dQ_draft_54 (by decide) (fun hc => ?_) (fun hc => ?_)
          · replace hf := lc_ite_pos hc hf
            exact bQ_draft_70 hx hb hml hr hlocks hown hts hE (fun hf hl hH => ih hf hl hH) hf (lv_sub hl [1, 2, 3] rfl) hH
          · replace hf := lc_ite_neg hc hf
            refine lv_lload hx hb dQ_draft_57 (lv_at hl 0 rfl) ?_
            refine lv_ldc2 hx hb hown (hts _ kcQ_143) dQ_draft_59 ?_
            refine W.lcmp hx hb dQ_draft_62 ?_
            refine lv_if_gt (tgt := 70) hx hb dQ_draft_63 (by decide) (fun hc => ?_) (fun hc => ?_)
            · replace hf := lc_ite_pos hc hf
              exact bQ_draft_70 hx hb hml hr hlocks hown hts hE (fun hf hl hH => ih hf hl hH) hf (lv_sub hl [1, 2, 3] rfl) hH
            · replace hf := lc_ite_neg hc hf
              refine lv_iconst (v := 1) hx hb dQ_draft_66 (by decide) ?_
              refine lv_goto (tgt := 71) hx hb dQ_draft_67 (by decide) ?_
              exact bQ_draft_71 hx hb hml hr hlocks hown hts hE (fun hf hl hH => ih hf hl hH) hf (lv_sub hl [1, 2, 3] rfl) hH
set_option maxHeartbeats 4000000 in
set_option maxRecDepth 100000 in
theorem cQ_draft (l : Launch) (G : lc_G) {a1 : Int64} {r : Int32} {z z' : lc_S} (hf : fQ_draft a1 z = some (r, z')) : lc_M l G yQ_draft wQ_draft 0 [.ref (lc_ad G 80), .long a1] z (some (.int r)) z' := by
  refine lc_M_of (cc := prog_10_method_4_code) (maxL := 7) (ret := (some .boolean)) (own := "LinearCellsModel") (by decide) rfl (fun w h => List.mem_cons_of_mem _ h) (Nat.le_of_ble_eq_true rfl) rfl ?_
  intro p e s m below meth c hx hb hml hr hlocks hown hts hE ls hl hH
  replace hl : lv_has ls 7 [(0, .ref (lc_ad G 80)), (1, .long a1)] := hl
  rw [fQ_draft] at hf
  refine lv_aload_n hx hb dQ_draft_0 rfl (lv_at hl 0 rfl) ?_
  refine lv_iconst (v := 0) hx hb dQ_draft_1 (by decide) ?_
  refine lc_puti hx hb hts hown hE hH fpQ_135 lc_h80 rfl rfl rfl dQ_draft_2 (fun H locs hH => ?_)
  refine lv_iconst (v := 0) hx hb dQ_draft_5 (by decide) ?_
  refine lv_istore_n hx hb dQ_draft_6 rfl hl (by decide) rfl (fun ls hl => ?_)
  replace hl : lv_has ls 7 [(3, .int 0), (0, .ref (lc_ad G 80)), (1, .long a1)] := hl
  refine lv_iconst (v := 1) hx hb dQ_draft_7 (by decide) ?_
  refine lv_istore hx hb dQ_draft_8 hl (by decide) rfl (fun ls hl => ?_)
  replace hl : lv_has ls 7 [(4, .int 1), (3, .int 0), (0, .ref (lc_ad G 80)), (1, .long a1)] := hl
  exact bQ_draft_10 hx hb hml hr hlocks hown hts hE _ hf (lv_sub hl [2, 3, 1, 0] rfl) hH
