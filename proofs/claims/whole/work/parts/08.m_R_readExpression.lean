theorem dR_readExpression_0 : decode prog_6_method_8_code 0 = .ok (.iload_n 1, 1) := by decide +kernel
theorem dR_readExpression_1 : decode prog_6_method_8_code 1 = .ok (.bipush 16, 2) := by decide +kernel
theorem dR_readExpression_3 : decode prog_6_method_8_code 3 = .ok (.if_icmp .le 5, 3) := by decide +kernel
theorem dR_readExpression_6 : decode prog_6_method_8_code 6 = .ok (.iconst (-1), 1) := by decide +kernel
theorem dR_readExpression_7 : decode prog_6_method_8_code 7 = .ok (.ireturn, 1) := by decide +kernel
theorem dR_readExpression_8 : decode prog_6_method_8_code 8 = .ok (.aload_n 0, 1) := by decide +kernel
theorem dR_readExpression_9 : decode prog_6_method_8_code 9 = .ok (.invokevirtual 48, 3) := by decide +kernel
theorem dR_readExpression_12 : decode prog_6_method_8_code 12 = .ok (.istore_n 2, 1) := by decide +kernel
theorem dR_readExpression_13 : decode prog_6_method_8_code 13 = .ok (.iload_n 2, 1) := by decide +kernel
theorem dR_readExpression_14 : decode prog_6_method_8_code 14 = .ok (.invokestatic 52, 3) := by decide +kernel
theorem dR_readExpression_17 : decode prog_6_method_8_code 17 = .ok (.ifCond .eq 9, 3) := by decide +kernel
theorem dR_readExpression_20 : decode prog_6_method_8_code 20 = .ok (.aload_n 0, 1) := by decide +kernel
theorem dR_readExpression_21 : decode prog_6_method_8_code 21 = .ok (.iload_n 2, 1) := by decide +kernel
theorem dR_readExpression_22 : decode prog_6_method_8_code 22 = .ok (.invokevirtual 76, 3) := by decide +kernel
theorem dR_readExpression_25 : decode prog_6_method_8_code 25 = .ok (.ireturn, 1) := by decide +kernel
theorem dR_readExpression_26 : decode prog_6_method_8_code 26 = .ok (.iload_n 2, 1) := by decide +kernel
theorem dR_readExpression_27 : decode prog_6_method_8_code 27 = .ok (.invokestatic 79, 3) := by decide +kernel
theorem dR_readExpression_30 : decode prog_6_method_8_code 30 = .ok (.ifCond .eq 30, 3) := by decide +kernel
theorem dR_readExpression_33 : decode prog_6_method_8_code 33 = .ok (.aload_n 0, 1) := by decide +kernel
theorem dR_readExpression_34 : decode prog_6_method_8_code 34 = .ok (.iload_n 2, 1) := by decide +kernel
theorem dR_readExpression_35 : decode prog_6_method_8_code 35 = .ok (.invokevirtual 82, 3) := by decide +kernel
theorem dR_readExpression_38 : decode prog_6_method_8_code 38 = .ok (.istore_n 3, 1) := by decide +kernel
theorem dR_readExpression_39 : decode prog_6_method_8_code 39 = .ok (.iload_n 3, 1) := by decide +kernel
theorem dR_readExpression_40 : decode prog_6_method_8_code 40 = .ok (.iconst (-1), 1) := by decide +kernel
theorem dR_readExpression_41 : decode prog_6_method_8_code 41 = .ok (.if_icmp .ne 7, 3) := by decide +kernel
theorem dR_readExpression_44 : decode prog_6_method_8_code 44 = .ok (.iconst (-1), 1) := by decide +kernel
theorem dR_readExpression_45 : decode prog_6_method_8_code 45 = .ok (.goto 14, 3) := by decide +kernel
theorem dR_readExpression_48 : decode prog_6_method_8_code 48 = .ok (.aload_n 0, 1) := by decide +kernel
theorem dR_readExpression_49 : decode prog_6_method_8_code 49 = .ok (.getfield 38, 3) := by decide +kernel
theorem dR_readExpression_52 : decode prog_6_method_8_code 52 = .ok (.bipush 35, 2) := by decide +kernel
theorem dR_readExpression_54 : decode prog_6_method_8_code 54 = .ok (.iload_n 3, 1) := by decide +kernel
theorem dR_readExpression_55 : decode prog_6_method_8_code 55 = .ok (.iconst (-1), 1) := by decide +kernel
theorem dR_readExpression_56 : decode prog_6_method_8_code 56 = .ok (.invokevirtual 85, 3) := by decide +kernel
theorem dR_readExpression_59 : decode prog_6_method_8_code 59 = .ok (.ireturn, 1) := by decide +kernel
theorem dR_readExpression_60 : decode prog_6_method_8_code 60 = .ok (.iload_n 2, 1) := by decide +kernel
theorem dR_readExpression_61 : decode prog_6_method_8_code 61 = .ok (.bipush 40, 2) := by decide +kernel
theorem dR_readExpression_63 : decode prog_6_method_8_code 63 = .ok (.if_icmp .eq 5, 3) := by decide +kernel
theorem dR_readExpression_66 : decode prog_6_method_8_code 66 = .ok (.iconst (-1), 1) := by decide +kernel
theorem dR_readExpression_67 : decode prog_6_method_8_code 67 = .ok (.ireturn, 1) := by decide +kernel
theorem dR_readExpression_68 : decode prog_6_method_8_code 68 = .ok (.aload_n 0, 1) := by decide +kernel
theorem dR_readExpression_69 : decode prog_6_method_8_code 69 = .ok (.aload_n 0, 1) := by decide +kernel
theorem dR_readExpression_70 : decode prog_6_method_8_code 70 = .ok (.invokevirtual 48, 3) := by decide +kernel
theorem dR_readExpression_73 : decode prog_6_method_8_code 73 = .ok (.iload_n 1, 1) := by decide +kernel
theorem dR_readExpression_74 : decode prog_6_method_8_code 74 = .ok (.iconst 1, 1) := by decide +kernel
theorem dR_readExpression_75 : decode prog_6_method_8_code 75 = .ok (.iadd, 1) := by decide +kernel
theorem dR_readExpression_76 : decode prog_6_method_8_code 76 = .ok (.invokevirtual 89, 3) := by decide +kernel
theorem dR_readExpression_79 : decode prog_6_method_8_code 79 = .ok (.istore_n 3, 1) := by decide +kernel
theorem dR_readExpression_80 : decode prog_6_method_8_code 80 = .ok (.iload_n 3, 1) := by decide +kernel
theorem dR_readExpression_81 : decode prog_6_method_8_code 81 = .ok (.iconst (-1), 1) := by decide +kernel
theorem dR_readExpression_82 : decode prog_6_method_8_code 82 = .ok (.if_icmp .eq 16, 3) := by decide +kernel
theorem dR_readExpression_85 : decode prog_6_method_8_code 85 = .ok (.aload_n 0, 1) := by decide +kernel
theorem dR_readExpression_86 : decode prog_6_method_8_code 86 = .ok (.invokevirtual 48, 3) := by decide +kernel
theorem dR_readExpression_89 : decode prog_6_method_8_code 89 = .ok (.bipush 41, 2) := by decide +kernel
theorem dR_readExpression_91 : decode prog_6_method_8_code 91 = .ok (.if_icmp .ne 7, 3) := by decide +kernel
theorem dR_readExpression_94 : decode prog_6_method_8_code 94 = .ok (.iload_n 3, 1) := by decide +kernel
theorem dR_readExpression_95 : decode prog_6_method_8_code 95 = .ok (.goto 4, 3) := by decide +kernel
theorem dR_readExpression_98 : decode prog_6_method_8_code 98 = .ok (.iconst (-1), 1) := by decide +kernel
theorem dR_readExpression_99 : decode prog_6_method_8_code 99 = .ok (.ireturn, 1) := by decide +kernel
def fR_readExpression_98 (rc : Int32 → lc_S → Option (Int32 × lc_S)) (z : lc_S) : Option ((Int32) × lc_S) :=
  some ((-1), z)
def fR_readExpressionB (rc : Int32 → lc_S → Option (Int32 × lc_S)) (a1 : Int32) (z : lc_S) : Option ((Int32) × lc_S) :=
  if a1 ≤ 16 then (lc_bnd (fR_nextSign z) (fun r9 z9 => lc_bnd (fR_isLetter r9 z9) (fun r14 z14 => if r14 = 0 then (lc_bnd (fR_isDigit r9 z14) (fun r27 z27 => if r27 = 0 then (if r9 = 40 then (lc_bnd (fR_nextSign z27) (fun r70 z70 => lc_bnd (fR_readForm rc r70 (a1 + 1) z70) (fun r76 z76 => if r76 = (-1) then (fR_readExpression_98 rc z76) else (lc_bnd (fR_nextSign z76) (fun r86 z86 => if r86 = 41 then (some (r76, z86)) else (fR_readExpression_98 rc z86)))))) else (some ((-1), z27))) else (lc_bnd (fR_readNumber r9 z27) (fun r35 z35 => if r35 = (-1) then (some ((-1), z35)) else (lc_bnr (lcR z35 4 3) (fun q49 => lc_chk (lc_sh q49 = (0, 1, 0)) (lc_bnd (fP_addLeaf q49 35 r35 (-1) z35) (fun r56 z56 => some (r56, z56))))))))) else (lc_bnd (fR_addVariable r9 z14) (fun r22 z22 => some (r22, z22)))))) else (some ((-1), z))
def fR_readExpression : Nat → Int32 → lc_S → Option ((Int32) × lc_S)
  | 0, _, _ => none
  | n + 1, a1, z => fR_readExpressionB (fR_readExpression n) a1 z
set_option maxHeartbeats 4000000 in
set_option maxRecDepth 100000 in
theorem bR_readExpression_98 {p : Program} {l : Launch} {e : Env} {s : State} {m : MethodId} {args : Array Value} {below : List Frame} {meth : Method} {c : Code} {G : lc_G} {rc : Int32 → lc_S → Option (Int32 × lc_S)} {h : Nat} (hx : p.tables.exec = Jvm.exec) (hb : c.code = prog_6_method_8_code) (hml : c.maxLocals = 4) (hr : meth.sig.returnType = (some .int)) (hlocks : meth.locks = false) (hown : s.vm.findClass "LinearCells$Reader" = some m.cls) (hts : ∀ w ∈ lc_ALL, w.before args s = true) (hE : lc_E G s) (hrc : ∀ {d : Int32} {r : Int32} {z z' : lc_S}, rc d z = some (r, z') → lc_M l G yR_readExpression wR_readExpression h [.ref (lc_ad G 4), .int d] z (some (.int r)) z') {r : Int32} {z' : lc_S} : ∀ {z : lc_S} {H : Heap} {locs : List Loc} {ls : Array Slot}, fR_readExpression_98 rc z = some (r, z') → lv_has ls 4 [] → lc_H G z s.heap H locs → W p l e (lc_rm (h + 4)) s m args below meth c H locs 0 0 (MQ below (lc_Q G (some (.int r)) z') args s 0 0 (lc_A G)) (F0 m 98 ls []) := by
  intro z H locs ls hf hl hH
  rw [fR_readExpression_98] at hf
  refine lv_iconst (v := (-1)) hx hb dR_readExpression_98 (by decide) ?_
  exact lc_iret hx hb hr hlocks hH hf dR_readExpression_99
set_option maxHeartbeats 4000000 in
set_option maxRecDepth 100000 in
theorem cR_readExpressionB {l : Launch} {G : lc_G} {rc : Int32 → lc_S → Option (Int32 × lc_S)} {h : Nat} (hrc : ∀ {d : Int32} {r : Int32} {z z' : lc_S}, rc d z = some (r, z') → lc_M l G yR_readExpression wR_readExpression h [.ref (lc_ad G 4), .int d] z (some (.int r)) z') {a1 : Int32} {r : Int32} {z z' : lc_S} (hf : fR_readExpressionB rc a1 z = some (r, z')) : lc_M l G yR_readExpression wR_readExpression (h + 4) [.ref (lc_ad G 4), .int a1] z (some (.int r)) z' := by
  refine lc_M_of (cc := prog_6_method_8_code) (maxL := 4) (ret := (some .int)) (own := "LinearCells$Reader") (by decide) rfl (fun w h => List.mem_cons_of_mem _ h) (Nat.le_of_ble_eq_true rfl) rfl ?_
  intro p e s m below meth c hx hb hml hr hlocks hown hts hE ls hl hH
  replace hl : lv_has ls 4 [(0, .ref (lc_ad G 4)), (1, .int a1)] := hl
  rw [fR_readExpressionB] at hf
  refine lv_iload_n hx hb dR_readExpression_0 rfl (lv_at hl 1 rfl) ?_
  refine lv_bipush (v := 16) hx hb dR_readExpression_1 (by decide) ?_
  refine lv_icmp_le (tgt := 8) hx hb dR_readExpression_3 (by decide) (fun hc => ?_) (fun hc => ?_)
  · replace hf := lc_ite_pos hc hf
    refine lv_aload_n hx hb dR_readExpression_8 rfl (lv_at hl 0 rfl) ?_
    obtain ⟨r9, z9, h9, hf⟩ := lc_bnd_some hf
    refine lc_calli (va_runV (As := []) (rest := []) ⟨hx, hb, hml, hown, hts⟩ (cR_nextSign l G h9) (lc_cwV hts kvR_48 (lc_room (by omega) (by decide))) (lc_preV hE hH lc_h4 rfl _) rfl rfl hl.1 rfl (lv_room (Nat.le_of_ble_eq_true rfl)) dR_readExpression_9 ⟨Nat.zero_le _, Nat.zero_le _⟩) hH (fun H locs hH => ?_)
    refine lv_istore_n hx hb dR_readExpression_12 rfl hl (by decide) rfl (fun ls hl => ?_)
    replace hl : lv_has ls 4 [(2, .int r9), (0, .ref (lc_ad G 4)), (1, .int a1)] := hl
    refine lv_iload_n hx hb dR_readExpression_13 rfl (lv_at hl 0 rfl) ?_
    obtain ⟨r14, z14, h14, hf⟩ := lc_bnd_some hf
    refine lc_calli (va_runS (As := [.int r9]) (rest := []) ⟨hx, hb, hml, hown, hts⟩ (cR_isLetter l G h14) (lc_cwS hts ksR_52 (lc_room (by omega) (by decide))) (lc_preS hE hH _) rfl rfl hl.1 rfl (lv_room (Nat.le_of_ble_eq_true rfl)) dR_readExpression_14 ⟨Nat.zero_le _, Nat.zero_le _⟩) hH (fun H locs hH => ?_)
    refine lv_if_eq (tgt := 26) hx hb dR_readExpression_17 (by decide) (fun hc => ?_) (fun hc => ?_)
    · replace hf := lc_ite_pos hc hf
      refine lv_iload_n hx hb dR_readExpression_26 rfl (lv_at hl 0 rfl) ?_
      obtain ⟨r27, z27, h27, hf⟩ := lc_bnd_some hf
      refine lc_calli (va_runS (As := [.int r9]) (rest := []) ⟨hx, hb, hml, hown, hts⟩ (cR_isDigit l G h27) (lc_cwS hts ksR_79 (lc_room (by omega) (by decide))) (lc_preS hE hH _) rfl rfl hl.1 rfl (lv_room (Nat.le_of_ble_eq_true rfl)) dR_readExpression_27 ⟨Nat.zero_le _, Nat.zero_le _⟩) hH (fun H locs hH => ?_)
      refine lv_if_eq (tgt := 60) hx hb dR_readExpression_30 (by decide) (fun hc => ?_) (fun hc => ?_)
      · replace hf := lc_ite_pos hc hf
        refine lv_iload_n hx hb dR_readExpression_60 rfl (lv_at hl 0 rfl) ?_
        refine lv_bipush (v := 40) hx hb dR_readExpression_61 (by decide) ?_
        refine lv_icmp_eq (tgt := 68) hx hb dR_readExpression_63 (by decide) (fun hc => ?_) (fun hc => ?_)
        · replace hf := lc_ite_pos hc hf
          refine lv_aload_n hx hb dR_readExpression_68 rfl (lv_at hl 1 rfl) ?_
          refine lv_aload_n hx hb dR_readExpression_69 rfl (lv_at hl 1 rfl) ?_
          obtain ⟨r70, z70, h70, hf⟩ := lc_bnd_some hf
          refine lc_calli (va_runV (As := []) (rest := [.ref (lc_ad G 4)]) ⟨hx, hb, hml, hown, hts⟩ (cR_nextSign l G h70) (lc_cwV hts kvR_48 (lc_room (by omega) (by decide))) (lc_preV hE hH lc_h4 rfl _) rfl rfl hl.1 rfl (lv_room (Nat.le_of_ble_eq_true rfl)) dR_readExpression_70 ⟨Nat.zero_le _, Nat.zero_le _⟩) hH (fun H locs hH => ?_)
          refine lv_iload_n hx hb dR_readExpression_73 rfl (lv_at hl 2 rfl) ?_
          refine lv_iconst (v := 1) hx hb dR_readExpression_74 (by decide) ?_
          refine lv_iadd hx hb dR_readExpression_75 ?_
          obtain ⟨r76, z76, h76, hf⟩ := lc_bnd_some hf
          refine lc_calli (va_runV (As := [.int r70, .int (a1 + 1)]) (rest := []) ⟨hx, hb, hml, hown, hts⟩ (cR_readForm hrc h76) (lc_cwV hts kvR_89 (lc_room (by omega) (by decide))) (lc_preV hE hH lc_h4 rfl _) rfl rfl hl.1 rfl (lv_room (Nat.le_of_ble_eq_true rfl)) dR_readExpression_76 ⟨Nat.zero_le _, Nat.zero_le _⟩) hH (fun H locs hH => ?_)
          refine lv_istore_n hx hb dR_readExpression_79 rfl hl (by decide) rfl (fun ls hl => ?_)
          replace hl : lv_has ls 4 [(3, .int r76), (2, .int r9), (0, .ref (lc_ad G 4)), (1, .int a1)] := hl
          refine lv_iload_n hx hb dR_readExpression_80 rfl (lv_at hl 0 rfl) ?_
          refine lv_iconst (v := (-1)) hx hb dR_readExpression_81 (by decide) ?_
          refine lv_icmp_eq (tgt := 98) hx hb dR_readExpression_82 (by decide) (fun hc => ?_) (fun hc => ?_)
          · replace hf := lc_ite_pos hc hf
            exact bR_readExpression_98 hx hb hml hr hlocks hown hts hE hrc hf (lv_sub hl [] rfl) hH
          · replace hf := lc_ite_neg hc hf
            refine lv_aload_n hx hb dR_readExpression_85 rfl (lv_at hl 2 rfl) ?_
            obtain ⟨r86, z86, h86, hf⟩ := lc_bnd_some hf
            refine lc_calli (va_runV (As := []) (rest := []) ⟨hx, hb, hml, hown, hts⟩ (cR_nextSign l G h86) (lc_cwV hts kvR_48 (lc_room (by omega) (by decide))) (lc_preV hE hH lc_h4 rfl _) rfl rfl hl.1 rfl (lv_room (Nat.le_of_ble_eq_true rfl)) dR_readExpression_86 ⟨Nat.zero_le _, Nat.zero_le _⟩) hH (fun H locs hH => ?_)
            refine lv_bipush (v := 41) hx hb dR_readExpression_89 (by decide) ?_
            refine lv_icmp_ne (tgt := 98) hx hb dR_readExpression_91 (by decide) (fun hc => ?_) (fun hc => ?_)
            · replace hf := lc_ite_neg hc hf
              exact bR_readExpression_98 hx hb hml hr hlocks hown hts hE hrc hf (lv_sub hl [] rfl) hH
            · replace hf := lc_ite_pos hc hf
              refine lv_iload_n hx hb dR_readExpression_94 rfl (lv_at hl 0 rfl) ?_
              refine lv_goto (tgt := 99) hx hb dR_readExpression_95 (by decide) ?_
              exact lc_iret hx hb hr hlocks hH hf dR_readExpression_99
        · replace hf := lc_ite_neg hc hf
          refine lv_iconst (v := (-1)) hx hb dR_readExpression_66 (by decide) ?_
          exact lc_iret hx hb hr hlocks hH hf dR_readExpression_67
      · replace hf := lc_ite_neg hc hf
        refine lv_aload_n hx hb dR_readExpression_33 rfl (lv_at hl 1 rfl) ?_
        refine lv_iload_n hx hb dR_readExpression_34 rfl (lv_at hl 0 rfl) ?_
        obtain ⟨r35, z35, h35, hf⟩ := lc_bnd_some hf
        refine lc_calli (va_runV (As := [.int r9]) (rest := []) ⟨hx, hb, hml, hown, hts⟩ (cR_readNumber l G h35) (lc_cwV hts kvR_82 (lc_room (by omega) (by decide))) (lc_preV hE hH lc_h4 rfl _) rfl rfl hl.1 rfl (lv_room (Nat.le_of_ble_eq_true rfl)) dR_readExpression_35 ⟨Nat.zero_le _, Nat.zero_le _⟩) hH (fun H locs hH => ?_)
        refine lv_istore_n hx hb dR_readExpression_38 rfl hl (by decide) rfl (fun ls hl => ?_)
        replace hl : lv_has ls 4 [(3, .int r35), (2, .int r9), (0, .ref (lc_ad G 4)), (1, .int a1)] := hl
        refine lv_iload_n hx hb dR_readExpression_39 rfl (lv_at hl 0 rfl) ?_
        refine lv_iconst (v := (-1)) hx hb dR_readExpression_40 (by decide) ?_
        refine lv_icmp_ne (tgt := 48) hx hb dR_readExpression_41 (by decide) (fun hc => ?_) (fun hc => ?_)
        · replace hf := lc_ite_neg hc hf
          refine lv_aload_n hx hb dR_readExpression_48 rfl (lv_at hl 2 rfl) ?_
          obtain ⟨q49, hq49, hf⟩ := lc_bnr_some hf
          refine lc_getr hx hb hts hown hE hH flR_38 lc_h4 rfl hq49 dR_readExpression_49 ?_
          refine lv_bipush (v := 35) hx hb dR_readExpression_52 (by decide) ?_
          refine lv_iload_n hx hb dR_readExpression_54 rfl (lv_at hl 0 rfl) ?_
          refine lv_iconst (v := (-1)) hx hb dR_readExpression_55 (by decide) ?_
          obtain ⟨hs56_0, hf⟩ := lc_chk_some hf
          obtain ⟨r56, z56, h56, hf⟩ := lc_bnd_some hf
          refine lc_calli (va_runV (As := [.int 35, .int r35, .int (-1)]) (rest := []) ⟨hx, hb, hml, hown, hts⟩ (cP_addLeaf l G h56) (lc_cwV hts kvR_85 (lc_room (by omega) (by decide))) (lc_preV hE hH hs56_0 rfl _) rfl rfl hl.1 rfl (lv_room (Nat.le_of_ble_eq_true rfl)) dR_readExpression_56 ⟨Nat.zero_le _, Nat.zero_le _⟩) hH (fun H locs hH => ?_)
          exact lc_iret hx hb hr hlocks hH hf dR_readExpression_59
        · replace hf := lc_ite_pos hc hf
          refine lv_iconst (v := (-1)) hx hb dR_readExpression_44 (by decide) ?_
          refine lv_goto (tgt := 59) hx hb dR_readExpression_45 (by decide) ?_
          exact lc_iret hx hb hr hlocks hH hf dR_readExpression_59
    · replace hf := lc_ite_neg hc hf
      refine lv_aload_n hx hb dR_readExpression_20 rfl (lv_at hl 1 rfl) ?_
      refine lv_iload_n hx hb dR_readExpression_21 rfl (lv_at hl 0 rfl) ?_
      obtain ⟨r22, z22, h22, hf⟩ := lc_bnd_some hf
      refine lc_calli (va_runV (As := [.int r9]) (rest := []) ⟨hx, hb, hml, hown, hts⟩ (cR_addVariable l G h22) (lc_cwV hts kvR_76 (lc_room (by omega) (by decide))) (lc_preV hE hH lc_h4 rfl _) rfl rfl hl.1 rfl (lv_room (Nat.le_of_ble_eq_true rfl)) dR_readExpression_22 ⟨Nat.zero_le _, Nat.zero_le _⟩) hH (fun H locs hH => ?_)
      exact lc_iret hx hb hr hlocks hH hf dR_readExpression_25
  · replace hf := lc_ite_neg hc hf
    refine lv_iconst (v := (-1)) hx hb dR_readExpression_6 (by decide) ?_
    exact lc_iret hx hb hr hlocks hH hf dR_readExpression_7
theorem cR_readExpression {l : Launch} {G : lc_G} : ∀ (n : Nat) {a1 : Int32} {r : Int32} {z z' : lc_S}, fR_readExpression n a1 z = some (r, z') → lc_M l G yR_readExpression wR_readExpression (4 * n) [.ref (lc_ad G 4), .int a1] z (some (.int r)) z' := by
  intro n
  induction n with
  | zero =>
    intro a1 r z z' hf
    exact absurd (show (none : Option ((Int32) × lc_S)) = some (r, z') from hf) (fun h => by cases h)
  | succ n ih =>
    intro a1 r z z' hf
    exact cR_readExpressionB (h := 4 * n) (fun hf => ih hf) hf
theorem dR_reads_0 : decode prog_6_method_3_code 0 = .ok (.aload_n 0, 1) := by decide +kernel
theorem dR_reads_1 : decode prog_6_method_3_code 1 = .ok (.aload_n 1, 1) := by decide +kernel
theorem dR_reads_2 : decode prog_6_method_3_code 2 = .ok (.putfield 27, 3) := by decide +kernel
theorem dR_reads_5 : decode prog_6_method_3_code 5 = .ok (.aload_n 0, 1) := by decide +kernel
theorem dR_reads_6 : decode prog_6_method_3_code 6 = .ok (.iload_n 2, 1) := by decide +kernel
theorem dR_reads_7 : decode prog_6_method_3_code 7 = .ok (.putfield 31, 3) := by decide +kernel
theorem dR_reads_10 : decode prog_6_method_3_code 10 = .ok (.aload_n 0, 1) := by decide +kernel
theorem dR_reads_11 : decode prog_6_method_3_code 11 = .ok (.iconst 0, 1) := by decide +kernel
theorem dR_reads_12 : decode prog_6_method_3_code 12 = .ok (.putfield 35, 3) := by decide +kernel
theorem dR_reads_15 : decode prog_6_method_3_code 15 = .ok (.aload_n 0, 1) := by decide +kernel
theorem dR_reads_16 : decode prog_6_method_3_code 16 = .ok (.aload_n 3, 1) := by decide +kernel
theorem dR_reads_17 : decode prog_6_method_3_code 17 = .ok (.putfield 38, 3) := by decide +kernel
theorem dR_reads_20 : decode prog_6_method_3_code 20 = .ok (.aload_n 0, 1) := by decide +kernel
theorem dR_reads_21 : decode prog_6_method_3_code 21 = .ok (.getfield 38, 3) := by decide +kernel
theorem dR_reads_24 : decode prog_6_method_3_code 24 = .ok (.invokevirtual 42, 3) := by decide +kernel
theorem dR_reads_27 : decode prog_6_method_3_code 27 = .ok (.aload_n 0, 1) := by decide +kernel
theorem dR_reads_28 : decode prog_6_method_3_code 28 = .ok (.iconst 0, 1) := by decide +kernel
theorem dR_reads_29 : decode prog_6_method_3_code 29 = .ok (.putfield 23, 3) := by decide +kernel
theorem dR_reads_32 : decode prog_6_method_3_code 32 = .ok (.aload_n 0, 1) := by decide +kernel
theorem dR_reads_33 : decode prog_6_method_3_code 33 = .ok (.iconst 0, 1) := by decide +kernel
theorem dR_reads_34 : decode prog_6_method_3_code 34 = .ok (.putfield 45, 3) := by decide +kernel
theorem dR_reads_37 : decode prog_6_method_3_code 37 = .ok (.aload_n 0, 1) := by decide +kernel
theorem dR_reads_38 : decode prog_6_method_3_code 38 = .ok (.invokevirtual 48, 3) := by decide +kernel
theorem dR_reads_41 : decode prog_6_method_3_code 41 = .ok (.istore 4, 2) := by decide +kernel
theorem dR_reads_43 : decode prog_6_method_3_code 43 = .ok (.iload 4, 2) := by decide +kernel
theorem dR_reads_45 : decode prog_6_method_3_code 45 = .ok (.invokestatic 52, 3) := by decide +kernel
theorem dR_reads_48 : decode prog_6_method_3_code 48 = .ok (.ifCond .eq 11, 3) := by decide +kernel
theorem dR_reads_51 : decode prog_6_method_3_code 51 = .ok (.aload_n 0, 1) := by decide +kernel
theorem dR_reads_52 : decode prog_6_method_3_code 52 = .ok (.iconst 0, 1) := by decide +kernel
theorem dR_reads_53 : decode prog_6_method_3_code 53 = .ok (.invokevirtual 56, 3) := by decide +kernel
theorem dR_reads_56 : decode prog_6_method_3_code 56 = .ok (.ifCond .ne 5, 3) := by decide +kernel
theorem dR_reads_59 : decode prog_6_method_3_code 59 = .ok (.iconst 0, 1) := by decide +kernel
theorem dR_reads_60 : decode prog_6_method_3_code 60 = .ok (.ireturn, 1) := by decide +kernel
theorem dR_reads_61 : decode prog_6_method_3_code 61 = .ok (.aload_n 0, 1) := by decide +kernel
theorem dR_reads_62 : decode prog_6_method_3_code 62 = .ok (.getfield 38, 3) := by decide +kernel
theorem dR_reads_65 : decode prog_6_method_3_code 65 = .ok (.aload_n 0, 1) := by decide +kernel
theorem dR_reads_66 : decode prog_6_method_3_code 66 = .ok (.getfield 38, 3) := by decide +kernel
theorem dR_reads_69 : decode prog_6_method_3_code 69 = .ok (.getfield 59, 3) := by decide +kernel
theorem dR_reads_72 : decode prog_6_method_3_code 72 = .ok (.putfield 62, 3) := by decide +kernel
theorem dR_reads_75 : decode prog_6_method_3_code 75 = .ok (.aload_n 0, 1) := by decide +kernel
theorem dR_reads_76 : decode prog_6_method_3_code 76 = .ok (.iload 4, 2) := by decide +kernel
theorem dR_reads_78 : decode prog_6_method_3_code 78 = .ok (.iconst 0, 1) := by decide +kernel
theorem dR_reads_79 : decode prog_6_method_3_code 79 = .ok (.iconst 0, 1) := by decide +kernel
theorem dR_reads_80 : decode prog_6_method_3_code 80 = .ok (.invokevirtual 65, 3) := by decide +kernel
theorem dR_reads_83 : decode prog_6_method_3_code 83 = .ok (.aload_n 0, 1) := by decide +kernel
theorem dR_reads_84 : decode prog_6_method_3_code 84 = .ok (.iconst 0, 1) := by decide +kernel
theorem dR_reads_85 : decode prog_6_method_3_code 85 = .ok (.invokevirtual 56, 3) := by decide +kernel
theorem dR_reads_88 : decode prog_6_method_3_code 88 = .ok (.ifCond .eq 23, 3) := by decide +kernel
theorem dR_reads_91 : decode prog_6_method_3_code 91 = .ok (.aload_n 0, 1) := by decide +kernel
theorem dR_reads_92 : decode prog_6_method_3_code 92 = .ok (.iconst 0, 1) := by decide +kernel
theorem dR_reads_93 : decode prog_6_method_3_code 93 = .ok (.invokevirtual 69, 3) := by decide +kernel
theorem dR_reads_96 : decode prog_6_method_3_code 96 = .ok (.iconst (-1), 1) := by decide +kernel
theorem dR_reads_97 : decode prog_6_method_3_code 97 = .ok (.if_icmp .eq 14, 3) := by decide +kernel
theorem dR_reads_100 : decode prog_6_method_3_code 100 = .ok (.aload_n 0, 1) := by decide +kernel
theorem dR_reads_101 : decode prog_6_method_3_code 101 = .ok (.invokevirtual 48, 3) := by decide +kernel
theorem dR_reads_104 : decode prog_6_method_3_code 104 = .ok (.ifCond .ne 7, 3) := by decide +kernel
theorem dR_reads_107 : decode prog_6_method_3_code 107 = .ok (.iconst 1, 1) := by decide +kernel
theorem dR_reads_108 : decode prog_6_method_3_code 108 = .ok (.goto 4, 3) := by decide +kernel
theorem dR_reads_111 : decode prog_6_method_3_code 111 = .ok (.iconst 0, 1) := by decide +kernel
theorem dR_reads_112 : decode prog_6_method_3_code 112 = .ok (.ireturn, 1) := by decide +kernel
def fR_reads_59 (z : lc_S) : Option ((Int32) × lc_S) :=
  some (0, z)
def fR_reads_111 (z : lc_S) : Option ((Int32) × lc_S) :=
  some (0, z)
def fR_reads (a1 : Nat) (a2 : Int32) (a3 : Nat) (z : lc_S) : Option ((Int32) × lc_S) :=
  lc_bnr (lcR (lcUR (lcUI (lcUI (lcUR z 4 0 (some a1)) 4 1 a2) 4 2 0) 4 3 (some a3)) 4 3) (fun q21 => lc_chk (lc_sh q21 = (0, 1, 0)) (lc_bnd (fP_clear q21 (lcUR (lcUI (lcUI (lcUR z 4 0 (some a1)) 4 1 a2) 4 2 0) 4 3 (some a3))) (fun r24 z24 => lc_bnd (fR_nextSign (lcUI (lcUI z24 4 4 0) 4 8 0)) (fun r38 z38 => lc_bnd (fR_isLetter r38 z38) (fun r45 z45 => if r45 = 0 then (fR_reads_59 z45) else (lc_bnd (fR_readType lc_FT 0 z45) (fun r53 z53 => if r53 = 0 then (fR_reads_59 z53) else (lc_bnr (lcR z53 4 3) (fun q62 => lc_bnr (lcR z53 4 3) (fun q66 => lc_chk (lc_sh q66 = (0, 1, 0)) (lc_chk (lc_sh q62 = (0, 1, 0)) (lc_bnd (fR_addName r38 0 0 (lcUI z53 q62 4 (lcI z53 q66 3))) (fun r80 z80 => lc_bnd (fR_readType lc_FT 0 z80) (fun r85 z85 => if r85 = 0 then (fR_reads_111 z85) else (lc_bnd (fR_readExpression lc_FE 0 z85) (fun r93 z93 => if r93 = (-1) then (fR_reads_111 z93) else (lc_bnd (fR_nextSign z93) (fun r101 z101 => if r101 = 0 then (some (1, z101)) else (fR_reads_111 z101)))))))))))))))))))
set_option maxHeartbeats 4000000 in
set_option maxRecDepth 100000 in
theorem bR_reads_59 {p : Program} {l : Launch} {e : Env} {s : State} {m : MethodId} {args : Array Value} {below : List Frame} {meth : Method} {c : Code} {G : lc_G} (hx : p.tables.exec = Jvm.exec) (hb : c.code = prog_6_method_3_code) (hml : c.maxLocals = 5) (hr : meth.sig.returnType = (some .boolean)) (hlocks : meth.locks = false) (hown : s.vm.findClass "LinearCells$Reader" = some m.cls) (hts : ∀ w ∈ lc_ALL, w.before args s = true) (hE : lc_E G s) {r : Int32} {z' : lc_S} : ∀ {z : lc_S} {H : Heap} {locs : List Loc} {ls : Array Slot}, fR_reads_59 z = some (r, z') → lv_has ls 5 [] → lc_H G z s.heap H locs → W p l e (lc_rm 77) s m args below meth c H locs 0 0 (MQ below (lc_Q G (some (.int r)) z') args s 0 0 (lc_A G)) (F0 m 59 ls []) := by
  intro z H locs ls hf hl hH
  rw [fR_reads_59] at hf
  refine lv_iconst (v := 0) hx hb dR_reads_59 (by decide) ?_
  exact lc_zret hx hb hr hlocks (by decide) hH hf dR_reads_60
set_option maxHeartbeats 4000000 in
set_option maxRecDepth 100000 in
theorem bR_reads_111 {p : Program} {l : Launch} {e : Env} {s : State} {m : MethodId} {args : Array Value} {below : List Frame} {meth : Method} {c : Code} {G : lc_G} (hx : p.tables.exec = Jvm.exec) (hb : c.code = prog_6_method_3_code) (hml : c.maxLocals = 5) (hr : meth.sig.returnType = (some .boolean)) (hlocks : meth.locks = false) (hown : s.vm.findClass "LinearCells$Reader" = some m.cls) (hts : ∀ w ∈ lc_ALL, w.before args s = true) (hE : lc_E G s) {r : Int32} {z' : lc_S} : ∀ {z : lc_S} {H : Heap} {locs : List Loc} {ls : Array Slot}, fR_reads_111 z = some (r, z') → lv_has ls 5 [] → lc_H G z s.heap H locs → W p l e (lc_rm 77) s m args below meth c H locs 0 0 (MQ below (lc_Q G (some (.int r)) z') args s 0 0 (lc_A G)) (F0 m 111 ls []) := by
  intro z H locs ls hf hl hH
  rw [fR_reads_111] at hf
  refine lv_iconst (v := 0) hx hb dR_reads_111 (by decide) ?_
  exact lc_zret hx hb hr hlocks (by decide) hH hf dR_reads_112
set_option maxHeartbeats 4000000 in
set_option maxRecDepth 100000 in
theorem cR_reads (l : Launch) (G : lc_G) {a1 : Nat} {a2 : Int32} {a3 : Nat} {r : Int32} {z z' : lc_S} (hf : fR_reads a1 a2 a3 z = some (r, z')) : lc_M l G yR_reads wR_reads 77 [.ref (lc_ad G 4), .ref (lc_ad G a1), .int a2, .ref (lc_ad G a3)] z (some (.int r)) z' := by
  refine lc_M_of (cc := prog_6_method_3_code) (maxL := 5) (ret := (some .boolean)) (own := "LinearCells$Reader") (by decide) rfl (fun w h => List.mem_cons_of_mem _ h) (Nat.le_of_ble_eq_true rfl) rfl ?_
  intro p e s m below meth c hx hb hml hr hlocks hown hts hE ls hl hH
  replace hl : lv_has ls 5 [(0, .ref (lc_ad G 4)), (1, .ref (lc_ad G a1)), (2, .int a2), (3, .ref (lc_ad G a3))] := hl
  rw [fR_reads] at hf
  refine lv_aload_n hx hb dR_reads_0 rfl (lv_at hl 0 rfl) ?_
  refine lv_aload_n hx hb dR_reads_1 rfl (lv_at hl 1 rfl) ?_
  refine lc_putr hx hb hts hown hE hH fpR_27 lc_h4 rfl (fun _ => rfl) (fun _ => rfl) dR_reads_2 (fun H locs hH => ?_)
  refine lv_aload_n hx hb dR_reads_5 rfl (lv_at hl 0 rfl) ?_
  refine lv_iload_n hx hb dR_reads_6 rfl (lv_at hl 2 rfl) ?_
  refine lc_puti hx hb hts hown hE hH fpR_31 lc_h4 rfl rfl rfl dR_reads_7 (fun H locs hH => ?_)
  refine lv_aload_n hx hb dR_reads_10 rfl (lv_at hl 0 rfl) ?_
  refine lv_iconst (v := 0) hx hb dR_reads_11 (by decide) ?_
  refine lc_puti hx hb hts hown hE hH fpR_35 lc_h4 rfl rfl rfl dR_reads_12 (fun H locs hH => ?_)
  refine lv_aload_n hx hb dR_reads_15 rfl (lv_at hl 0 rfl) ?_
  refine lv_aload_n hx hb dR_reads_16 rfl (lv_at hl 3 rfl) ?_
  refine lc_putr hx hb hts hown hE hH fpR_38 lc_h4 rfl (fun _ => rfl) (fun _ => rfl) dR_reads_17 (fun H locs hH => ?_)
  refine lv_aload_n hx hb dR_reads_20 rfl (lv_at hl 0 rfl) ?_
  obtain ⟨q21, hq21, hf⟩ := lc_bnr_some hf
  refine lc_getr hx hb hts hown hE hH flR_38 lc_h4 rfl hq21 dR_reads_21 ?_
  obtain ⟨hs24_0, hf⟩ := lc_chk_some hf
  obtain ⟨r24, z24, h24, hf⟩ := lc_bnd_some hf
  refine lc_callv (va_runV (As := []) (rest := []) ⟨hx, hb, hml, hown, hts⟩ (cP_clear l G h24) (lc_cwV hts kvR_42 (lc_room (by decide) (by decide))) (lc_preV hE hH hs24_0 rfl _) rfl rfl hl.1 rfl (lv_room (Nat.le_of_ble_eq_true rfl)) dR_reads_24 ⟨Nat.zero_le _, Nat.zero_le _⟩) hH (fun H locs hH => ?_)
  refine lv_aload_n hx hb dR_reads_27 rfl (lv_at hl 0 rfl) ?_
  refine lv_iconst (v := 0) hx hb dR_reads_28 (by decide) ?_
  refine lc_puti hx hb hts hown hE hH fpR_23 lc_h4 rfl (by decide) (by decide) dR_reads_29 (fun H locs hH => ?_)
  refine lv_aload_n hx hb dR_reads_32 rfl (lv_at hl 0 rfl) ?_
  refine lv_iconst (v := 0) hx hb dR_reads_33 (by decide) ?_
  refine lc_puti hx hb hts hown hE hH fpR_45 lc_h4 rfl rfl rfl dR_reads_34 (fun H locs hH => ?_)
  refine lv_aload_n hx hb dR_reads_37 rfl (lv_at hl 0 rfl) ?_
  obtain ⟨r38, z38, h38, hf⟩ := lc_bnd_some hf
  refine lc_calli (va_runV (As := []) (rest := []) ⟨hx, hb, hml, hown, hts⟩ (cR_nextSign l G h38) (lc_cwV hts kvR_48 (lc_room (by decide) (by decide))) (lc_preV hE hH lc_h4 rfl _) rfl rfl hl.1 rfl (lv_room (Nat.le_of_ble_eq_true rfl)) dR_reads_38 ⟨Nat.zero_le _, Nat.zero_le _⟩) hH (fun H locs hH => ?_)
  refine lv_istore hx hb dR_reads_41 hl (by decide) rfl (fun ls hl => ?_)
  replace hl : lv_has ls 5 [(4, .int r38), (0, .ref (lc_ad G 4)), (1, .ref (lc_ad G a1)), (2, .int a2), (3, .ref (lc_ad G a3))] := hl
  refine lv_iload hx hb dR_reads_43 (lv_at hl 0 rfl) ?_
  obtain ⟨r45, z45, h45, hf⟩ := lc_bnd_some hf
  refine lc_calli (va_runS (As := [.int r38]) (rest := []) ⟨hx, hb, hml, hown, hts⟩ (cR_isLetter l G h45) (lc_cwS hts ksR_52 (lc_room (by decide) (by decide))) (lc_preS hE hH _) rfl rfl hl.1 rfl (lv_room (Nat.le_of_ble_eq_true rfl)) dR_reads_45 ⟨Nat.zero_le _, Nat.zero_le _⟩) hH (fun H locs hH => ?_)
  refine lv_if_eq (tgt := 59) hx hb dR_reads_48 (by decide) (fun hc => ?_) (fun hc => ?_)
  · replace hf := lc_ite_pos hc hf
    exact bR_reads_59 hx hb hml hr hlocks hown hts hE hf (lv_sub hl [] rfl) hH
  · replace hf := lc_ite_neg hc hf
    refine lv_aload_n hx hb dR_reads_51 rfl (lv_at hl 1 rfl) ?_
    refine lv_iconst (v := 0) hx hb dR_reads_52 (by decide) ?_
    obtain ⟨r53, z53, h53, hf⟩ := lc_bnd_some hf
    refine lc_calli (va_runV (As := [.int 0]) (rest := []) ⟨hx, hb, hml, hown, hts⟩ (cR_readType _ h53) (lc_cwV hts kvR_56 (lc_room (by decide) (by decide))) (lc_preV hE hH lc_h4 rfl _) rfl rfl hl.1 rfl (lv_room (Nat.le_of_ble_eq_true rfl)) dR_reads_53 ⟨Nat.zero_le _, Nat.zero_le _⟩) hH (fun H locs hH => ?_)
    refine lv_if_ne (tgt := 61) hx hb dR_reads_56 (by decide) (fun hc => ?_) (fun hc => ?_)
    · replace hf := lc_ite_neg hc hf
      refine lv_aload_n hx hb dR_reads_61 rfl (lv_at hl 1 rfl) ?_
      obtain ⟨q62, hq62, hf⟩ := lc_bnr_some hf
      refine lc_getr hx hb hts hown hE hH flR_38 lc_h4 rfl hq62 dR_reads_62 ?_
      refine lv_aload_n hx hb dR_reads_65 rfl (lv_at hl 1 rfl) ?_
      obtain ⟨q66, hq66, hf⟩ := lc_bnr_some hf
      refine lc_getr hx hb hts hown hE hH flR_38 lc_h4 rfl hq66 dR_reads_66 ?_
      obtain ⟨hs69_0, hf⟩ := lc_chk_some hf
      refine lc_geti hx hb hts hown hE hH flR_59 hs69_0 rfl dR_reads_69 ?_
      obtain ⟨hs72_0, hf⟩ := lc_chk_some hf
      refine lc_puti hx hb hts hown hE hH fpR_62 hs72_0 rfl rfl rfl dR_reads_72 (fun H locs hH => ?_)
      refine lv_aload_n hx hb dR_reads_75 rfl (lv_at hl 1 rfl) ?_
      refine lv_iload hx hb dR_reads_76 (lv_at hl 0 rfl) ?_
      refine lv_iconst (v := 0) hx hb dR_reads_78 (by decide) ?_
      refine lv_iconst (v := 0) hx hb dR_reads_79 (by decide) ?_
      obtain ⟨r80, z80, h80, hf⟩ := lc_bnd_some hf
      refine lc_callv (va_runV (As := [.int r38, .int 0, .int 0]) (rest := []) ⟨hx, hb, hml, hown, hts⟩ (cR_addName l G h80) (lc_cwV hts kvR_65 (lc_room (by decide) (by decide))) (lc_preV hE hH lc_h4 rfl _) rfl rfl hl.1 rfl (lv_room (Nat.le_of_ble_eq_true rfl)) dR_reads_80 ⟨Nat.zero_le _, Nat.zero_le _⟩) hH (fun H locs hH => ?_)
      refine lv_aload_n hx hb dR_reads_83 rfl (lv_at hl 1 rfl) ?_
      refine lv_iconst (v := 0) hx hb dR_reads_84 (by decide) ?_
      obtain ⟨r85, z85, h85, hf⟩ := lc_bnd_some hf
      refine lc_calli (va_runV (As := [.int 0]) (rest := []) ⟨hx, hb, hml, hown, hts⟩ (cR_readType _ h85) (lc_cwV hts kvR_56 (lc_room (by decide) (by decide))) (lc_preV hE hH lc_h4 rfl _) rfl rfl hl.1 rfl (lv_room (Nat.le_of_ble_eq_true rfl)) dR_reads_85 ⟨Nat.zero_le _, Nat.zero_le _⟩) hH (fun H locs hH => ?_)
      refine lv_if_eq (tgt := 111) hx hb dR_reads_88 (by decide) (fun hc => ?_) (fun hc => ?_)
      · replace hf := lc_ite_pos hc hf
        exact bR_reads_111 hx hb hml hr hlocks hown hts hE hf (lv_sub hl [] rfl) hH
      · replace hf := lc_ite_neg hc hf
        refine lv_aload_n hx hb dR_reads_91 rfl (lv_at hl 1 rfl) ?_
        refine lv_iconst (v := 0) hx hb dR_reads_92 (by decide) ?_
        obtain ⟨r93, z93, h93, hf⟩ := lc_bnd_some hf
        refine lc_calli (va_runV (As := [.int 0]) (rest := []) ⟨hx, hb, hml, hown, hts⟩ (cR_readExpression _ h93) (lc_cwV hts kvR_69 (lc_room (by decide) (by decide))) (lc_preV hE hH lc_h4 rfl _) rfl rfl hl.1 rfl (lv_room (Nat.le_of_ble_eq_true rfl)) dR_reads_93 ⟨Nat.zero_le _, Nat.zero_le _⟩) hH (fun H locs hH => ?_)
        refine lv_iconst (v := (-1)) hx hb dR_reads_96 (by decide) ?_
        refine lv_icmp_eq (tgt := 111) hx hb dR_reads_97 (by decide) (fun hc => ?_) (fun hc => ?_)
        · replace hf := lc_ite_pos hc hf
          exact bR_reads_111 hx hb hml hr hlocks hown hts hE hf (lv_sub hl [] rfl) hH
        · replace hf := lc_ite_neg hc hf
          refine lv_aload_n hx hb dR_reads_100 rfl (lv_at hl 1 rfl) ?_
          obtain ⟨r101, z101, h101, hf⟩ := lc_bnd_some hf
          refine lc_calli (va_runV (As := []) (rest := []) ⟨hx, hb, hml, hown, hts⟩ (cR_nextSign l G h101) (lc_cwV hts kvR_48 (lc_room (by decide) (by decide))) (lc_preV hE hH lc_h4 rfl _) rfl rfl hl.1 rfl (lv_room (Nat.le_of_ble_eq_true rfl)) dR_reads_101 ⟨Nat.zero_le _, Nat.zero_le _⟩) hH (fun H locs hH => ?_)
          refine lv_if_ne (tgt := 111) hx hb dR_reads_104 (by decide) (fun hc => ?_) (fun hc => ?_)
          · replace hf := lc_ite_neg hc hf
            exact bR_reads_111 hx hb hml hr hlocks hown hts hE hf (lv_sub hl [] rfl) hH
          · replace hf := lc_ite_pos hc hf
            refine lv_iconst (v := 1) hx hb dR_reads_107 (by decide) ?_
            refine lv_goto (tgt := 112) hx hb dR_reads_108 (by decide) ?_
            exact lc_zret hx hb hr hlocks (by decide) hH hf dR_reads_112
    · replace hf := lc_ite_pos hc hf
      exact bR_reads_59 hx hb hml hr hlocks hown hts hE hf (lv_sub hl [] rfl) hH
theorem dR_metUnboundVariable_0 : decode prog_6_method_2_code 0 = .ok (.aload_n 0, 1) := by decide +kernel
theorem dR_metUnboundVariable_1 : decode prog_6_method_2_code 1 = .ok (.getfield 23, 3) := by decide +kernel
theorem dR_metUnboundVariable_4 : decode prog_6_method_2_code 4 = .ok (.ireturn, 1) := by decide +kernel
def fR_metUnboundVariable (z : lc_S) : Option ((Int32) × lc_S) :=
  lc_chk (lc_zok (lcI z 4 4)) (some (lcI z 4 4, z))
set_option maxHeartbeats 4000000 in
set_option maxRecDepth 100000 in
theorem cR_metUnboundVariable (l : Launch) (G : lc_G) {r : Int32} {z z' : lc_S} (hf : fR_metUnboundVariable z = some (r, z')) : lc_M l G yR_metUnboundVariable wR_metUnboundVariable 0 [.ref (lc_ad G 4)] z (some (.int r)) z' := by
  refine lc_M_of (cc := prog_6_method_2_code) (maxL := 1) (ret := (some .boolean)) (own := "LinearCells$Reader") (by decide) rfl (fun w h => List.mem_cons_of_mem _ h) (Nat.le_of_ble_eq_true rfl) rfl ?_
  intro p e s m below meth c hx hb hml hr hlocks hown hts hE ls hl hH
  replace hl : lv_has ls 1 [(0, .ref (lc_ad G 4))] := hl
  rw [fR_metUnboundVariable] at hf
  refine lv_aload_n hx hb dR_metUnboundVariable_0 rfl (lv_at hl 0 rfl) ?_
  refine lc_geti hx hb hts hown hE hH flR_23 lc_h4 rfl dR_metUnboundVariable_1 ?_
  obtain ⟨hz4, hf⟩ := lc_chk_some hf
  exact lc_zret hx hb hr hlocks (lc_zn hz4) hH hf dR_metUnboundVariable_4
theorem dA_define_0 : decode prog_1_method_3_code 0 = .ok (.aload_n 0, 1) := by decide +kernel
theorem dA_define_1 : decode prog_1_method_3_code 1 = .ok (.getfield 49, 3) := by decide +kernel
theorem dA_define_4 : decode prog_1_method_3_code 4 = .ok (.istore_n 2, 1) := by decide +kernel
theorem dA_define_5 : decode prog_1_method_3_code 5 = .ok (.aload_n 0, 1) := by decide +kernel
theorem dA_define_6 : decode prog_1_method_3_code 6 = .ok (.iconst 0, 1) := by decide +kernel
theorem dA_define_7 : decode prog_1_method_3_code 7 = .ok (.putfield 49, 3) := by decide +kernel
theorem dA_define_10 : decode prog_1_method_3_code 10 = .ok (.iload_n 1, 1) := by decide +kernel
theorem dA_define_11 : decode prog_1_method_3_code 11 = .ok (.invokestatic 57, 3) := by decide +kernel
theorem dA_define_14 : decode prog_1_method_3_code 14 = .ok (.ifCond .eq 22, 3) := by decide +kernel
theorem dA_define_17 : decode prog_1_method_3_code 17 = .ok (.aload_n 0, 1) := by decide +kernel
theorem dA_define_18 : decode prog_1_method_3_code 18 = .ok (.getfield 27, 3) := by decide +kernel
theorem dA_define_21 : decode prog_1_method_3_code 21 = .ok (.aload_n 0, 1) := by decide +kernel
theorem dA_define_22 : decode prog_1_method_3_code 22 = .ok (.getfield 9, 3) := by decide +kernel
theorem dA_define_25 : decode prog_1_method_3_code 25 = .ok (.iload_n 2, 1) := by decide +kernel
theorem dA_define_26 : decode prog_1_method_3_code 26 = .ok (.aload_n 0, 1) := by decide +kernel
theorem dA_define_27 : decode prog_1_method_3_code 27 = .ok (.getfield 20, 3) := by decide +kernel
theorem dA_define_30 : decode prog_1_method_3_code 30 = .ok (.invokevirtual 61, 3) := by decide +kernel
theorem dA_define_33 : decode prog_1_method_3_code 33 = .ok (.ifCond .ne 11, 3) := by decide +kernel
theorem dA_define_36 : decode prog_1_method_3_code 36 = .ok (.new 65, 3) := by decide +kernel
theorem dA_define_39 : decode prog_1_method_3_code 39 = .ok (.dup, 1) := by decide +kernel
theorem dA_define_40 : decode prog_1_method_3_code 40 = .ok (.invokespecial 67, 3) := by decide +kernel
theorem dA_define_43 : decode prog_1_method_3_code 43 = .ok (.athrow, 1) := by decide +kernel
theorem dA_define_44 : decode prog_1_method_3_code 44 = .ok (.aload_n 0, 1) := by decide +kernel
theorem dA_define_45 : decode prog_1_method_3_code 45 = .ok (.getfield 27, 3) := by decide +kernel
theorem dA_define_48 : decode prog_1_method_3_code 48 = .ok (.invokevirtual 68, 3) := by decide +kernel
theorem dA_define_51 : decode prog_1_method_3_code 51 = .ok (.ifCond .eq 11, 3) := by decide +kernel
theorem dA_define_54 : decode prog_1_method_3_code 54 = .ok (.new 72, 3) := by decide +kernel
theorem dA_define_57 : decode prog_1_method_3_code 57 = .ok (.dup, 1) := by decide +kernel
theorem dA_define_58 : decode prog_1_method_3_code 58 = .ok (.invokespecial 74, 3) := by decide +kernel
theorem dA_define_61 : decode prog_1_method_3_code 61 = .ok (.athrow, 1) := by decide +kernel
theorem dA_define_62 : decode prog_1_method_3_code 62 = .ok (.aload_n 0, 1) := by decide +kernel
theorem dA_define_63 : decode prog_1_method_3_code 63 = .ok (.getfield 15, 3) := by decide +kernel
theorem dA_define_66 : decode prog_1_method_3_code 66 = .ok (.iload_n 1, 1) := by decide +kernel
theorem dA_define_67 : decode prog_1_method_3_code 67 = .ok (.aaload, 1) := by decide +kernel
theorem dA_define_68 : decode prog_1_method_3_code 68 = .ok (.astore_n 3, 1) := by decide +kernel
theorem dA_define_69 : decode prog_1_method_3_code 69 = .ok (.aload_n 0, 1) := by decide +kernel
theorem dA_define_70 : decode prog_1_method_3_code 70 = .ok (.getfield 15, 3) := by decide +kernel
theorem dA_define_73 : decode prog_1_method_3_code 73 = .ok (.iload_n 1, 1) := by decide +kernel
theorem dA_define_74 : decode prog_1_method_3_code 74 = .ok (.aload_n 0, 1) := by decide +kernel
theorem dA_define_75 : decode prog_1_method_3_code 75 = .ok (.getfield 20, 3) := by decide +kernel
theorem dA_define_78 : decode prog_1_method_3_code 78 = .ok (.aastore, 1) := by decide +kernel
theorem dA_define_79 : decode prog_1_method_3_code 79 = .ok (.aload_n 0, 1) := by decide +kernel
theorem dA_define_80 : decode prog_1_method_3_code 80 = .ok (.aload_n 3, 1) := by decide +kernel
theorem dA_define_81 : decode prog_1_method_3_code 81 = .ok (.putfield 20, 3) := by decide +kernel
theorem dA_define_84 : decode prog_1_method_3_code 84 = .ok (.aload_n 0, 1) := by decide +kernel
theorem dA_define_85 : decode prog_1_method_3_code 85 = .ok (.getfield 15, 3) := by decide +kernel
theorem dA_define_88 : decode prog_1_method_3_code 88 = .ok (.iload_n 1, 1) := by decide +kernel
theorem dA_define_89 : decode prog_1_method_3_code 89 = .ok (.aaload, 1) := by decide +kernel
theorem dA_define_90 : decode prog_1_method_3_code 90 = .ok (.iconst 1, 1) := by decide +kernel
theorem dA_define_91 : decode prog_1_method_3_code 91 = .ok (.putfield 75, 3) := by decide +kernel
theorem dA_define_94 : decode prog_1_method_3_code 94 = .ok (.aload_n 0, 1) := by decide +kernel
theorem dA_define_95 : decode prog_1_method_3_code 95 = .ok (.getfield 15, 3) := by decide +kernel
theorem dA_define_98 : decode prog_1_method_3_code 98 = .ok (.iload_n 1, 1) := by decide +kernel
theorem dA_define_99 : decode prog_1_method_3_code 99 = .ok (.aaload, 1) := by decide +kernel
theorem dA_define_100 : decode prog_1_method_3_code 100 = .ok (.getfield 79, 3) := by decide +kernel
theorem dA_define_103 : decode prog_1_method_3_code 103 = .ok (.ireturn, 1) := by decide +kernel
def fA_define_36 (z : lc_S) : Option ((Nat × Int32) × lc_S) :=
  some ((1, 0), z)
def fA_define (a1 : Int32) (z : lc_S) : Option ((Nat × Int32) × lc_S) :=
  lc_let (lcI z 1 1) (fun x4 => lc_bnd (fA_isProcedureNumber a1 (lcUI z 1 1 0)) (fun r11 z11 => if r11 = 0 then (fA_define_36 z11) else (lc_bnr (lcR z11 1 3) (fun q27 => lc_bnd (fR_reads 2 x4 q27 z11) (fun r30 z30 => if r30 = 0 then (fA_define_36 z30) else (lc_bnd (fR_metUnboundVariable z30) (fun r48 z48 => if r48 = 0 then (lc_chk (lc_in a1 4) (lc_bnr (lcR z48 3 a1.toNatClampNeg) (fun q67 => lc_bnr (lcR z48 1 3) (fun q75 => lc_chk (lc_in a1 4) (lc_chk (lc_sh q75 = (0, 1, 0)) (lc_chk (lc_in a1 4) (lc_bnr (lcR (lcUR (lcUR z48 3 a1.toNatClampNeg (some q75)) 1 3 (some q67)) 3 a1.toNatClampNeg) (fun q89 => lc_chk (lc_sh q89 = (0, 1, 0)) (lc_chk (lc_in a1 4) (lc_bnr (lcR (lcUI (lcUR (lcUR z48 3 a1.toNatClampNeg (some q75)) 1 3 (some q67)) q89 0 1) 3 a1.toNatClampNeg) (fun q99 => lc_chk (lc_sh q99 = (0, 1, 0)) (some ((0, lcI (lcUI (lcUR (lcUR z48 3 a1.toNatClampNeg (some q75)) 1 3 (some q67)) q89 0 1) q99 11), lcUI (lcUR (lcUR z48 3 a1.toNatClampNeg (some q75)) 1 3 (some q67)) q89 0 1))))))))))))) else (some ((2, 0), z48)))))))))
set_option maxHeartbeats 4000000 in
set_option maxRecDepth 100000 in
theorem bA_define_36 {p : Program} {l : Launch} {e : Env} {s : State} {m : MethodId} {args : Array Value} {below : List Frame} {meth : Method} {c : Code} {G : lc_G} (hx : p.tables.exec = Jvm.exec) (hb : c.code = prog_1_method_3_code) (hml : c.maxLocals = 4) (hr : meth.sig.returnType = (some .int)) (hlocks : meth.locks = false) (hown : s.vm.findClass "LinearCells" = some m.cls) (hts : ∀ w ∈ lc_ALL, w.before args s = true) (hE : lc_E G s) (hno : ∀ q : Nat, ∀ x ∈ c.exceptionTable.toList, covers x q = false) (hT : lc_T G s) (hz : G.2.2.2.2 ≤ s.heap.size) (htr : l.stackTraces = false) {r : Nat × Int32} {z' : lc_S} : ∀ {z : lc_S} {H : Heap} {locs : List Loc} {ls : Array Slot}, fA_define_36 z = some (r, z') → lv_has ls 4 [] → lc_H G z s.heap H locs → W p l e (lc_rmT 78) s m args below meth c H locs 0 0 (lc_MQT below G r z' args s) (F0 m 36 ls []) := by
  intro z H locs ls hf hl hH
  rw [fA_define_36] at hf
  exact lc_throw (k := 1) hx hb (hml.trans hl.1.symm) hlocks hown hts hno hT hz htr (by decide) (by decide +kernel) (lc_xat1_67 hts hT) lc_xn1_67_65 lc_xi1 lc_xj1 (by decide) hH hf dA_define_36 dA_define_39 dA_define_40 dA_define_43 (Nat.le_of_ble_eq_true rfl)
set_option maxHeartbeats 4000000 in
set_option maxRecDepth 100000 in
theorem cA_define (l : Launch) (G : lc_G) (htr : l.stackTraces = false) {a1 : Int32} {r : Nat × Int32} {z z' : lc_S} (hf : fA_define a1 z = some (r, z')) : lc_MT l G yA_define wA_define 78 [.ref (lc_ad G 1), .int a1] z r z' := by
  refine lc_MT_of (cc := prog_1_method_3_code) (maxL := 4) (ret := (some .int)) (own := "LinearCells") (by decide) rfl (fun w h => List.mem_cons_of_mem _ h) (Nat.le_of_ble_eq_true rfl) rfl ?_
  intro p e s m below meth c hx hb hml hr hlocks hown hts hE hno hT hz ls hl hH
  replace hl : lv_has ls 4 [(0, .ref (lc_ad G 1)), (1, .int a1)] := hl
  rw [fA_define] at hf
  refine lv_aload_n hx hb dA_define_0 rfl (lv_at hl 0 rfl) ?_
  refine lc_geti hx hb hts hown hE hH flA_49 lc_h1 rfl dA_define_1 ?_
  refine lv_topi (fun x4 e4 => ?_)
  replace hf := lc_let_of e4 hf
  refine lv_istore_n hx hb dA_define_4 rfl hl (by decide) rfl (fun ls hl => ?_)
  replace hl : lv_has ls 4 [(2, .int x4), (0, .ref (lc_ad G 1)), (1, .int a1)] := hl
  refine lv_aload_n hx hb dA_define_5 rfl (lv_at hl 1 rfl) ?_
  refine lv_iconst (v := 0) hx hb dA_define_6 (by decide) ?_
  refine lc_puti hx hb hts hown hE hH fpA_49 lc_h1 rfl rfl rfl dA_define_7 (fun H locs hH => ?_)
  refine lv_iload_n hx hb dA_define_10 rfl (lv_at hl 2 rfl) ?_
  obtain ⟨r11, z11, h11, hf⟩ := lc_bnd_some hf
  refine lc_calli (va_runS (As := [.int a1]) (rest := []) ⟨hx, hb, hml, hown, hts⟩ (cA_isProcedureNumber l G h11) (lc_cwS hts ksA_57 (lc_roomT (by decide) (by decide))) (lc_preS hE hH _) rfl rfl hl.1 rfl (lv_room (Nat.le_of_ble_eq_true rfl)) dA_define_11 ⟨Nat.zero_le _, Nat.zero_le _⟩) hH (fun H locs hH => ?_)
  refine lv_if_eq (tgt := 36) hx hb dA_define_14 (by decide) (fun hc => ?_) (fun hc => ?_)
  · replace hf := lc_ite_pos hc hf
    exact bA_define_36 hx hb hml hr hlocks hown hts hE hno hT hz htr hf (lv_sub hl [] rfl) hH
  · replace hf := lc_ite_neg hc hf
    refine lv_aload_n hx hb dA_define_17 rfl (lv_at hl 1 rfl) ?_
    refine lc_getf (d := 3) (q := 4) hx hb hts hown hE hH flA_27 lc_h1 rfl rfl dA_define_18 ?_
    refine lv_aload_n hx hb dA_define_21 rfl (lv_at hl 1 rfl) ?_
    refine lc_getf (d := 1) (q := 2) hx hb hts hown hE hH flA_9 lc_h1 rfl rfl dA_define_22 ?_
    refine lv_iload_n hx hb dA_define_25 rfl (lv_at hl 0 rfl) ?_
    refine lv_aload_n hx hb dA_define_26 rfl (lv_at hl 1 rfl) ?_
    obtain ⟨q27, hq27, hf⟩ := lc_bnr_some hf
    refine lc_getr hx hb hts hown hE hH flA_20 lc_h1 rfl hq27 dA_define_27 ?_
    obtain ⟨r30, z30, h30, hf⟩ := lc_bnd_some hf
    refine lc_calli (va_runV (As := [.ref (lc_ad G 2), .int x4, .ref (lc_ad G q27)]) (rest := []) ⟨hx, hb, hml, hown, hts⟩ (cR_reads l G h30) (lc_cwV hts kvA_61 (lc_roomT (by decide) (by decide))) (lc_preV hE hH lc_h4 rfl _) rfl rfl hl.1 rfl (lv_room (Nat.le_of_ble_eq_true rfl)) dA_define_30 ⟨Nat.zero_le _, Nat.zero_le _⟩) hH (fun H locs hH => ?_)
    refine lv_if_ne (tgt := 44) hx hb dA_define_33 (by decide) (fun hc => ?_) (fun hc => ?_)
    · replace hf := lc_ite_neg hc hf
      refine lv_aload_n hx hb dA_define_44 rfl (lv_at hl 1 rfl) ?_
      refine lc_getf (d := 3) (q := 4) hx hb hts hown hE hH flA_27 lc_h1 rfl rfl dA_define_45 ?_
      obtain ⟨r48, z48, h48, hf⟩ := lc_bnd_some hf
      refine lc_calli (va_runV (As := []) (rest := []) ⟨hx, hb, hml, hown, hts⟩ (cR_metUnboundVariable l G h48) (lc_cwV hts kvA_68 (lc_roomT (by decide) (by decide))) (lc_preV hE hH lc_h4 rfl _) rfl rfl hl.1 rfl (lv_room (Nat.le_of_ble_eq_true rfl)) dA_define_48 ⟨Nat.zero_le _, Nat.zero_le _⟩) hH (fun H locs hH => ?_)
      refine lv_if_eq (tgt := 62) hx hb dA_define_51 (by decide) (fun hc => ?_) (fun hc => ?_)
      · replace hf := lc_ite_pos hc hf
        refine lv_aload_n hx hb dA_define_62 rfl (lv_at hl 1 rfl) ?_
        refine lc_getf (d := 2) (q := 3) hx hb hts hown hE hH flA_15 lc_h1 rfl rfl dA_define_63 ?_
        refine lv_iload_n hx hb dA_define_66 rfl (lv_at hl 2 rfl) ?_
        obtain ⟨hi67, hf⟩ := lc_chk_some hf
        obtain ⟨q67, hq67, hf⟩ := lc_bnr_some hf
        refine lc_aald hx hb hE hH lc_h3 rfl hi67 hq67 dA_define_67 ?_
        refine lv_astore_n hx hb dA_define_68 rfl hl (by decide) rfl (fun ls hl => ?_)
        replace hl : lv_has ls 4 [(3, .ref (lc_ad G q67)), (2, .int x4), (0, .ref (lc_ad G 1)), (1, .int a1)] := hl
        refine lv_aload_n hx hb dA_define_69 rfl (lv_at hl 2 rfl) ?_
        refine lc_getf (d := 2) (q := 3) hx hb hts hown hE hH flA_15 lc_h1 rfl rfl dA_define_70 ?_
        refine lv_iload_n hx hb dA_define_73 rfl (lv_at hl 3 rfl) ?_
        refine lv_aload_n hx hb dA_define_74 rfl (lv_at hl 2 rfl) ?_
        obtain ⟨q75, hq75, hf⟩ := lc_bnr_some hf
        refine lc_getr hx hb hts hown hE hH flA_20 lc_h1 rfl hq75 dA_define_75 ?_
        obtain ⟨hi78, hf⟩ := lc_chk_some hf
        obtain ⟨hs78_1, hf⟩ := lc_chk_some hf
        refine lc_aast hx hb hE hH lc_h3 rfl hs78_1 rfl hi78 dA_define_78 (fun H locs hH => ?_)
        refine lv_aload_n hx hb dA_define_79 rfl (lv_at hl 2 rfl) ?_
        refine lv_aload_n hx hb dA_define_80 rfl (lv_at hl 0 rfl) ?_
        refine lc_putr hx hb hts hown hE hH fpA_20 lc_h1 rfl (fun _ => rfl) (fun _ => rfl) dA_define_81 (fun H locs hH => ?_)
        refine lv_aload_n hx hb dA_define_84 rfl (lv_at hl 2 rfl) ?_
        refine lc_getf (d := 2) (q := 3) hx hb hts hown hE hH flA_15 lc_h1 rfl rfl dA_define_85 ?_
        refine lv_iload_n hx hb dA_define_88 rfl (lv_at hl 3 rfl) ?_
        obtain ⟨hi89, hf⟩ := lc_chk_some hf
        obtain ⟨q89, hq89, hf⟩ := lc_bnr_some hf
        refine lc_aald hx hb hE hH lc_h3 rfl hi89 hq89 dA_define_89 ?_
        refine lv_iconst (v := 1) hx hb dA_define_90 (by decide) ?_
        obtain ⟨hs91_0, hf⟩ := lc_chk_some hf
        refine lc_puti hx hb hts hown hE hH fpA_75 hs91_0 rfl (by decide) (by decide) dA_define_91 (fun H locs hH => ?_)
        refine lv_aload_n hx hb dA_define_94 rfl (lv_at hl 2 rfl) ?_
        refine lc_getf (d := 2) (q := 3) hx hb hts hown hE hH flA_15 lc_h1 rfl rfl dA_define_95 ?_
        refine lv_iload_n hx hb dA_define_98 rfl (lv_at hl 3 rfl) ?_
        obtain ⟨hi99, hf⟩ := lc_chk_some hf
        obtain ⟨q99, hq99, hf⟩ := lc_bnr_some hf
        refine lc_aald hx hb hE hH lc_h3 rfl hi99 hq99 dA_define_99 ?_
        obtain ⟨hs100_0, hf⟩ := lc_chk_some hf
        refine lc_geti hx hb hts hown hE hH flA_79 hs100_0 rfl dA_define_100 ?_
        exact lc_iretT hx hb hr hlocks hH hf dA_define_103
      · replace hf := lc_ite_neg hc hf
        exact lc_throw (k := 2) hx hb (hml.trans hl.1.symm) hlocks hown hts hno hT hz htr (by decide) (by decide +kernel) (lc_xat2_74 hts hT) lc_xn2_74_72 lc_xi2 lc_xj2 (by decide) hH hf dA_define_54 dA_define_57 dA_define_58 dA_define_61 (Nat.le_of_ble_eq_true rfl)
    · replace hf := lc_ite_pos hc hf
      exact bA_define_36 hx hb hml hr hlocks hown hts hE hno hT hz htr hf (lv_sub hl [] rfl) hH
theorem dA_isThere_0 : decode prog_1_method_14_code 0 = .ok (.iload_n 1, 1) := by decide +kernel
theorem dA_isThere_1 : decode prog_1_method_14_code 1 = .ok (.invokestatic 57, 3) := by decide +kernel
theorem dA_isThere_4 : decode prog_1_method_14_code 4 = .ok (.ifCond .eq 19, 3) := by decide +kernel
theorem dA_isThere_7 : decode prog_1_method_14_code 7 = .ok (.aload_n 0, 1) := by decide +kernel
theorem dA_isThere_8 : decode prog_1_method_14_code 8 = .ok (.getfield 15, 3) := by decide +kernel
theorem dA_isThere_11 : decode prog_1_method_14_code 11 = .ok (.iload_n 1, 1) := by decide +kernel
theorem dA_isThere_12 : decode prog_1_method_14_code 12 = .ok (.aaload, 1) := by decide +kernel
theorem dA_isThere_13 : decode prog_1_method_14_code 13 = .ok (.getfield 75, 3) := by decide +kernel
theorem dA_isThere_16 : decode prog_1_method_14_code 16 = .ok (.ifCond .eq 7, 3) := by decide +kernel
theorem dA_isThere_19 : decode prog_1_method_14_code 19 = .ok (.iconst 1, 1) := by decide +kernel
theorem dA_isThere_20 : decode prog_1_method_14_code 20 = .ok (.goto 4, 3) := by decide +kernel
theorem dA_isThere_23 : decode prog_1_method_14_code 23 = .ok (.iconst 0, 1) := by decide +kernel
theorem dA_isThere_24 : decode prog_1_method_14_code 24 = .ok (.ireturn, 1) := by decide +kernel
def fA_isThere_23 (z : lc_S) : Option ((Int32) × lc_S) :=
  some (0, z)
def fA_isThere (a1 : Int32) (z : lc_S) : Option ((Int32) × lc_S) :=
  lc_bnd (fA_isProcedureNumber a1 z) (fun r1 z1 => if r1 = 0 then (fA_isThere_23 z1) else (lc_chk (lc_in a1 4) (lc_bnr (lcR z1 3 a1.toNatClampNeg) (fun q12 => lc_chk (lc_sh q12 = (0, 1, 0)) (if (lcI z1 q12 0) = 0 then (fA_isThere_23 z1) else (some (1, z1)))))))
set_option maxHeartbeats 4000000 in
set_option maxRecDepth 100000 in
theorem bA_isThere_23 {p : Program} {l : Launch} {e : Env} {s : State} {m : MethodId} {args : Array Value} {below : List Frame} {meth : Method} {c : Code} {G : lc_G} (hx : p.tables.exec = Jvm.exec) (hb : c.code = prog_1_method_14_code) (hml : c.maxLocals = 2) (hr : meth.sig.returnType = (some .boolean)) (hlocks : meth.locks = false) (hown : s.vm.findClass "LinearCells" = some m.cls) (hts : ∀ w ∈ lc_ALL, w.before args s = true) (hE : lc_E G s) {r : Int32} {z' : lc_S} : ∀ {z : lc_S} {H : Heap} {locs : List Loc} {ls : Array Slot}, fA_isThere_23 z = some (r, z') → lv_has ls 2 [] → lc_H G z s.heap H locs → W p l e (lc_rm 1) s m args below meth c H locs 0 0 (MQ below (lc_Q G (some (.int r)) z') args s 0 0 (lc_A G)) (F0 m 23 ls []) := by
  intro z H locs ls hf hl hH
  rw [fA_isThere_23] at hf
  refine lv_iconst (v := 0) hx hb dA_isThere_23 (by decide) ?_
  exact lc_zret hx hb hr hlocks (by decide) hH hf dA_isThere_24
set_option maxHeartbeats 4000000 in
set_option maxRecDepth 100000 in
theorem cA_isThere (l : Launch) (G : lc_G) {a1 : Int32} {r : Int32} {z z' : lc_S} (hf : fA_isThere a1 z = some (r, z')) : lc_M l G yA_isThere wA_isThere 1 [.ref (lc_ad G 1), .int a1] z (some (.int r)) z' := by
  refine lc_M_of (cc := prog_1_method_14_code) (maxL := 2) (ret := (some .boolean)) (own := "LinearCells") (by decide) rfl (fun w h => List.mem_cons_of_mem _ h) (Nat.le_of_ble_eq_true rfl) rfl ?_
  intro p e s m below meth c hx hb hml hr hlocks hown hts hE ls hl hH
  replace hl : lv_has ls 2 [(0, .ref (lc_ad G 1)), (1, .int a1)] := hl
  rw [fA_isThere] at hf
  refine lv_iload_n hx hb dA_isThere_0 rfl (lv_at hl 1 rfl) ?_
  obtain ⟨r1, z1, h1, hf⟩ := lc_bnd_some hf
  refine lc_calli (va_runS (As := [.int a1]) (rest := []) ⟨hx, hb, hml, hown, hts⟩ (cA_isProcedureNumber l G h1) (lc_cwS hts ksA_57 (lc_room (by decide) (by decide))) (lc_preS hE hH _) rfl rfl hl.1 rfl (lv_room (Nat.le_of_ble_eq_true rfl)) dA_isThere_1 ⟨Nat.zero_le _, Nat.zero_le _⟩) hH (fun H locs hH => ?_)
  refine lv_if_eq (tgt := 23) hx hb dA_isThere_4 (by decide) (fun hc => ?_) (fun hc => ?_)
  · replace hf := lc_ite_pos hc hf
    exact bA_isThere_23 hx hb hml hr hlocks hown hts hE hf (lv_sub hl [] rfl) hH
  · replace hf := lc_ite_neg hc hf
    refine lv_aload_n hx hb dA_isThere_7 rfl (lv_at hl 0 rfl) ?_
    refine lc_getf (d := 2) (q := 3) hx hb hts hown hE hH flA_15 lc_h1 rfl rfl dA_isThere_8 ?_
    refine lv_iload_n hx hb dA_isThere_11 rfl (lv_at hl 1 rfl) ?_
    obtain ⟨hi12, hf⟩ := lc_chk_some hf
    obtain ⟨q12, hq12, hf⟩ := lc_bnr_some hf
    refine lc_aald hx hb hE hH lc_h3 rfl hi12 hq12 dA_isThere_12 ?_
    obtain ⟨hs13_0, hf⟩ := lc_chk_some hf
    refine lc_geti hx hb hts hown hE hH flA_75 hs13_0 rfl dA_isThere_13 ?_
    refine lv_if_eq (tgt := 23) hx hb dA_isThere_16 (by decide) (fun hc => ?_) (fun hc => ?_)
    · replace hf := lc_ite_pos hc hf
      exact bA_isThere_23 hx hb hml hr hlocks hown hts hE hf (lv_sub hl [] rfl) hH
    · replace hf := lc_ite_neg hc hf
      refine lv_iconst (v := 1) hx hb dA_isThere_19 (by decide) ?_
      refine lv_goto (tgt := 24) hx hb dA_isThere_20 (by decide) ?_
      exact lc_zret hx hb hr hlocks (by decide) hH hf dA_isThere_24
theorem dA_hasBit_0 : decode prog_1_method_13_code 0 = .ok (.iload_n 0, 1) := by decide +kernel
theorem dA_hasBit_1 : decode prog_1_method_13_code 1 = .ok (.iload_n 1, 1) := by decide +kernel
theorem dA_hasBit_2 : decode prog_1_method_13_code 2 = .ok (.ishr, 1) := by decide +kernel
theorem dA_hasBit_3 : decode prog_1_method_13_code 3 = .ok (.iconst 1, 1) := by decide +kernel
theorem dA_hasBit_4 : decode prog_1_method_13_code 4 = .ok (.iand, 1) := by decide +kernel
theorem dA_hasBit_5 : decode prog_1_method_13_code 5 = .ok (.iconst 1, 1) := by decide +kernel
theorem dA_hasBit_6 : decode prog_1_method_13_code 6 = .ok (.if_icmp .ne 7, 3) := by decide +kernel
theorem dA_hasBit_9 : decode prog_1_method_13_code 9 = .ok (.iconst 1, 1) := by decide +kernel
theorem dA_hasBit_10 : decode prog_1_method_13_code 10 = .ok (.goto 4, 3) := by decide +kernel
theorem dA_hasBit_13 : decode prog_1_method_13_code 13 = .ok (.iconst 0, 1) := by decide +kernel
theorem dA_hasBit_14 : decode prog_1_method_13_code 14 = .ok (.ireturn, 1) := by decide +kernel
def fA_hasBit (a0 : Int32) (a1 : Int32) (z : lc_S) : Option ((Int32) × lc_S) :=
  if ((a0 >>> (a1 &&& 31)) &&& 1) = 1 then (some (1, z)) else (some (0, z))
set_option maxHeartbeats 4000000 in
set_option maxRecDepth 100000 in
theorem cA_hasBit (l : Launch) (G : lc_G) {a0 : Int32} {a1 : Int32} {r : Int32} {z z' : lc_S} (hf : fA_hasBit a0 a1 z = some (r, z')) : lc_M l G yA_hasBit wA_hasBit 0 [.int a0, .int a1] z (some (.int r)) z' := by
  refine lc_M_of (cc := prog_1_method_13_code) (maxL := 2) (ret := (some .boolean)) (own := "LinearCells") (by decide) rfl (fun w h => List.mem_cons_of_mem _ h) (Nat.le_of_ble_eq_true rfl) rfl ?_
  intro p e s m below meth c hx hb hml hr hlocks hown hts hE ls hl hH
  replace hl : lv_has ls 2 [(0, .int a0), (1, .int a1)] := hl
  rw [fA_hasBit] at hf
  refine lv_iload_n hx hb dA_hasBit_0 rfl (lv_at hl 0 rfl) ?_
  refine lv_iload_n hx hb dA_hasBit_1 rfl (lv_at hl 1 rfl) ?_
  refine lv_ishr hx hb dA_hasBit_2 ?_
  refine lv_iconst (v := 1) hx hb dA_hasBit_3 (by decide) ?_
  refine lv_iand hx hb dA_hasBit_4 ?_
  refine lv_iconst (v := 1) hx hb dA_hasBit_5 (by decide) ?_
  refine lv_icmp_ne (tgt := 13) hx hb dA_hasBit_6 (by decide) (fun hc => ?_) (fun hc => ?_)
  · replace hf := lc_ite_neg hc hf
    refine lv_iconst (v := 0) hx hb dA_hasBit_13 (by decide) ?_
    exact lc_zret hx hb hr hlocks (by decide) hH hf dA_hasBit_14
  · replace hf := lc_ite_pos hc hf
    refine lv_iconst (v := 1) hx hb dA_hasBit_9 (by decide) ?_
    refine lv_goto (tgt := 14) hx hb dA_hasBit_10 (by decide) ?_
    exact lc_zret hx hb hr hlocks (by decide) hH hf dA_hasBit_14
theorem dA_reachedFrom_0 : decode prog_1_method_15_code 0 = .ok (.iconst 1, 1) := by decide +kernel
theorem dA_reachedFrom_1 : decode prog_1_method_15_code 1 = .ok (.iload_n 1, 1) := by decide +kernel
theorem dA_reachedFrom_2 : decode prog_1_method_15_code 2 = .ok (.ishl, 1) := by decide +kernel
theorem dA_reachedFrom_3 : decode prog_1_method_15_code 3 = .ok (.istore_n 2, 1) := by decide +kernel
theorem dA_reachedFrom_4 : decode prog_1_method_15_code 4 = .ok (.iconst 0, 1) := by decide +kernel
theorem dA_reachedFrom_5 : decode prog_1_method_15_code 5 = .ok (.istore_n 3, 1) := by decide +kernel
theorem dA_reachedFrom_6 : decode prog_1_method_15_code 6 = .ok (.iload_n 3, 1) := by decide +kernel
theorem dA_reachedFrom_7 : decode prog_1_method_15_code 7 = .ok (.iconst 4, 1) := by decide +kernel
theorem dA_reachedFrom_8 : decode prog_1_method_15_code 8 = .ok (.if_icmp .ge 59, 3) := by decide +kernel
theorem dA_reachedFrom_11 : decode prog_1_method_15_code 11 = .ok (.iconst 0, 1) := by decide +kernel
theorem dA_reachedFrom_12 : decode prog_1_method_15_code 12 = .ok (.istore 4, 2) := by decide +kernel
theorem dA_reachedFrom_14 : decode prog_1_method_15_code 14 = .ok (.iload 4, 2) := by decide +kernel
theorem dA_reachedFrom_16 : decode prog_1_method_15_code 16 = .ok (.iconst 4, 1) := by decide +kernel
theorem dA_reachedFrom_17 : decode prog_1_method_15_code 17 = .ok (.if_icmp .ge 44, 3) := by decide +kernel
theorem dA_reachedFrom_20 : decode prog_1_method_15_code 20 = .ok (.iload_n 2, 1) := by decide +kernel
theorem dA_reachedFrom_21 : decode prog_1_method_15_code 21 = .ok (.iload 4, 2) := by decide +kernel
theorem dA_reachedFrom_23 : decode prog_1_method_15_code 23 = .ok (.invokestatic 89, 3) := by decide +kernel
theorem dA_reachedFrom_26 : decode prog_1_method_15_code 26 = .ok (.ifCond .eq 29, 3) := by decide +kernel
theorem dA_reachedFrom_29 : decode prog_1_method_15_code 29 = .ok (.aload_n 0, 1) := by decide +kernel
theorem dA_reachedFrom_30 : decode prog_1_method_15_code 30 = .ok (.getfield 15, 3) := by decide +kernel
theorem dA_reachedFrom_33 : decode prog_1_method_15_code 33 = .ok (.iload 4, 2) := by decide +kernel
theorem dA_reachedFrom_35 : decode prog_1_method_15_code 35 = .ok (.aaload, 1) := by decide +kernel
theorem dA_reachedFrom_36 : decode prog_1_method_15_code 36 = .ok (.getfield 75, 3) := by decide +kernel
theorem dA_reachedFrom_39 : decode prog_1_method_15_code 39 = .ok (.ifCond .eq 16, 3) := by decide +kernel
theorem dA_reachedFrom_42 : decode prog_1_method_15_code 42 = .ok (.iload_n 2, 1) := by decide +kernel
theorem dA_reachedFrom_43 : decode prog_1_method_15_code 43 = .ok (.aload_n 0, 1) := by decide +kernel
theorem dA_reachedFrom_44 : decode prog_1_method_15_code 44 = .ok (.getfield 15, 3) := by decide +kernel
theorem dA_reachedFrom_47 : decode prog_1_method_15_code 47 = .ok (.iload 4, 2) := by decide +kernel
theorem dA_reachedFrom_49 : decode prog_1_method_15_code 49 = .ok (.aaload, 1) := by decide +kernel
theorem dA_reachedFrom_50 : decode prog_1_method_15_code 50 = .ok (.getfield 154, 3) := by decide +kernel
theorem dA_reachedFrom_53 : decode prog_1_method_15_code 53 = .ok (.ior, 1) := by decide +kernel
theorem dA_reachedFrom_54 : decode prog_1_method_15_code 54 = .ok (.istore_n 2, 1) := by decide +kernel
theorem dA_reachedFrom_55 : decode prog_1_method_15_code 55 = .ok (.iinc 4 1, 3) := by decide +kernel
theorem dA_reachedFrom_58 : decode prog_1_method_15_code 58 = .ok (.goto (-44), 3) := by decide +kernel
theorem dA_reachedFrom_61 : decode prog_1_method_15_code 61 = .ok (.iinc 3 1, 3) := by decide +kernel
theorem dA_reachedFrom_64 : decode prog_1_method_15_code 64 = .ok (.goto (-58), 3) := by decide +kernel
theorem dA_reachedFrom_67 : decode prog_1_method_15_code 67 = .ok (.iload_n 2, 1) := by decide +kernel
theorem dA_reachedFrom_68 : decode prog_1_method_15_code 68 = .ok (.ireturn, 1) := by decide +kernel
def fA_reachedFrom_55 (k6 : Int32 → Int32 → lc_S → Option ((Int32) × lc_S)) (k14 : Int32 → Int32 → Int32 → lc_S → Option ((Int32) × lc_S)) (x2 : Int32) (x3 : Int32) (x4 : Int32) (z : lc_S) : Option ((Int32) × lc_S) :=
  lc_let (x4 + 1) (fun x55 => k14 x2 x3 x55 z)
def fA_reachedFrom_14 (k6 : Int32 → Int32 → lc_S → Option ((Int32) × lc_S)) : Nat → Int32 → Int32 → Int32 → lc_S → Option ((Int32) × lc_S)
  | 0, _, _, _, _ => none
  | n + 1, x2, x3, x4, z => if 4 ≤ x4 then (lc_let (x3 + 1) (fun x61 => k6 x2 x61 z)) else (lc_bnd (fA_hasBit x2 x4 z) (fun r23 z23 => if r23 = 0 then (fA_reachedFrom_55 k6 (fA_reachedFrom_14 k6 n) x2 x3 x4 z23) else (lc_chk (lc_in x4 4) (lc_bnr (lcR z23 3 x4.toNatClampNeg) (fun q35 => lc_chk (lc_sh q35 = (0, 1, 0)) (if (lcI z23 q35 0) = 0 then (fA_reachedFrom_55 k6 (fA_reachedFrom_14 k6 n) x2 x3 x4 z23) else (lc_chk (lc_in x4 4) (lc_bnr (lcR z23 3 x4.toNatClampNeg) (fun q49 => lc_chk (lc_sh q49 = (0, 1, 0)) (lc_let (x2 ||| (lcI z23 q49 1)) (fun x54 => fA_reachedFrom_55 k6 (fA_reachedFrom_14 k6 n) x54 x3 x4 z23)))))))))))
def fA_reachedFrom_6 : Nat → Int32 → Int32 → lc_S → Option ((Int32) × lc_S)
  | 0, _, _, _ => none
  | n + 1, x2, x3, z => if 4 ≤ x3 then (some (x2, z)) else (fA_reachedFrom_14 (fA_reachedFrom_6 n) lc_FU x2 x3 0 z)
def fA_reachedFrom (a1 : Int32) (z : lc_S) : Option ((Int32) × lc_S) :=
  lc_let (1 <<< (a1 &&& 31)) (fun x3 => fA_reachedFrom_6 lc_FU x3 0 z)
set_option maxHeartbeats 4000000 in
set_option maxRecDepth 100000 in
theorem bA_reachedFrom_55 {p : Program} {l : Launch} {e : Env} {s : State} {m : MethodId} {args : Array Value} {below : List Frame} {meth : Method} {c : Code} {G : lc_G} (hx : p.tables.exec = Jvm.exec) (hb : c.code = prog_1_method_15_code) (hml : c.maxLocals = 5) (hr : meth.sig.returnType = (some .int)) (hlocks : meth.locks = false) (hown : s.vm.findClass "LinearCells" = some m.cls) (hts : ∀ w ∈ lc_ALL, w.before args s = true) (hE : lc_E G s) {k6 : Int32 → Int32 → lc_S → Option ((Int32) × lc_S)} {k14 : Int32 → Int32 → Int32 → lc_S → Option ((Int32) × lc_S)} {r : Int32} {z' : lc_S} (hk6 : ∀ {x2 : Int32} {x3 : Int32} {z : lc_S} {H : Heap} {locs : List Loc} {ls : Array Slot}, k6 x2 x3 z = some (r, z') → lv_has ls 5 [(0, .ref (lc_ad G 1)), (2, .int x2), (3, .int x3)] → lc_H G z s.heap H locs → W p l e (lc_rm 1) s m args below meth c H locs 0 0 (MQ below (lc_Q G (some (.int r)) z') args s 0 0 (lc_A G)) (F0 m 6 ls [])) (hk14 : ∀ {x2 : Int32} {x3 : Int32} {x4 : Int32} {z : lc_S} {H : Heap} {locs : List Loc} {ls : Array Slot}, k14 x2 x3 x4 z = some (r, z') → lv_has ls 5 [(0, .ref (lc_ad G 1)), (2, .int x2), (3, .int x3), (4, .int x4)] → lc_H G z s.heap H locs → W p l e (lc_rm 1) s m args below meth c H locs 0 0 (MQ below (lc_Q G (some (.int r)) z') args s 0 0 (lc_A G)) (F0 m 14 ls [])) : ∀ {x2 : Int32} {x3 : Int32} {x4 : Int32} {z : lc_S} {H : Heap} {locs : List Loc} {ls : Array Slot}, fA_reachedFrom_55 k6 k14 x2 x3 x4 z = some (r, z') → lv_has ls 5 [(0, .ref (lc_ad G 1)), (2, .int x2), (3, .int x3), (4, .int x4)] → lc_H G z s.heap H locs → W p l e (lc_rm 1) s m args below meth c H locs 0 0 (MQ below (lc_Q G (some (.int r)) z') args s 0 0 (lc_A G)) (F0 m 55 ls []) := by
  intro x2 x3 x4 z H locs ls hf hl hH
  rw [fA_reachedFrom_55] at hf
  obtain ⟨x55, e55⟩ : ∃ x : Int32, x = x4 + 1 := ⟨_, rfl⟩
  replace hf := lc_let_of e55 hf
  refine lv_iinc (k := 3) (v := x55) hx hb dA_reachedFrom_55 hl rfl ((lc_incv _ (by decide)).trans e55.symm) (by decide) rfl (fun ls hl => ?_)
  replace hl : lv_has ls 5 [(4, .int x55), (0, .ref (lc_ad G 1)), (2, .int x2), (3, .int x3)] := hl
  refine lv_goto (tgt := 14) hx hb dA_reachedFrom_58 (by decide) ?_
  exact hk14 hf (lv_sub hl [1, 2, 3, 0] rfl) hH
set_option maxHeartbeats 4000000 in
set_option maxRecDepth 100000 in
theorem bA_reachedFrom_14 {p : Program} {l : Launch} {e : Env} {s : State} {m : MethodId} {args : Array Value} {below : List Frame} {meth : Method} {c : Code} {G : lc_G} (hx : p.tables.exec = Jvm.exec) (hb : c.code = prog_1_method_15_code) (hml : c.maxLocals = 5) (hr : meth.sig.returnType = (some .int)) (hlocks : meth.locks = false) (hown : s.vm.findClass "LinearCells" = some m.cls) (hts : ∀ w ∈ lc_ALL, w.before args s = true) (hE : lc_E G s) {k6 : Int32 → Int32 → lc_S → Option ((Int32) × lc_S)} {r : Int32} {z' : lc_S} (hk6 : ∀ {x2 : Int32} {x3 : Int32} {z : lc_S} {H : Heap} {locs : List Loc} {ls : Array Slot}, k6 x2 x3 z = some (r, z') → lv_has ls 5 [(0, .ref (lc_ad G 1)), (2, .int x2), (3, .int x3)] → lc_H G z s.heap H locs → W p l e (lc_rm 1) s m args below meth c H locs 0 0 (MQ below (lc_Q G (some (.int r)) z') args s 0 0 (lc_A G)) (F0 m 6 ls [])) : ∀ (n : Nat) {x2 : Int32} {x3 : Int32} {x4 : Int32} {z : lc_S} {H : Heap} {locs : List Loc} {ls : Array Slot}, fA_reachedFrom_14 k6 n x2 x3 x4 z = some (r, z') → lv_has ls 5 [(0, .ref (lc_ad G 1)), (2, .int x2), (3, .int x3), (4, .int x4)] → lc_H G z s.heap H locs → W p l e (lc_rm 1) s m args below meth c H locs 0 0 (MQ below (lc_Q G (some (.int r)) z') args s 0 0 (lc_A G)) (F0 m 14 ls []) := by
  intro n
  induction n with
  | zero =>
    intro x2 x3 x4 z H locs ls hf hl hH
    exact absurd (show (none : Option ((Int32) × lc_S)) = some (r, z') from hf) (fun h => by cases h)
  | succ n ih =>
    intro x2 x3 x4 z H locs ls hf hl hH
    rw [fA_reachedFrom_14] at hf
    refine lv_iload hx hb dA_reachedFrom_14 (lv_at hl 3 rfl) ?_
    refine lv_iconst (v := 4) hx hb dA_reachedFrom_16 (by decide) ?_
    refine lv_icmp_ge (tgt := 61) hx hb dA_reachedFrom_17 (by decide) (fun hc => ?_) (fun hc => ?_)
    · replace hf := lc_ite_pos hc hf
      obtain ⟨x61, e61⟩ : ∃ x : Int32, x = x3 + 1 := ⟨_, rfl⟩
      replace hf := lc_let_of e61 hf
      refine lv_iinc (k := 2) (v := x61) hx hb dA_reachedFrom_61 hl rfl ((lc_incv _ (by decide)).trans e61.symm) (by decide) rfl (fun ls hl => ?_)
      replace hl : lv_has ls 5 [(3, .int x61), (0, .ref (lc_ad G 1)), (2, .int x2), (4, .int x4)] := hl
      refine lv_goto (tgt := 6) hx hb dA_reachedFrom_64 (by decide) ?_
      exact hk6 hf (lv_sub hl [1, 2, 0] rfl) hH
    · replace hf := lc_ite_neg hc hf
      refine lv_iload_n hx hb dA_reachedFrom_20 rfl (lv_at hl 1 rfl) ?_
      refine lv_iload hx hb dA_reachedFrom_21 (lv_at hl 3 rfl) ?_
      obtain ⟨r23, z23, h23, hf⟩ := lc_bnd_some hf
      refine lc_calli (va_runS (As := [.int x2, .int x4]) (rest := []) ⟨hx, hb, hml, hown, hts⟩ (cA_hasBit l G h23) (lc_cwS hts ksA_89 (lc_room (by decide) (by decide))) (lc_preS hE hH _) rfl rfl hl.1 rfl (lv_room (Nat.le_of_ble_eq_true rfl)) dA_reachedFrom_23 ⟨Nat.zero_le _, Nat.zero_le _⟩) hH (fun H locs hH => ?_)
      refine lv_if_eq (tgt := 55) hx hb dA_reachedFrom_26 (by decide) (fun hc => ?_) (fun hc => ?_)
      · replace hf := lc_ite_pos hc hf
        exact bA_reachedFrom_55 hx hb hml hr hlocks hown hts hE (fun hf hl hH => hk6 hf hl hH) (fun hf hl hH => ih hf hl hH) hf (lv_sub hl [0, 1, 2, 3] rfl) hH
      · replace hf := lc_ite_neg hc hf
        refine lv_aload_n hx hb dA_reachedFrom_29 rfl (lv_at hl 0 rfl) ?_
        refine lc_getf (d := 2) (q := 3) hx hb hts hown hE hH flA_15 lc_h1 rfl rfl dA_reachedFrom_30 ?_
        refine lv_iload hx hb dA_reachedFrom_33 (lv_at hl 3 rfl) ?_
        obtain ⟨hi35, hf⟩ := lc_chk_some hf
        obtain ⟨q35, hq35, hf⟩ := lc_bnr_some hf
        refine lc_aald hx hb hE hH lc_h3 rfl hi35 hq35 dA_reachedFrom_35 ?_
        obtain ⟨hs36_0, hf⟩ := lc_chk_some hf
        refine lc_geti hx hb hts hown hE hH flA_75 hs36_0 rfl dA_reachedFrom_36 ?_
        refine lv_if_eq (tgt := 55) hx hb dA_reachedFrom_39 (by decide) (fun hc => ?_) (fun hc => ?_)
        · replace hf := lc_ite_pos hc hf
          exact bA_reachedFrom_55 hx hb hml hr hlocks hown hts hE (fun hf hl hH => hk6 hf hl hH) (fun hf hl hH => ih hf hl hH) hf (lv_sub hl [0, 1, 2, 3] rfl) hH
        · replace hf := lc_ite_neg hc hf
          refine lv_iload_n hx hb dA_reachedFrom_42 rfl (lv_at hl 1 rfl) ?_
          refine lv_aload_n hx hb dA_reachedFrom_43 rfl (lv_at hl 0 rfl) ?_
          refine lc_getf (d := 2) (q := 3) hx hb hts hown hE hH flA_15 lc_h1 rfl rfl dA_reachedFrom_44 ?_
          refine lv_iload hx hb dA_reachedFrom_47 (lv_at hl 3 rfl) ?_
          obtain ⟨hi49, hf⟩ := lc_chk_some hf
          obtain ⟨q49, hq49, hf⟩ := lc_bnr_some hf
          refine lc_aald hx hb hE hH lc_h3 rfl hi49 hq49 dA_reachedFrom_49 ?_
          obtain ⟨hs50_0, hf⟩ := lc_chk_some hf
          refine lc_geti hx hb hts hown hE hH flA_154 hs50_0 rfl dA_reachedFrom_50 ?_
          refine lv_ior hx hb dA_reachedFrom_53 ?_
          refine lv_topi (fun x54 e54 => ?_)
          replace hf := lc_let_of e54 hf
          refine lv_istore_n hx hb dA_reachedFrom_54 rfl hl (by decide) rfl (fun ls hl => ?_)
          replace hl : lv_has ls 5 [(2, .int x54), (0, .ref (lc_ad G 1)), (3, .int x3), (4, .int x4)] := hl
          exact bA_reachedFrom_55 hx hb hml hr hlocks hown hts hE (fun hf hl hH => hk6 hf hl hH) (fun hf hl hH => ih hf hl hH) hf (lv_sub hl [1, 0, 2, 3] rfl) hH
set_option maxHeartbeats 4000000 in
set_option maxRecDepth 100000 in
theorem bA_reachedFrom_6 {p : Program} {l : Launch} {e : Env} {s : State} {m : MethodId} {args : Array Value} {below : List Frame} {meth : Method} {c : Code} {G : lc_G} (hx : p.tables.exec = Jvm.exec) (hb : c.code = prog_1_method_15_code) (hml : c.maxLocals = 5) (hr : meth.sig.returnType = (some .int)) (hlocks : meth.locks = false) (hown : s.vm.findClass "LinearCells" = some m.cls) (hts : ∀ w ∈ lc_ALL, w.before args s = true) (hE : lc_E G s) {r : Int32} {z' : lc_S} : ∀ (n : Nat) {x2 : Int32} {x3 : Int32} {z : lc_S} {H : Heap} {locs : List Loc} {ls : Array Slot}, fA_reachedFrom_6 n x2 x3 z = some (r, z') → lv_has ls 5 [(0, .ref (lc_ad G 1)), (2, .int x2), (3, .int x3)] → lc_H G z s.heap H locs → W p l e (lc_rm 1) s m args below meth c H locs 0 0 (MQ below (lc_Q G (some (.int r)) z') args s 0 0 (lc_A G)) (F0 m 6 ls []) := by
  intro n
  induction n with
  | zero =>
    intro x2 x3 z H locs ls hf hl hH
    exact absurd (show (none : Option ((Int32) × lc_S)) = some (r, z') from hf) (fun h => by cases h)
  | succ n ih =>
    intro x2 x3 z H locs ls hf hl hH
    rw [fA_reachedFrom_6] at hf
    refine lv_iload_n hx hb dA_reachedFrom_6 rfl (lv_at hl 2 rfl) ?_
    refine lv_iconst (v := 4) hx hb dA_reachedFrom_7 (by decide) ?_
    refine lv_icmp_ge (tgt := 67) hx hb dA_reachedFrom_8 (by decide) (fun hc => ?_) (fun hc => ?_)
    · replace hf := lc_ite_pos hc hf
      refine lv_iload_n hx hb dA_reachedFrom_67 rfl (lv_at hl 1 rfl) ?_
      exact lc_iret hx hb hr hlocks hH hf dA_reachedFrom_68
    · replace hf := lc_ite_neg hc hf
      refine lv_iconst (v := 0) hx hb dA_reachedFrom_11 (by decide) ?_
      refine lv_istore hx hb dA_reachedFrom_12 hl (by decide) rfl (fun ls hl => ?_)
      replace hl : lv_has ls 5 [(4, .int 0), (0, .ref (lc_ad G 1)), (2, .int x2), (3, .int x3)] := hl
      exact bA_reachedFrom_14 hx hb hml hr hlocks hown hts hE (fun hf hl hH => ih hf hl hH) _ hf (lv_sub hl [1, 2, 3, 0] rfl) hH
set_option maxHeartbeats 4000000 in
set_option maxRecDepth 100000 in
theorem cA_reachedFrom (l : Launch) (G : lc_G) {a1 : Int32} {r : Int32} {z z' : lc_S} (hf : fA_reachedFrom a1 z = some (r, z')) : lc_M l G yA_reachedFrom wA_reachedFrom 1 [.ref (lc_ad G 1), .int a1] z (some (.int r)) z' := by
  refine lc_M_of (cc := prog_1_method_15_code) (maxL := 5) (ret := (some .int)) (own := "LinearCells") (by decide) rfl (fun w h => List.mem_cons_of_mem _ h) (Nat.le_of_ble_eq_true rfl) rfl ?_
  intro p e s m below meth c hx hb hml hr hlocks hown hts hE ls hl hH
  replace hl : lv_has ls 5 [(0, .ref (lc_ad G 1)), (1, .int a1)] := hl
  rw [fA_reachedFrom] at hf
  refine lv_iconst (v := 1) hx hb dA_reachedFrom_0 (by decide) ?_
  refine lv_iload_n hx hb dA_reachedFrom_1 rfl (lv_at hl 1 rfl) ?_
  refine lv_ishl hx hb dA_reachedFrom_2 ?_
  refine lv_topi (fun x3 e3 => ?_)
  replace hf := lc_let_of e3 hf
  refine lv_istore_n hx hb dA_reachedFrom_3 rfl hl (by decide) rfl (fun ls hl => ?_)
  replace hl : lv_has ls 5 [(2, .int x3), (0, .ref (lc_ad G 1)), (1, .int a1)] := hl
  refine lv_iconst (v := 0) hx hb dA_reachedFrom_4 (by decide) ?_
  refine lv_istore_n hx hb dA_reachedFrom_5 rfl hl (by decide) rfl (fun ls hl => ?_)
  replace hl : lv_has ls 5 [(3, .int 0), (2, .int x3), (0, .ref (lc_ad G 1)), (1, .int a1)] := hl
  exact bA_reachedFrom_6 hx hb hml hr hlocks hown hts hE _ hf (lv_sub hl [2, 1, 0] rfl) hH
theorem dT_forgetPairs_0 : decode prog_7_method_2_code 0 = .ok (.aload_n 0, 1) := by decide +kernel
theorem dT_forgetPairs_1 : decode prog_7_method_2_code 1 = .ok (.iconst 3, 1) := by decide +kernel
theorem dT_forgetPairs_2 : decode prog_7_method_2_code 2 = .ok (.putfield 27, 3) := by decide +kernel
theorem dT_forgetPairs_5 : decode prog_7_method_2_code 5 = .ok (.return_, 1) := by decide +kernel
def fT_forgetPairs (z : lc_S) : Option ((Unit) × lc_S) :=
  some ((), lcUI z 9 4 3)
set_option maxHeartbeats 4000000 in
set_option maxRecDepth 100000 in
theorem cT_forgetPairs (l : Launch) (G : lc_G) {r : Unit} {z z' : lc_S} (hf : fT_forgetPairs z = some (r, z')) : lc_M l G yT_forgetPairs wT_forgetPairs 0 [.ref (lc_ad G 9)] z none z' := by
  refine lc_M_of (cc := prog_7_method_2_code) (maxL := 1) (ret := none) (own := "LinearCells$Types") (by decide) rfl (fun w h => List.mem_cons_of_mem _ h) (Nat.le_of_ble_eq_true rfl) rfl ?_
  intro p e s m below meth c hx hb hml hr hlocks hown hts hE ls hl hH
  replace hl : lv_has ls 1 [(0, .ref (lc_ad G 9))] := hl
  rw [fT_forgetPairs] at hf
  refine lv_aload_n hx hb dT_forgetPairs_0 rfl (lv_at hl 0 rfl) ?_
  refine lv_iconst (v := 3) hx hb dT_forgetPairs_1 (by decide) ?_
  refine lc_puti hx hb hts hown hE hH fpT_27 lc_h9 rfl rfl rfl dT_forgetPairs_2 (fun H locs hH => ?_)
  exact lc_vret hx hb hr hlocks hH hf dT_forgetPairs_5
