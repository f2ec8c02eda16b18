theorem dY_isFree_0 : decode prog_4_method_6_code 0 = .ok (.iload_n 1, 1) := by decide +kernel
theorem dY_isFree_1 : decode prog_4_method_6_code 1 = .ok (.ifCond .lt 18, 3) := by decide +kernel
theorem dY_isFree_4 : decode prog_4_method_6_code 4 = .ok (.iload_n 1, 1) := by decide +kernel
theorem dY_isFree_5 : decode prog_4_method_6_code 5 = .ok (.bipush 12, 2) := by decide +kernel
theorem dY_isFree_7 : decode prog_4_method_6_code 7 = .ok (.if_icmp .ge 12, 3) := by decide +kernel
theorem dY_isFree_10 : decode prog_4_method_6_code 10 = .ok (.aload_n 0, 1) := by decide +kernel
theorem dY_isFree_11 : decode prog_4_method_6_code 11 = .ok (.getfield 11, 3) := by decide +kernel
theorem dY_isFree_14 : decode prog_4_method_6_code 14 = .ok (.iload_n 1, 1) := by decide +kernel
theorem dY_isFree_15 : decode prog_4_method_6_code 15 = .ok (.baload, 1) := by decide +kernel
theorem dY_isFree_16 : decode prog_4_method_6_code 16 = .ok (.ifCond .ne 7, 3) := by decide +kernel
theorem dY_isFree_19 : decode prog_4_method_6_code 19 = .ok (.iconst 1, 1) := by decide +kernel
theorem dY_isFree_20 : decode prog_4_method_6_code 20 = .ok (.goto 4, 3) := by decide +kernel
theorem dY_isFree_23 : decode prog_4_method_6_code 23 = .ok (.iconst 0, 1) := by decide +kernel
theorem dY_isFree_24 : decode prog_4_method_6_code 24 = .ok (.ireturn, 1) := by decide +kernel
def fY_isFree_19 (z : lc_S) : Option ((Int32) × lc_S) :=
  some (1, z)
def fY_isFree (a1 : Int32) (z : lc_S) : Option ((Int32) × lc_S) :=
  if a1 < 0 then (fY_isFree_19 z) else (if 12 ≤ a1 then (fY_isFree_19 z) else (lc_chk (lc_in a1 12) (if (lcI z 21 a1.toNatClampNeg) = 0 then (fY_isFree_19 z) else (some (0, z)))))
set_option maxHeartbeats 4000000 in
set_option maxRecDepth 100000 in
theorem bY_isFree_19 {p : Program} {l : Launch} {e : Env} {s : State} {m : MethodId} {args : Array Value} {below : List Frame} {meth : Method} {c : Code} {G : lc_G} (hx : p.tables.exec = Jvm.exec) (hb : c.code = prog_4_method_6_code) (hml : c.maxLocals = 2) (hr : meth.sig.returnType = (some .boolean)) (hlocks : meth.locks = false) (hown : s.vm.findClass "LinearCells$Memory" = some m.cls) (hts : ∀ w ∈ lc_ALL, w.before args s = true) (hE : lc_E G s) {r : Int32} {z' : lc_S} : ∀ {z : lc_S} {H : Heap} {locs : List Loc} {ls : Array Slot}, fY_isFree_19 z = some (r, z') → lv_has ls 2 [] → lc_H G z s.heap H locs → W p l e (lc_rm 0) s m args below meth c H locs 0 0 (MQ below (lc_Q G (some (.int r)) z') args s 0 0 (lc_A G)) (F0 m 19 ls []) := by
  intro z H locs ls hf hl hH
  rw [fY_isFree_19] at hf
  refine lv_iconst (v := 1) hx hb dY_isFree_19 (by decide) ?_
  refine lv_goto (tgt := 24) hx hb dY_isFree_20 (by decide) ?_
  exact lc_zret hx hb hr hlocks (by decide) hH hf dY_isFree_24
set_option maxHeartbeats 4000000 in
set_option maxRecDepth 100000 in
theorem cY_isFree (l : Launch) (G : lc_G) {a1 : Int32} {r : Int32} {z z' : lc_S} (hf : fY_isFree a1 z = some (r, z')) : lc_M l G yY_isFree wY_isFree 0 [.ref (lc_ad G 20), .int a1] z (some (.int r)) z' := by
  refine lc_M_of (cc := prog_4_method_6_code) (maxL := 2) (ret := (some .boolean)) (own := "LinearCells$Memory") (by decide) rfl (fun w h => List.mem_cons_of_mem _ h) (Nat.le_of_ble_eq_true rfl) rfl ?_
  intro p e s m below meth c hx hb hml hr hlocks hown hts hE ls hl hH
  replace hl : lv_has ls 2 [(0, .ref (lc_ad G 20)), (1, .int a1)] := hl
  rw [fY_isFree] at hf
  refine lv_iload_n hx hb dY_isFree_0 rfl (lv_at hl 1 rfl) ?_
  refine lv_if_lt (tgt := 19) hx hb dY_isFree_1 (by decide) (fun hc => ?_) (fun hc => ?_)
  · replace hf := lc_ite_pos hc hf
    exact bY_isFree_19 hx hb hml hr hlocks hown hts hE hf (lv_sub hl [] rfl) hH
  · replace hf := lc_ite_neg hc hf
    refine lv_iload_n hx hb dY_isFree_4 rfl (lv_at hl 1 rfl) ?_
    refine lv_bipush (v := 12) hx hb dY_isFree_5 (by decide) ?_
    refine lv_icmp_ge (tgt := 19) hx hb dY_isFree_7 (by decide) (fun hc => ?_) (fun hc => ?_)
    · replace hf := lc_ite_pos hc hf
      exact bY_isFree_19 hx hb hml hr hlocks hown hts hE hf (lv_sub hl [] rfl) hH
    · replace hf := lc_ite_neg hc hf
      refine lv_aload_n hx hb dY_isFree_10 rfl (lv_at hl 0 rfl) ?_
      refine lc_getf (d := 1) (q := 21) hx hb hts hown hE hH flY_11 lc_h20 rfl rfl dY_isFree_11 ?_
      refine lv_iload_n hx hb dY_isFree_14 rfl (lv_at hl 1 rfl) ?_
      obtain ⟨hi15, hf⟩ := lc_chk_some hf
      refine lc_zald hx hb hE hH lc_h21 rfl hi15 dY_isFree_15 ?_
      refine lv_if_ne (tgt := 23) hx hb dY_isFree_16 (by decide) (fun hc => ?_) (fun hc => ?_)
      · replace hf := lc_ite_neg hc hf
        refine lv_iconst (v := 0) hx hb dY_isFree_23 (by decide) ?_
        exact lc_zret hx hb hr hlocks (by decide) hH hf dY_isFree_24
      · replace hf := lc_ite_pos hc hf
        exact bY_isFree_19 hx hb hml hr hlocks hown hts hE hf (lv_sub hl [] rfl) hH
theorem dM_isLivingCell_0 : decode prog_3_method_21_code 0 = .ok (.lload_n 1, 1) := by decide +kernel
theorem dM_isLivingCell_1 : decode prog_3_method_21_code 1 = .ok (.invokestatic 51, 3) := by decide +kernel
theorem dM_isLivingCell_4 : decode prog_3_method_21_code 4 = .ok (.ifCond .ne 11, 3) := by decide +kernel
theorem dM_isLivingCell_7 : decode prog_3_method_21_code 7 = .ok (.aload_n 0, 1) := by decide +kernel
theorem dM_isLivingCell_8 : decode prog_3_method_21_code 8 = .ok (.iconst 4, 1) := by decide +kernel
theorem dM_isLivingCell_9 : decode prog_3_method_21_code 9 = .ok (.putfield 70, 3) := by decide +kernel
theorem dM_isLivingCell_12 : decode prog_3_method_21_code 12 = .ok (.goto 22, 3) := by decide +kernel
theorem dM_isLivingCell_15 : decode prog_3_method_21_code 15 = .ok (.aload_n 0, 1) := by decide +kernel
theorem dM_isLivingCell_16 : decode prog_3_method_21_code 16 = .ok (.getfield 16, 3) := by decide +kernel
theorem dM_isLivingCell_19 : decode prog_3_method_21_code 19 = .ok (.lload_n 1, 1) := by decide +kernel
theorem dM_isLivingCell_20 : decode prog_3_method_21_code 20 = .ok (.invokestatic 57, 3) := by decide +kernel
theorem dM_isLivingCell_23 : decode prog_3_method_21_code 23 = .ok (.invokevirtual 187, 3) := by decide +kernel
theorem dM_isLivingCell_26 : decode prog_3_method_21_code 26 = .ok (.ifCond .eq 8, 3) := by decide +kernel
theorem dM_isLivingCell_29 : decode prog_3_method_21_code 29 = .ok (.aload_n 0, 1) := by decide +kernel
theorem dM_isLivingCell_30 : decode prog_3_method_21_code 30 = .ok (.iconst 1, 1) := by decide +kernel
theorem dM_isLivingCell_31 : decode prog_3_method_21_code 31 = .ok (.putfield 70, 3) := by decide +kernel
theorem dM_isLivingCell_34 : decode prog_3_method_21_code 34 = .ok (.aload_n 0, 1) := by decide +kernel
theorem dM_isLivingCell_35 : decode prog_3_method_21_code 35 = .ok (.getfield 70, 3) := by decide +kernel
theorem dM_isLivingCell_38 : decode prog_3_method_21_code 38 = .ok (.ifCond .ne 7, 3) := by decide +kernel
theorem dM_isLivingCell_41 : decode prog_3_method_21_code 41 = .ok (.iconst 1, 1) := by decide +kernel
theorem dM_isLivingCell_42 : decode prog_3_method_21_code 42 = .ok (.goto 4, 3) := by decide +kernel
theorem dM_isLivingCell_45 : decode prog_3_method_21_code 45 = .ok (.iconst 0, 1) := by decide +kernel
theorem dM_isLivingCell_46 : decode prog_3_method_21_code 46 = .ok (.ireturn, 1) := by decide +kernel
def fM_isLivingCell_34 (z : lc_S) : Option ((Int32) × lc_S) :=
  if (lcI z 19 3) = 0 then (some (1, z)) else (some (0, z))
def fM_isLivingCell (a1 : Int64) (z : lc_S) : Option ((Int32) × lc_S) :=
  lc_bnd (fV_isCell a1 z) (fun r1 z1 => if r1 = 0 then (fM_isLivingCell_34 (lcUI z1 19 3 4)) else (lc_bnd (fV_wordOf a1 z1) (fun r20 z20 => lc_bnd (fY_isFree r20 z20) (fun r23 z23 => if r23 = 0 then (fM_isLivingCell_34 z23) else (fM_isLivingCell_34 (lcUI z23 19 3 1))))))
set_option maxHeartbeats 4000000 in
set_option maxRecDepth 100000 in
theorem bM_isLivingCell_34 {p : Program} {l : Launch} {e : Env} {s : State} {m : MethodId} {args : Array Value} {below : List Frame} {meth : Method} {c : Code} {G : lc_G} (hx : p.tables.exec = Jvm.exec) (hb : c.code = prog_3_method_21_code) (hml : c.maxLocals = 3) (hr : meth.sig.returnType = (some .boolean)) (hlocks : meth.locks = false) (hown : s.vm.findClass "LinearCells$Machine" = some m.cls) (hts : ∀ w ∈ lc_ALL, w.before args s = true) (hE : lc_E G s) {r : Int32} {z' : lc_S} : ∀ {z : lc_S} {H : Heap} {locs : List Loc} {ls : Array Slot}, fM_isLivingCell_34 z = some (r, z') → lv_has ls 3 [(0, .ref (lc_ad G 19))] → lc_H G z s.heap H locs → W p l e (lc_rm 1) s m args below meth c H locs 0 0 (MQ below (lc_Q G (some (.int r)) z') args s 0 0 (lc_A G)) (F0 m 34 ls []) := by
  intro z H locs ls hf hl hH
  rw [fM_isLivingCell_34] at hf
  refine lv_aload_n hx hb dM_isLivingCell_34 rfl (lv_at hl 0 rfl) ?_
  refine lc_geti hx hb hts hown hE hH flM_70 lc_h19 rfl dM_isLivingCell_35 ?_
  refine lv_if_ne (tgt := 45) hx hb dM_isLivingCell_38 (by decide) (fun hc => ?_) (fun hc => ?_)
  · replace hf := lc_ite_neg hc hf
    refine lv_iconst (v := 0) hx hb dM_isLivingCell_45 (by decide) ?_
    exact lc_zret hx hb hr hlocks (by decide) hH hf dM_isLivingCell_46
  · replace hf := lc_ite_pos hc hf
    refine lv_iconst (v := 1) hx hb dM_isLivingCell_41 (by decide) ?_
    refine lv_goto (tgt := 46) hx hb dM_isLivingCell_42 (by decide) ?_
    exact lc_zret hx hb hr hlocks (by decide) hH hf dM_isLivingCell_46
set_option maxHeartbeats 4000000 in
set_option maxRecDepth 100000 in
theorem cM_isLivingCell (l : Launch) (G : lc_G) {a1 : Int64} {r : Int32} {z z' : lc_S} (hf : fM_isLivingCell a1 z = some (r, z')) : lc_M l G yM_isLivingCell wM_isLivingCell 1 [.ref (lc_ad G 19), .long a1] z (some (.int r)) z' := by
  refine lc_M_of (cc := prog_3_method_21_code) (maxL := 3) (ret := (some .boolean)) (own := "LinearCells$Machine") (by decide) rfl (fun w h => List.mem_cons_of_mem _ h) (Nat.le_of_ble_eq_true rfl) rfl ?_
  intro p e s m below meth c hx hb hml hr hlocks hown hts hE ls hl hH
  replace hl : lv_has ls 3 [(0, .ref (lc_ad G 19)), (1, .long a1)] := hl
  rw [fM_isLivingCell] at hf
  refine lv_lload_n hx hb dM_isLivingCell_0 rfl (lv_at hl 1 rfl) ?_
  obtain ⟨r1, z1, h1, hf⟩ := lc_bnd_some hf
  refine lc_calli (va_runS (As := [.long a1]) (rest := []) ⟨hx, hb, hml, hown, hts⟩ (cV_isCell l G h1) (lc_cwS hts ksM_51 (lc_room (by decide) (by decide))) (lc_preS hE hH _) rfl rfl hl.1 rfl (lv_room (Nat.le_of_ble_eq_true rfl)) dM_isLivingCell_1 ⟨Nat.zero_le _, Nat.zero_le _⟩) hH (fun H locs hH => ?_)
  refine lv_if_ne (tgt := 15) hx hb dM_isLivingCell_4 (by decide) (fun hc => ?_) (fun hc => ?_)
  · replace hf := lc_ite_neg hc hf
    refine lv_aload_n hx hb dM_isLivingCell_15 rfl (lv_at hl 0 rfl) ?_
    refine lc_getf (d := 1) (q := 20) hx hb hts hown hE hH flM_16 lc_h19 rfl rfl dM_isLivingCell_16 ?_
    refine lv_lload_n hx hb dM_isLivingCell_19 rfl (lv_at hl 1 rfl) ?_
    obtain ⟨r20, z20, h20, hf⟩ := lc_bnd_some hf
    refine lc_calli (va_runS (As := [.long a1]) (rest := [.ref (lc_ad G 20)]) ⟨hx, hb, hml, hown, hts⟩ (cV_wordOf l G h20) (lc_cwS hts ksM_57 (lc_room (by decide) (by decide))) (lc_preS hE hH _) rfl rfl hl.1 rfl (lv_room (Nat.le_of_ble_eq_true rfl)) dM_isLivingCell_20 ⟨Nat.zero_le _, Nat.zero_le _⟩) hH (fun H locs hH => ?_)
    obtain ⟨r23, z23, h23, hf⟩ := lc_bnd_some hf
    refine lc_calli (va_runV (As := [.int r20]) (rest := []) ⟨hx, hb, hml, hown, hts⟩ (cY_isFree l G h23) (lc_cwV hts kvM_187 (lc_room (by decide) (by decide))) (lc_preV hE hH lc_h20 rfl _) rfl rfl hl.1 rfl (lv_room (Nat.le_of_ble_eq_true rfl)) dM_isLivingCell_23 ⟨Nat.zero_le _, Nat.zero_le _⟩) hH (fun H locs hH => ?_)
    refine lv_if_eq (tgt := 34) hx hb dM_isLivingCell_26 (by decide) (fun hc => ?_) (fun hc => ?_)
    · replace hf := lc_ite_pos hc hf
      exact bM_isLivingCell_34 hx hb hml hr hlocks hown hts hE hf (lv_sub hl [0] rfl) hH
    · replace hf := lc_ite_neg hc hf
      refine lv_aload_n hx hb dM_isLivingCell_29 rfl (lv_at hl 0 rfl) ?_
      refine lv_iconst (v := 1) hx hb dM_isLivingCell_30 (by decide) ?_
      refine lc_puti hx hb hts hown hE hH fpM_70 lc_h19 rfl rfl rfl dM_isLivingCell_31 (fun H locs hH => ?_)
      exact bM_isLivingCell_34 hx hb hml hr hlocks hown hts hE hf (lv_sub hl [0] rfl) hH
  · replace hf := lc_ite_pos hc hf
    refine lv_aload_n hx hb dM_isLivingCell_7 rfl (lv_at hl 0 rfl) ?_
    refine lv_iconst (v := 4) hx hb dM_isLivingCell_8 (by decide) ?_
    refine lc_puti hx hb hts hown hE hH fpM_70 lc_h19 rfl rfl rfl dM_isLivingCell_9 (fun H locs hH => ?_)
    refine lv_goto (tgt := 34) hx hb dM_isLivingCell_12 (by decide) ?_
    exact bM_isLivingCell_34 hx hb hml hr hlocks hown hts hE hf (lv_sub hl [0] rfl) hH
theorem dY_numberAt_0 : decode prog_4_method_7_code 0 = .ok (.aload_n 0, 1) := by decide +kernel
theorem dY_numberAt_1 : decode prog_4_method_7_code 1 = .ok (.iload_n 1, 1) := by decide +kernel
theorem dY_numberAt_2 : decode prog_4_method_7_code 2 = .ok (.invokevirtual 48, 3) := by decide +kernel
theorem dY_numberAt_5 : decode prog_4_method_7_code 5 = .ok (.ifCond .eq 7, 3) := by decide +kernel
theorem dY_numberAt_8 : decode prog_4_method_7_code 8 = .ok (.iconst 0, 1) := by decide +kernel
theorem dY_numberAt_9 : decode prog_4_method_7_code 9 = .ok (.goto 9, 3) := by decide +kernel
theorem dY_numberAt_12 : decode prog_4_method_7_code 12 = .ok (.aload_n 0, 1) := by decide +kernel
theorem dY_numberAt_13 : decode prog_4_method_7_code 13 = .ok (.getfield 15, 3) := by decide +kernel
theorem dY_numberAt_16 : decode prog_4_method_7_code 16 = .ok (.iload_n 1, 1) := by decide +kernel
theorem dY_numberAt_17 : decode prog_4_method_7_code 17 = .ok (.iaload, 1) := by decide +kernel
theorem dY_numberAt_18 : decode prog_4_method_7_code 18 = .ok (.ireturn, 1) := by decide +kernel
def fY_numberAt (a1 : Int32) (z : lc_S) : Option ((Int32) × lc_S) :=
  lc_bnd (fY_isFree a1 z) (fun r2 z2 => if r2 = 0 then (lc_chk (lc_in a1 12) (some (lcI z2 22 a1.toNatClampNeg, z2))) else (some (0, z2)))
set_option maxHeartbeats 4000000 in
set_option maxRecDepth 100000 in
theorem cY_numberAt (l : Launch) (G : lc_G) {a1 : Int32} {r : Int32} {z z' : lc_S} (hf : fY_numberAt a1 z = some (r, z')) : lc_M l G yY_numberAt wY_numberAt 1 [.ref (lc_ad G 20), .int a1] z (some (.int r)) z' := by
  refine lc_M_of (cc := prog_4_method_7_code) (maxL := 2) (ret := (some .int)) (own := "LinearCells$Memory") (by decide) rfl (fun w h => List.mem_cons_of_mem _ h) (Nat.le_of_ble_eq_true rfl) rfl ?_
  intro p e s m below meth c hx hb hml hr hlocks hown hts hE ls hl hH
  replace hl : lv_has ls 2 [(0, .ref (lc_ad G 20)), (1, .int a1)] := hl
  rw [fY_numberAt] at hf
  refine lv_aload_n hx hb dY_numberAt_0 rfl (lv_at hl 0 rfl) ?_
  refine lv_iload_n hx hb dY_numberAt_1 rfl (lv_at hl 1 rfl) ?_
  obtain ⟨r2, z2, h2, hf⟩ := lc_bnd_some hf
  refine lc_calli (va_runV (As := [.int a1]) (rest := []) ⟨hx, hb, hml, hown, hts⟩ (cY_isFree l G h2) (lc_cwV hts kvY_48 (lc_room (by decide) (by decide))) (lc_preV hE hH lc_h20 rfl _) rfl rfl hl.1 rfl (lv_room (Nat.le_of_ble_eq_true rfl)) dY_numberAt_2 ⟨Nat.zero_le _, Nat.zero_le _⟩) hH (fun H locs hH => ?_)
  refine lv_if_eq (tgt := 12) hx hb dY_numberAt_5 (by decide) (fun hc => ?_) (fun hc => ?_)
  · replace hf := lc_ite_pos hc hf
    refine lv_aload_n hx hb dY_numberAt_12 rfl (lv_at hl 0 rfl) ?_
    refine lc_getf (d := 2) (q := 22) hx hb hts hown hE hH flY_15 lc_h20 rfl rfl dY_numberAt_13 ?_
    refine lv_iload_n hx hb dY_numberAt_16 rfl (lv_at hl 1 rfl) ?_
    obtain ⟨hi17, hf⟩ := lc_chk_some hf
    refine lc_iald hx hb hE hH lc_h22 rfl hi17 dY_numberAt_17 ?_
    exact lc_iret hx hb hr hlocks hH hf dY_numberAt_18
  · replace hf := lc_ite_neg hc hf
    refine lv_iconst (v := 0) hx hb dY_numberAt_8 (by decide) ?_
    refine lv_goto (tgt := 18) hx hb dY_numberAt_9 (by decide) ?_
    exact lc_iret hx hb hr hlocks hH hf dY_numberAt_18
theorem dY_addPair_0 : decode prog_4_method_11_code 0 = .ok (.aload_n 0, 1) := by decide +kernel
theorem dY_addPair_1 : decode prog_4_method_11_code 1 = .ok (.getfield 45, 3) := by decide +kernel
theorem dY_addPair_4 : decode prog_4_method_11_code 4 = .ok (.bipush 120, 2) := by decide +kernel
theorem dY_addPair_6 : decode prog_4_method_11_code 6 = .ok (.if_icmp .lt 5, 3) := by decide +kernel
theorem dY_addPair_9 : decode prog_4_method_11_code 9 = .ok (.iconst 0, 1) := by decide +kernel
theorem dY_addPair_10 : decode prog_4_method_11_code 10 = .ok (.ireturn, 1) := by decide +kernel
theorem dY_addPair_11 : decode prog_4_method_11_code 11 = .ok (.aload_n 0, 1) := by decide +kernel
theorem dY_addPair_12 : decode prog_4_method_11_code 12 = .ok (.getfield 19, 3) := by decide +kernel
theorem dY_addPair_15 : decode prog_4_method_11_code 15 = .ok (.aload_n 0, 1) := by decide +kernel
theorem dY_addPair_16 : decode prog_4_method_11_code 16 = .ok (.getfield 45, 3) := by decide +kernel
theorem dY_addPair_19 : decode prog_4_method_11_code 19 = .ok (.lload_n 1, 1) := by decide +kernel
theorem dY_addPair_20 : decode prog_4_method_11_code 20 = .ok (.lastore, 1) := by decide +kernel
theorem dY_addPair_21 : decode prog_4_method_11_code 21 = .ok (.aload_n 0, 1) := by decide +kernel
theorem dY_addPair_22 : decode prog_4_method_11_code 22 = .ok (.getfield 23, 3) := by decide +kernel
theorem dY_addPair_25 : decode prog_4_method_11_code 25 = .ok (.aload_n 0, 1) := by decide +kernel
theorem dY_addPair_26 : decode prog_4_method_11_code 26 = .ok (.getfield 45, 3) := by decide +kernel
theorem dY_addPair_29 : decode prog_4_method_11_code 29 = .ok (.lload_n 3, 1) := by decide +kernel
theorem dY_addPair_30 : decode prog_4_method_11_code 30 = .ok (.lastore, 1) := by decide +kernel
theorem dY_addPair_31 : decode prog_4_method_11_code 31 = .ok (.aload_n 0, 1) := by decide +kernel
theorem dY_addPair_32 : decode prog_4_method_11_code 32 = .ok (.dup, 1) := by decide +kernel
theorem dY_addPair_33 : decode prog_4_method_11_code 33 = .ok (.getfield 45, 3) := by decide +kernel
theorem dY_addPair_36 : decode prog_4_method_11_code 36 = .ok (.iconst 1, 1) := by decide +kernel
theorem dY_addPair_37 : decode prog_4_method_11_code 37 = .ok (.iadd, 1) := by decide +kernel
theorem dY_addPair_38 : decode prog_4_method_11_code 38 = .ok (.putfield 45, 3) := by decide +kernel
theorem dY_addPair_41 : decode prog_4_method_11_code 41 = .ok (.iconst 1, 1) := by decide +kernel
theorem dY_addPair_42 : decode prog_4_method_11_code 42 = .ok (.ireturn, 1) := by decide +kernel
def fY_addPair (a1 : Int64) (a3 : Int64) (z : lc_S) : Option ((Int32) × lc_S) :=
  if (lcI z 20 10) < 120 then (lc_chk (lc_in (lcI z 20 10) 120) (lc_chk (lc_in (lcI (lcUL z 23 (lcI z 20 10).toNatClampNeg a1) 20 10) 120) (some (1, lcUI (lcUL (lcUL z 23 (lcI z 20 10).toNatClampNeg a1) 24 (lcI (lcUL z 23 (lcI z 20 10).toNatClampNeg a1) 20 10).toNatClampNeg a3) 20 10 ((lcI (lcUL (lcUL z 23 (lcI z 20 10).toNatClampNeg a1) 24 (lcI (lcUL z 23 (lcI z 20 10).toNatClampNeg a1) 20 10).toNatClampNeg a3) 20 10) + 1))))) else (some (0, z))
set_option maxHeartbeats 4000000 in
set_option maxRecDepth 100000 in
theorem cY_addPair (l : Launch) (G : lc_G) {a1 : Int64} {a3 : Int64} {r : Int32} {z z' : lc_S} (hf : fY_addPair a1 a3 z = some (r, z')) : lc_M l G yY_addPair wY_addPair 0 [.ref (lc_ad G 20), .long a1, .long a3] z (some (.int r)) z' := by
  refine lc_M_of (cc := prog_4_method_11_code) (maxL := 5) (ret := (some .boolean)) (own := "LinearCells$Memory") (by decide) rfl (fun w h => List.mem_cons_of_mem _ h) (Nat.le_of_ble_eq_true rfl) rfl ?_
  intro p e s m below meth c hx hb hml hr hlocks hown hts hE ls hl hH
  replace hl : lv_has ls 5 [(0, .ref (lc_ad G 20)), (1, .long a1), (3, .long a3)] := hl
  rw [fY_addPair] at hf
  refine lv_aload_n hx hb dY_addPair_0 rfl (lv_at hl 0 rfl) ?_
  refine lc_geti hx hb hts hown hE hH flY_45 lc_h20 rfl dY_addPair_1 ?_
  refine lv_bipush (v := 120) hx hb dY_addPair_4 (by decide) ?_
  refine lv_icmp_lt (tgt := 11) hx hb dY_addPair_6 (by decide) (fun hc => ?_) (fun hc => ?_)
  · replace hf := lc_ite_pos hc hf
    refine lv_aload_n hx hb dY_addPair_11 rfl (lv_at hl 0 rfl) ?_
    refine lc_getf (d := 3) (q := 23) hx hb hts hown hE hH flY_19 lc_h20 rfl rfl dY_addPair_12 ?_
    refine lv_aload_n hx hb dY_addPair_15 rfl (lv_at hl 0 rfl) ?_
    refine lc_geti hx hb hts hown hE hH flY_45 lc_h20 rfl dY_addPair_16 ?_
    refine lv_lload_n hx hb dY_addPair_19 rfl (lv_at hl 1 rfl) ?_
    obtain ⟨hi20, hf⟩ := lc_chk_some hf
    refine lc_last hx hb hE hH lc_h23 rfl hi20 dY_addPair_20 (fun H locs hH => ?_)
    refine lv_aload_n hx hb dY_addPair_21 rfl (lv_at hl 0 rfl) ?_
    refine lc_getf (d := 4) (q := 24) hx hb hts hown hE hH flY_23 lc_h20 rfl rfl dY_addPair_22 ?_
    refine lv_aload_n hx hb dY_addPair_25 rfl (lv_at hl 0 rfl) ?_
    refine lc_geti hx hb hts hown hE hH flY_45 lc_h20 rfl dY_addPair_26 ?_
    refine lv_lload_n hx hb dY_addPair_29 rfl (lv_at hl 2 rfl) ?_
    obtain ⟨hi30, hf⟩ := lc_chk_some hf
    refine lc_last hx hb hE hH lc_h24 rfl hi30 dY_addPair_30 (fun H locs hH => ?_)
    refine lv_aload_n hx hb dY_addPair_31 rfl (lv_at hl 0 rfl) ?_
    refine lv_dup hx hb dY_addPair_32 rfl ?_
    refine lc_geti hx hb hts hown hE hH flY_45 lc_h20 rfl dY_addPair_33 ?_
    refine lv_iconst (v := 1) hx hb dY_addPair_36 (by decide) ?_
    refine lv_iadd hx hb dY_addPair_37 ?_
    refine lc_puti hx hb hts hown hE hH fpY_45 lc_h20 rfl rfl rfl dY_addPair_38 (fun H locs hH => ?_)
    refine lv_iconst (v := 1) hx hb dY_addPair_41 (by decide) ?_
    exact lc_zret hx hb hr hlocks (by decide) hH hf dY_addPair_42
  · replace hf := lc_ite_neg hc hf
    refine lv_iconst (v := 0) hx hb dY_addPair_9 (by decide) ?_
    exact lc_zret hx hb hr hlocks (by decide) hH hf dY_addPair_10
theorem dY_pairsMade_0 : decode prog_4_method_5_code 0 = .ok (.aload_n 0, 1) := by decide +kernel
theorem dY_pairsMade_1 : decode prog_4_method_5_code 1 = .ok (.getfield 45, 3) := by decide +kernel
theorem dY_pairsMade_4 : decode prog_4_method_5_code 4 = .ok (.ireturn, 1) := by decide +kernel
def fY_pairsMade (z : lc_S) : Option ((Int32) × lc_S) :=
  some (lcI z 20 10, z)
set_option maxHeartbeats 4000000 in
set_option maxRecDepth 100000 in
theorem cY_pairsMade (l : Launch) (G : lc_G) {r : Int32} {z z' : lc_S} (hf : fY_pairsMade z = some (r, z')) : lc_M l G yY_pairsMade wY_pairsMade 0 [.ref (lc_ad G 20)] z (some (.int r)) z' := by
  refine lc_M_of (cc := prog_4_method_5_code) (maxL := 1) (ret := (some .int)) (own := "LinearCells$Memory") (by decide) rfl (fun w h => List.mem_cons_of_mem _ h) (Nat.le_of_ble_eq_true rfl) rfl ?_
  intro p e s m below meth c hx hb hml hr hlocks hown hts hE ls hl hH
  replace hl : lv_has ls 1 [(0, .ref (lc_ad G 20))] := hl
  rw [fY_pairsMade] at hf
  refine lv_aload_n hx hb dY_pairsMade_0 rfl (lv_at hl 0 rfl) ?_
  refine lc_geti hx hb hts hown hE hH flY_45 lc_h20 rfl dY_pairsMade_1 ?_
  exact lc_iret hx hb hr hlocks hH hf dY_pairsMade_4
theorem dM_makePair_0 : decode prog_3_method_22_code 0 = .ok (.aload_n 0, 1) := by decide +kernel
theorem dM_makePair_1 : decode prog_3_method_22_code 1 = .ok (.getfield 16, 3) := by decide +kernel
theorem dM_makePair_4 : decode prog_3_method_22_code 4 = .ok (.lload_n 1, 1) := by decide +kernel
theorem dM_makePair_5 : decode prog_3_method_22_code 5 = .ok (.lload_n 3, 1) := by decide +kernel
theorem dM_makePair_6 : decode prog_3_method_22_code 6 = .ok (.invokevirtual 191, 3) := by decide +kernel
theorem dM_makePair_9 : decode prog_3_method_22_code 9 = .ok (.ifCond .eq 23, 3) := by decide +kernel
theorem dM_makePair_12 : decode prog_3_method_22_code 12 = .ok (.aload_n 0, 1) := by decide +kernel
theorem dM_makePair_13 : decode prog_3_method_22_code 13 = .ok (.iconst 3, 1) := by decide +kernel
theorem dM_makePair_14 : decode prog_3_method_22_code 14 = .ok (.aload_n 0, 1) := by decide +kernel
theorem dM_makePair_15 : decode prog_3_method_22_code 15 = .ok (.getfield 16, 3) := by decide +kernel
theorem dM_makePair_18 : decode prog_3_method_22_code 18 = .ok (.invokevirtual 195, 3) := by decide +kernel
theorem dM_makePair_21 : decode prog_3_method_22_code 21 = .ok (.iconst 1, 1) := by decide +kernel
theorem dM_makePair_22 : decode prog_3_method_22_code 22 = .ok (.isub, 1) := by decide +kernel
theorem dM_makePair_23 : decode prog_3_method_22_code 23 = .ok (.invokestatic 76, 3) := by decide +kernel
theorem dM_makePair_26 : decode prog_3_method_22_code 26 = .ok (.invokevirtual 110, 3) := by decide +kernel
theorem dM_makePair_29 : decode prog_3_method_22_code 29 = .ok (.goto 8, 3) := by decide +kernel
theorem dM_makePair_32 : decode prog_3_method_22_code 32 = .ok (.aload_n 0, 1) := by decide +kernel
theorem dM_makePair_33 : decode prog_3_method_22_code 33 = .ok (.iconst 2, 1) := by decide +kernel
theorem dM_makePair_34 : decode prog_3_method_22_code 34 = .ok (.putfield 70, 3) := by decide +kernel
theorem dM_makePair_37 : decode prog_3_method_22_code 37 = .ok (.return_, 1) := by decide +kernel
def fM_makePair (a1 : Int64) (a3 : Int64) (z : lc_S) : Option ((Unit) × lc_S) :=
  lc_bnd (fY_addPair a1 a3 z) (fun r6 z6 => if r6 = 0 then (some ((), lcUI z6 19 3 2)) else (lc_bnd (fY_pairsMade z6) (fun r18 z18 => lc_bnd (fV_of 3 (r18 - 1) z18) (fun r23 z23 => lc_bnd (fM_end r23 z23) (fun r26 z26 => some ((), z26))))))
set_option maxHeartbeats 4000000 in
set_option maxRecDepth 100000 in
theorem cM_makePair (l : Launch) (G : lc_G) {a1 : Int64} {a3 : Int64} {r : Unit} {z z' : lc_S} (hf : fM_makePair a1 a3 z = some (r, z')) : lc_M l G yM_makePair wM_makePair 1 [.ref (lc_ad G 19), .long a1, .long a3] z none z' := by
  refine lc_M_of (cc := prog_3_method_22_code) (maxL := 5) (ret := none) (own := "LinearCells$Machine") (by decide) rfl (fun w h => List.mem_cons_of_mem _ h) (Nat.le_of_ble_eq_true rfl) rfl ?_
  intro p e s m below meth c hx hb hml hr hlocks hown hts hE ls hl hH
  replace hl : lv_has ls 5 [(0, .ref (lc_ad G 19)), (1, .long a1), (3, .long a3)] := hl
  rw [fM_makePair] at hf
  refine lv_aload_n hx hb dM_makePair_0 rfl (lv_at hl 0 rfl) ?_
  refine lc_getf (d := 1) (q := 20) hx hb hts hown hE hH flM_16 lc_h19 rfl rfl dM_makePair_1 ?_
  refine lv_lload_n hx hb dM_makePair_4 rfl (lv_at hl 1 rfl) ?_
  refine lv_lload_n hx hb dM_makePair_5 rfl (lv_at hl 2 rfl) ?_
  obtain ⟨r6, z6, h6, hf⟩ := lc_bnd_some hf
  refine lc_calli (va_runV (As := [.long a1, .long a3]) (rest := []) ⟨hx, hb, hml, hown, hts⟩ (cY_addPair l G h6) (lc_cwV hts kvM_191 (lc_room (by decide) (by decide))) (lc_preV hE hH lc_h20 rfl _) rfl rfl hl.1 rfl (lv_room (Nat.le_of_ble_eq_true rfl)) dM_makePair_6 ⟨Nat.zero_le _, Nat.zero_le _⟩) hH (fun H locs hH => ?_)
  refine lv_if_eq (tgt := 32) hx hb dM_makePair_9 (by decide) (fun hc => ?_) (fun hc => ?_)
  · replace hf := lc_ite_pos hc hf
    refine lv_aload_n hx hb dM_makePair_32 rfl (lv_at hl 0 rfl) ?_
    refine lv_iconst (v := 2) hx hb dM_makePair_33 (by decide) ?_
    refine lc_puti hx hb hts hown hE hH fpM_70 lc_h19 rfl rfl rfl dM_makePair_34 (fun H locs hH => ?_)
    exact lc_vret hx hb hr hlocks hH hf dM_makePair_37
  · replace hf := lc_ite_neg hc hf
    refine lv_aload_n hx hb dM_makePair_12 rfl (lv_at hl 0 rfl) ?_
    refine lv_iconst (v := 3) hx hb dM_makePair_13 (by decide) ?_
    refine lv_aload_n hx hb dM_makePair_14 rfl (lv_at hl 0 rfl) ?_
    refine lc_getf (d := 1) (q := 20) hx hb hts hown hE hH flM_16 lc_h19 rfl rfl dM_makePair_15 ?_
    obtain ⟨r18, z18, h18, hf⟩ := lc_bnd_some hf
    refine lc_calli (va_runV (As := []) (rest := [.int 3, .ref (lc_ad G 19)]) ⟨hx, hb, hml, hown, hts⟩ (cY_pairsMade l G h18) (lc_cwV hts kvM_195 (lc_room (by decide) (by decide))) (lc_preV hE hH lc_h20 rfl _) rfl rfl hl.1 rfl (lv_room (Nat.le_of_ble_eq_true rfl)) dM_makePair_18 ⟨Nat.zero_le _, Nat.zero_le _⟩) hH (fun H locs hH => ?_)
    refine lv_iconst (v := 1) hx hb dM_makePair_21 (by decide) ?_
    refine lv_isub hx hb dM_makePair_22 ?_
    obtain ⟨r23, z23, h23, hf⟩ := lc_bnd_some hf
    refine lc_calll (va_runS (As := [.int 3, .int (r18 - 1)]) (rest := [.ref (lc_ad G 19)]) ⟨hx, hb, hml, hown, hts⟩ (cV_of l G h23) (lc_cwS hts ksM_76 (lc_room (by decide) (by decide))) (lc_preS hE hH _) rfl rfl hl.1 rfl (lv_room (Nat.le_of_ble_eq_true rfl)) dM_makePair_23 ⟨Nat.zero_le _, Nat.zero_le _⟩) hH (fun H locs hH => ?_)
    obtain ⟨r26, z26, h26, hf⟩ := lc_bnd_some hf
    refine lc_callv (va_runV (As := [.long r23]) (rest := []) ⟨hx, hb, hml, hown, hts⟩ (cM_end l G h26) (lc_cwV hts kvM_110 (lc_room (by decide) (by decide))) (lc_preV hE hH lc_h19 rfl _) rfl rfl hl.1 rfl (lv_room (Nat.le_of_ble_eq_true rfl)) dM_makePair_26 ⟨Nat.zero_le _, Nat.zero_le _⟩) hH (fun H locs hH => ?_)
    refine lv_goto (tgt := 37) hx hb dM_makePair_29 (by decide) ?_
    exact lc_vret hx hb hr hlocks hH hf dM_makePair_37
theorem dM_getNumber_0 : decode prog_3_method_18_code 0 = .ok (.aload_n 0, 1) := by decide +kernel
theorem dM_getNumber_1 : decode prog_3_method_18_code 1 = .ok (.lload_n 1, 1) := by decide +kernel
theorem dM_getNumber_2 : decode prog_3_method_18_code 2 = .ok (.invokevirtual 175, 3) := by decide +kernel
theorem dM_getNumber_5 : decode prog_3_method_18_code 5 = .ok (.ifCond .eq 25, 3) := by decide +kernel
theorem dM_getNumber_8 : decode prog_3_method_18_code 8 = .ok (.aload_n 0, 1) := by decide +kernel
theorem dM_getNumber_9 : decode prog_3_method_18_code 9 = .ok (.getfield 16, 3) := by decide +kernel
theorem dM_getNumber_12 : decode prog_3_method_18_code 12 = .ok (.lload_n 1, 1) := by decide +kernel
theorem dM_getNumber_13 : decode prog_3_method_18_code 13 = .ok (.invokestatic 57, 3) := by decide +kernel
theorem dM_getNumber_16 : decode prog_3_method_18_code 16 = .ok (.invokevirtual 178, 3) := by decide +kernel
theorem dM_getNumber_19 : decode prog_3_method_18_code 19 = .ok (.istore_n 3, 1) := by decide +kernel
theorem dM_getNumber_20 : decode prog_3_method_18_code 20 = .ok (.aload_n 0, 1) := by decide +kernel
theorem dM_getNumber_21 : decode prog_3_method_18_code 21 = .ok (.iconst 1, 1) := by decide +kernel
theorem dM_getNumber_22 : decode prog_3_method_18_code 22 = .ok (.iload_n 3, 1) := by decide +kernel
theorem dM_getNumber_23 : decode prog_3_method_18_code 23 = .ok (.invokestatic 76, 3) := by decide +kernel
theorem dM_getNumber_26 : decode prog_3_method_18_code 26 = .ok (.lload_n 1, 1) := by decide +kernel
theorem dM_getNumber_27 : decode prog_3_method_18_code 27 = .ok (.invokevirtual 165, 3) := by decide +kernel
theorem dM_getNumber_30 : decode prog_3_method_18_code 30 = .ok (.return_, 1) := by decide +kernel
def fM_getNumber (a1 : Int64) (z : lc_S) : Option ((Unit) × lc_S) :=
  lc_bnd (fM_isLivingCell a1 z) (fun r2 z2 => if r2 = 0 then (some ((), z2)) else (lc_bnd (fV_wordOf a1 z2) (fun r13 z13 => lc_bnd (fY_numberAt r13 z13) (fun r16 z16 => lc_bnd (fV_of 1 r16 z16) (fun r23 z23 => lc_bnd (fM_makePair r23 a1 z23) (fun r27 z27 => some ((), z27)))))))
set_option maxHeartbeats 4000000 in
set_option maxRecDepth 100000 in
theorem cM_getNumber (l : Launch) (G : lc_G) {a1 : Int64} {r : Unit} {z z' : lc_S} (hf : fM_getNumber a1 z = some (r, z')) : lc_M l G yM_getNumber wM_getNumber 2 [.ref (lc_ad G 19), .long a1] z none z' := by
  refine lc_M_of (cc := prog_3_method_18_code) (maxL := 4) (ret := none) (own := "LinearCells$Machine") (by decide) rfl (fun w h => List.mem_cons_of_mem _ h) (Nat.le_of_ble_eq_true rfl) rfl ?_
  intro p e s m below meth c hx hb hml hr hlocks hown hts hE ls hl hH
  replace hl : lv_has ls 4 [(0, .ref (lc_ad G 19)), (1, .long a1)] := hl
  rw [fM_getNumber] at hf
  refine lv_aload_n hx hb dM_getNumber_0 rfl (lv_at hl 0 rfl) ?_
  refine lv_lload_n hx hb dM_getNumber_1 rfl (lv_at hl 1 rfl) ?_
  obtain ⟨r2, z2, h2, hf⟩ := lc_bnd_some hf
  refine lc_calli (va_runV (As := [.long a1]) (rest := []) ⟨hx, hb, hml, hown, hts⟩ (cM_isLivingCell l G h2) (lc_cwV hts kvM_175 (lc_room (by decide) (by decide))) (lc_preV hE hH lc_h19 rfl _) rfl rfl hl.1 rfl (lv_room (Nat.le_of_ble_eq_true rfl)) dM_getNumber_2 ⟨Nat.zero_le _, Nat.zero_le _⟩) hH (fun H locs hH => ?_)
  refine lv_if_eq (tgt := 30) hx hb dM_getNumber_5 (by decide) (fun hc => ?_) (fun hc => ?_)
  · replace hf := lc_ite_pos hc hf
    exact lc_vret hx hb hr hlocks hH hf dM_getNumber_30
  · replace hf := lc_ite_neg hc hf
    refine lv_aload_n hx hb dM_getNumber_8 rfl (lv_at hl 0 rfl) ?_
    refine lc_getf (d := 1) (q := 20) hx hb hts hown hE hH flM_16 lc_h19 rfl rfl dM_getNumber_9 ?_
    refine lv_lload_n hx hb dM_getNumber_12 rfl (lv_at hl 1 rfl) ?_
    obtain ⟨r13, z13, h13, hf⟩ := lc_bnd_some hf
    refine lc_calli (va_runS (As := [.long a1]) (rest := [.ref (lc_ad G 20)]) ⟨hx, hb, hml, hown, hts⟩ (cV_wordOf l G h13) (lc_cwS hts ksM_57 (lc_room (by decide) (by decide))) (lc_preS hE hH _) rfl rfl hl.1 rfl (lv_room (Nat.le_of_ble_eq_true rfl)) dM_getNumber_13 ⟨Nat.zero_le _, Nat.zero_le _⟩) hH (fun H locs hH => ?_)
    obtain ⟨r16, z16, h16, hf⟩ := lc_bnd_some hf
    refine lc_calli (va_runV (As := [.int r13]) (rest := []) ⟨hx, hb, hml, hown, hts⟩ (cY_numberAt l G h16) (lc_cwV hts kvM_178 (lc_room (by decide) (by decide))) (lc_preV hE hH lc_h20 rfl _) rfl rfl hl.1 rfl (lv_room (Nat.le_of_ble_eq_true rfl)) dM_getNumber_16 ⟨Nat.zero_le _, Nat.zero_le _⟩) hH (fun H locs hH => ?_)
    refine lv_istore_n hx hb dM_getNumber_19 rfl hl (by decide) rfl (fun ls hl => ?_)
    replace hl : lv_has ls 4 [(3, .int r16), (0, .ref (lc_ad G 19)), (1, .long a1)] := hl
    refine lv_aload_n hx hb dM_getNumber_20 rfl (lv_at hl 1 rfl) ?_
    refine lv_iconst (v := 1) hx hb dM_getNumber_21 (by decide) ?_
    refine lv_iload_n hx hb dM_getNumber_22 rfl (lv_at hl 0 rfl) ?_
    obtain ⟨r23, z23, h23, hf⟩ := lc_bnd_some hf
    refine lc_calll (va_runS (As := [.int 1, .int r16]) (rest := [.ref (lc_ad G 19)]) ⟨hx, hb, hml, hown, hts⟩ (cV_of l G h23) (lc_cwS hts ksM_76 (lc_room (by decide) (by decide))) (lc_preS hE hH _) rfl rfl hl.1 rfl (lv_room (Nat.le_of_ble_eq_true rfl)) dM_getNumber_23 ⟨Nat.zero_le _, Nat.zero_le _⟩) hH (fun H locs hH => ?_)
    refine lv_lload_n hx hb dM_getNumber_26 rfl (lv_at hl 2 rfl) ?_
    obtain ⟨r27, z27, h27, hf⟩ := lc_bnd_some hf
    refine lc_callv (va_runV (As := [.long r23, .long a1]) (rest := []) ⟨hx, hb, hml, hown, hts⟩ (cM_makePair l G h27) (lc_cwV hts kvM_165 (lc_room (by decide) (by decide))) (lc_preV hE hH lc_h19 rfl _) rfl rfl hl.1 rfl (lv_room (Nat.le_of_ble_eq_true rfl)) dM_getNumber_27 ⟨Nat.zero_le _, Nat.zero_le _⟩) hH (fun H locs hH => ?_)
    exact lc_vret hx hb hr hlocks hH hf dM_getNumber_30
theorem dY_freePlace_0 : decode prog_4_method_10_code 0 = .ok (.aload_n 0, 1) := by decide +kernel
theorem dY_freePlace_1 : decode prog_4_method_10_code 1 = .ok (.iload_n 1, 1) := by decide +kernel
theorem dY_freePlace_2 : decode prog_4_method_10_code 2 = .ok (.invokevirtual 48, 3) := by decide +kernel
theorem dY_freePlace_5 : decode prog_4_method_10_code 5 = .ok (.ifCond .ne 20, 3) := by decide +kernel
theorem dY_freePlace_8 : decode prog_4_method_10_code 8 = .ok (.aload_n 0, 1) := by decide +kernel
theorem dY_freePlace_9 : decode prog_4_method_10_code 9 = .ok (.getfield 11, 3) := by decide +kernel
theorem dY_freePlace_12 : decode prog_4_method_10_code 12 = .ok (.iload_n 1, 1) := by decide +kernel
theorem dY_freePlace_13 : decode prog_4_method_10_code 13 = .ok (.iconst 0, 1) := by decide +kernel
theorem dY_freePlace_14 : decode prog_4_method_10_code 14 = .ok (.bastore, 1) := by decide +kernel
theorem dY_freePlace_15 : decode prog_4_method_10_code 15 = .ok (.aload_n 0, 1) := by decide +kernel
theorem dY_freePlace_16 : decode prog_4_method_10_code 16 = .ok (.dup, 1) := by decide +kernel
theorem dY_freePlace_17 : decode prog_4_method_10_code 17 = .ok (.getfield 42, 3) := by decide +kernel
theorem dY_freePlace_20 : decode prog_4_method_10_code 20 = .ok (.iconst 1, 1) := by decide +kernel
theorem dY_freePlace_21 : decode prog_4_method_10_code 21 = .ok (.iadd, 1) := by decide +kernel
theorem dY_freePlace_22 : decode prog_4_method_10_code 22 = .ok (.putfield 42, 3) := by decide +kernel
theorem dY_freePlace_25 : decode prog_4_method_10_code 25 = .ok (.return_, 1) := by decide +kernel
def fY_freePlace (a1 : Int32) (z : lc_S) : Option ((Unit) × lc_S) :=
  lc_bnd (fY_isFree a1 z) (fun r2 z2 => if r2 = 0 then (lc_chk (lc_in a1 12) (some ((), lcUI (lcUI z2 21 a1.toNatClampNeg 0) 20 3 ((lcI (lcUI z2 21 a1.toNatClampNeg 0) 20 3) + 1)))) else (some ((), z2)))
set_option maxHeartbeats 4000000 in
set_option maxRecDepth 100000 in
theorem cY_freePlace (l : Launch) (G : lc_G) {a1 : Int32} {r : Unit} {z z' : lc_S} (hf : fY_freePlace a1 z = some (r, z')) : lc_M l G yY_freePlace wY_freePlace 1 [.ref (lc_ad G 20), .int a1] z none z' := by
  refine lc_M_of (cc := prog_4_method_10_code) (maxL := 2) (ret := none) (own := "LinearCells$Memory") (by decide) rfl (fun w h => List.mem_cons_of_mem _ h) (Nat.le_of_ble_eq_true rfl) rfl ?_
  intro p e s m below meth c hx hb hml hr hlocks hown hts hE ls hl hH
  replace hl : lv_has ls 2 [(0, .ref (lc_ad G 20)), (1, .int a1)] := hl
  rw [fY_freePlace] at hf
  refine lv_aload_n hx hb dY_freePlace_0 rfl (lv_at hl 0 rfl) ?_
  refine lv_iload_n hx hb dY_freePlace_1 rfl (lv_at hl 1 rfl) ?_
  obtain ⟨r2, z2, h2, hf⟩ := lc_bnd_some hf
  refine lc_calli (va_runV (As := [.int a1]) (rest := []) ⟨hx, hb, hml, hown, hts⟩ (cY_isFree l G h2) (lc_cwV hts kvY_48 (lc_room (by decide) (by decide))) (lc_preV hE hH lc_h20 rfl _) rfl rfl hl.1 rfl (lv_room (Nat.le_of_ble_eq_true rfl)) dY_freePlace_2 ⟨Nat.zero_le _, Nat.zero_le _⟩) hH (fun H locs hH => ?_)
  refine lv_if_ne (tgt := 25) hx hb dY_freePlace_5 (by decide) (fun hc => ?_) (fun hc => ?_)
  · replace hf := lc_ite_neg hc hf
    exact lc_vret hx hb hr hlocks hH hf dY_freePlace_25
  · replace hf := lc_ite_pos hc hf
    refine lv_aload_n hx hb dY_freePlace_8 rfl (lv_at hl 0 rfl) ?_
    refine lc_getf (d := 1) (q := 21) hx hb hts hown hE hH flY_11 lc_h20 rfl rfl dY_freePlace_9 ?_
    refine lv_iload_n hx hb dY_freePlace_12 rfl (lv_at hl 1 rfl) ?_
    refine lv_iconst (v := 0) hx hb dY_freePlace_13 (by decide) ?_
    obtain ⟨hi14, hf⟩ := lc_chk_some hf
    refine lc_zast hx hb hE hH lc_h21 rfl hi14 (by decide) dY_freePlace_14 (fun H locs hH => ?_)
    refine lv_aload_n hx hb dY_freePlace_15 rfl (lv_at hl 0 rfl) ?_
    refine lv_dup hx hb dY_freePlace_16 rfl ?_
    refine lc_geti hx hb hts hown hE hH flY_42 lc_h20 rfl dY_freePlace_17 ?_
    refine lv_iconst (v := 1) hx hb dY_freePlace_20 (by decide) ?_
    refine lv_iadd hx hb dY_freePlace_21 ?_
    refine lc_puti hx hb hts hown hE hH fpY_42 lc_h20 rfl rfl rfl dY_freePlace_22 (fun H locs hH => ?_)
    exact lc_vret hx hb hr hlocks hH hf dY_freePlace_25
theorem dM_freeCell_0 : decode prog_3_method_19_code 0 = .ok (.aload_n 0, 1) := by decide +kernel
theorem dM_freeCell_1 : decode prog_3_method_19_code 1 = .ok (.lload_n 1, 1) := by decide +kernel
theorem dM_freeCell_2 : decode prog_3_method_19_code 2 = .ok (.invokevirtual 175, 3) := by decide +kernel
theorem dM_freeCell_5 : decode prog_3_method_19_code 5 = .ok (.ifCond .eq 35, 3) := by decide +kernel
theorem dM_freeCell_8 : decode prog_3_method_19_code 8 = .ok (.aload_n 0, 1) := by decide +kernel
theorem dM_freeCell_9 : decode prog_3_method_19_code 9 = .ok (.getfield 16, 3) := by decide +kernel
theorem dM_freeCell_12 : decode prog_3_method_19_code 12 = .ok (.lload_n 1, 1) := by decide +kernel
theorem dM_freeCell_13 : decode prog_3_method_19_code 13 = .ok (.invokestatic 57, 3) := by decide +kernel
theorem dM_freeCell_16 : decode prog_3_method_19_code 16 = .ok (.invokevirtual 178, 3) := by decide +kernel
theorem dM_freeCell_19 : decode prog_3_method_19_code 19 = .ok (.istore_n 3, 1) := by decide +kernel
theorem dM_freeCell_20 : decode prog_3_method_19_code 20 = .ok (.aload_n 0, 1) := by decide +kernel
theorem dM_freeCell_21 : decode prog_3_method_19_code 21 = .ok (.getfield 16, 3) := by decide +kernel
theorem dM_freeCell_24 : decode prog_3_method_19_code 24 = .ok (.lload_n 1, 1) := by decide +kernel
theorem dM_freeCell_25 : decode prog_3_method_19_code 25 = .ok (.invokestatic 57, 3) := by decide +kernel
theorem dM_freeCell_28 : decode prog_3_method_19_code 28 = .ok (.invokevirtual 181, 3) := by decide +kernel
theorem dM_freeCell_31 : decode prog_3_method_19_code 31 = .ok (.aload_n 0, 1) := by decide +kernel
theorem dM_freeCell_32 : decode prog_3_method_19_code 32 = .ok (.iconst 1, 1) := by decide +kernel
theorem dM_freeCell_33 : decode prog_3_method_19_code 33 = .ok (.iload_n 3, 1) := by decide +kernel
theorem dM_freeCell_34 : decode prog_3_method_19_code 34 = .ok (.invokestatic 76, 3) := by decide +kernel
theorem dM_freeCell_37 : decode prog_3_method_19_code 37 = .ok (.invokevirtual 110, 3) := by decide +kernel
theorem dM_freeCell_40 : decode prog_3_method_19_code 40 = .ok (.return_, 1) := by decide +kernel
def fM_freeCell (a1 : Int64) (z : lc_S) : Option ((Unit) × lc_S) :=
  lc_bnd (fM_isLivingCell a1 z) (fun r2 z2 => if r2 = 0 then (some ((), z2)) else (lc_bnd (fV_wordOf a1 z2) (fun r13 z13 => lc_bnd (fY_numberAt r13 z13) (fun r16 z16 => lc_bnd (fV_wordOf a1 z16) (fun r25 z25 => lc_bnd (fY_freePlace r25 z25) (fun r28 z28 => lc_bnd (fV_of 1 r16 z28) (fun r34 z34 => lc_bnd (fM_end r34 z34) (fun r37 z37 => some ((), z37)))))))))
set_option maxHeartbeats 4000000 in
set_option maxRecDepth 100000 in
theorem cM_freeCell (l : Launch) (G : lc_G) {a1 : Int64} {r : Unit} {z z' : lc_S} (hf : fM_freeCell a1 z = some (r, z')) : lc_M l G yM_freeCell wM_freeCell 2 [.ref (lc_ad G 19), .long a1] z none z' := by
  refine lc_M_of (cc := prog_3_method_19_code) (maxL := 4) (ret := none) (own := "LinearCells$Machine") (by decide) rfl (fun w h => List.mem_cons_of_mem _ h) (Nat.le_of_ble_eq_true rfl) rfl ?_
  intro p e s m below meth c hx hb hml hr hlocks hown hts hE ls hl hH
  replace hl : lv_has ls 4 [(0, .ref (lc_ad G 19)), (1, .long a1)] := hl
  rw [fM_freeCell] at hf
  refine lv_aload_n hx hb dM_freeCell_0 rfl (lv_at hl 0 rfl) ?_
  refine lv_lload_n hx hb dM_freeCell_1 rfl (lv_at hl 1 rfl) ?_
  obtain ⟨r2, z2, h2, hf⟩ := lc_bnd_some hf
  refine lc_calli (va_runV (As := [.long a1]) (rest := []) ⟨hx, hb, hml, hown, hts⟩ (cM_isLivingCell l G h2) (lc_cwV hts kvM_175 (lc_room (by decide) (by decide))) (lc_preV hE hH lc_h19 rfl _) rfl rfl hl.1 rfl (lv_room (Nat.le_of_ble_eq_true rfl)) dM_freeCell_2 ⟨Nat.zero_le _, Nat.zero_le _⟩) hH (fun H locs hH => ?_)
  refine lv_if_eq (tgt := 40) hx hb dM_freeCell_5 (by decide) (fun hc => ?_) (fun hc => ?_)
  · replace hf := lc_ite_pos hc hf
    exact lc_vret hx hb hr hlocks hH hf dM_freeCell_40
  · replace hf := lc_ite_neg hc hf
    refine lv_aload_n hx hb dM_freeCell_8 rfl (lv_at hl 0 rfl) ?_
    refine lc_getf (d := 1) (q := 20) hx hb hts hown hE hH flM_16 lc_h19 rfl rfl dM_freeCell_9 ?_
    refine lv_lload_n hx hb dM_freeCell_12 rfl (lv_at hl 1 rfl) ?_
    obtain ⟨r13, z13, h13, hf⟩ := lc_bnd_some hf
    refine lc_calli (va_runS (As := [.long a1]) (rest := [.ref (lc_ad G 20)]) ⟨hx, hb, hml, hown, hts⟩ (cV_wordOf l G h13) (lc_cwS hts ksM_57 (lc_room (by decide) (by decide))) (lc_preS hE hH _) rfl rfl hl.1 rfl (lv_room (Nat.le_of_ble_eq_true rfl)) dM_freeCell_13 ⟨Nat.zero_le _, Nat.zero_le _⟩) hH (fun H locs hH => ?_)
    obtain ⟨r16, z16, h16, hf⟩ := lc_bnd_some hf
    refine lc_calli (va_runV (As := [.int r13]) (rest := []) ⟨hx, hb, hml, hown, hts⟩ (cY_numberAt l G h16) (lc_cwV hts kvM_178 (lc_room (by decide) (by decide))) (lc_preV hE hH lc_h20 rfl _) rfl rfl hl.1 rfl (lv_room (Nat.le_of_ble_eq_true rfl)) dM_freeCell_16 ⟨Nat.zero_le _, Nat.zero_le _⟩) hH (fun H locs hH => ?_)
    refine lv_istore_n hx hb dM_freeCell_19 rfl hl (by decide) rfl (fun ls hl => ?_)
    replace hl : lv_has ls 4 [(3, .int r16), (0, .ref (lc_ad G 19)), (1, .long a1)] := hl
    refine lv_aload_n hx hb dM_freeCell_20 rfl (lv_at hl 1 rfl) ?_
    refine lc_getf (d := 1) (q := 20) hx hb hts hown hE hH flM_16 lc_h19 rfl rfl dM_freeCell_21 ?_
    refine lv_lload_n hx hb dM_freeCell_24 rfl (lv_at hl 2 rfl) ?_
    obtain ⟨r25, z25, h25, hf⟩ := lc_bnd_some hf
    refine lc_calli (va_runS (As := [.long a1]) (rest := [.ref (lc_ad G 20)]) ⟨hx, hb, hml, hown, hts⟩ (cV_wordOf l G h25) (lc_cwS hts ksM_57 (lc_room (by decide) (by decide))) (lc_preS hE hH _) rfl rfl hl.1 rfl (lv_room (Nat.le_of_ble_eq_true rfl)) dM_freeCell_25 ⟨Nat.zero_le _, Nat.zero_le _⟩) hH (fun H locs hH => ?_)
    obtain ⟨r28, z28, h28, hf⟩ := lc_bnd_some hf
    refine lc_callv (va_runV (As := [.int r25]) (rest := []) ⟨hx, hb, hml, hown, hts⟩ (cY_freePlace l G h28) (lc_cwV hts kvM_181 (lc_room (by decide) (by decide))) (lc_preV hE hH lc_h20 rfl _) rfl rfl hl.1 rfl (lv_room (Nat.le_of_ble_eq_true rfl)) dM_freeCell_28 ⟨Nat.zero_le _, Nat.zero_le _⟩) hH (fun H locs hH => ?_)
    refine lv_aload_n hx hb dM_freeCell_31 rfl (lv_at hl 1 rfl) ?_
    refine lv_iconst (v := 1) hx hb dM_freeCell_32 (by decide) ?_
    refine lv_iload_n hx hb dM_freeCell_33 rfl (lv_at hl 0 rfl) ?_
    obtain ⟨r34, z34, h34, hf⟩ := lc_bnd_some hf
    refine lc_calll (va_runS (As := [.int 1, .int r16]) (rest := [.ref (lc_ad G 19)]) ⟨hx, hb, hml, hown, hts⟩ (cV_of l G h34) (lc_cwS hts ksM_76 (lc_room (by decide) (by decide))) (lc_preS hE hH _) rfl rfl hl.1 rfl (lv_room (Nat.le_of_ble_eq_true rfl)) dM_freeCell_34 ⟨Nat.zero_le _, Nat.zero_le _⟩) hH (fun H locs hH => ?_)
    obtain ⟨r37, z37, h37, hf⟩ := lc_bnd_some hf
    refine lc_callv (va_runV (As := [.long r34]) (rest := []) ⟨hx, hb, hml, hown, hts⟩ (cM_end l G h37) (lc_cwV hts kvM_110 (lc_room (by decide) (by decide))) (lc_preV hE hH lc_h19 rfl _) rfl rfl hl.1 rfl (lv_room (Nat.le_of_ble_eq_true rfl)) dM_freeCell_37 ⟨Nat.zero_le _, Nat.zero_le _⟩) hH (fun H locs hH => ?_)
    exact lc_vret hx hb hr hlocks hH hf dM_freeCell_40
theorem dY_putNumber_0 : decode prog_4_method_8_code 0 = .ok (.aload_n 0, 1) := by decide +kernel
theorem dY_putNumber_1 : decode prog_4_method_8_code 1 = .ok (.iload_n 1, 1) := by decide +kernel
theorem dY_putNumber_2 : decode prog_4_method_8_code 2 = .ok (.invokevirtual 48, 3) := by decide +kernel
theorem dY_putNumber_5 : decode prog_4_method_8_code 5 = .ok (.ifCond .ne 10, 3) := by decide +kernel
theorem dY_putNumber_8 : decode prog_4_method_8_code 8 = .ok (.aload_n 0, 1) := by decide +kernel
theorem dY_putNumber_9 : decode prog_4_method_8_code 9 = .ok (.getfield 15, 3) := by decide +kernel
theorem dY_putNumber_12 : decode prog_4_method_8_code 12 = .ok (.iload_n 1, 1) := by decide +kernel
theorem dY_putNumber_13 : decode prog_4_method_8_code 13 = .ok (.iload_n 2, 1) := by decide +kernel
theorem dY_putNumber_14 : decode prog_4_method_8_code 14 = .ok (.iastore, 1) := by decide +kernel
theorem dY_putNumber_15 : decode prog_4_method_8_code 15 = .ok (.return_, 1) := by decide +kernel
def fY_putNumber (a1 : Int32) (a2 : Int32) (z : lc_S) : Option ((Unit) × lc_S) :=
  lc_bnd (fY_isFree a1 z) (fun r2 z2 => if r2 = 0 then (lc_chk (lc_in a1 12) (some ((), lcUI z2 22 a1.toNatClampNeg a2))) else (some ((), z2)))
set_option maxHeartbeats 4000000 in
set_option maxRecDepth 100000 in
theorem cY_putNumber (l : Launch) (G : lc_G) {a1 : Int32} {a2 : Int32} {r : Unit} {z z' : lc_S} (hf : fY_putNumber a1 a2 z = some (r, z')) : lc_M l G yY_putNumber wY_putNumber 1 [.ref (lc_ad G 20), .int a1, .int a2] z none z' := by
  refine lc_M_of (cc := prog_4_method_8_code) (maxL := 3) (ret := none) (own := "LinearCells$Memory") (by decide) rfl (fun w h => List.mem_cons_of_mem _ h) (Nat.le_of_ble_eq_true rfl) rfl ?_
  intro p e s m below meth c hx hb hml hr hlocks hown hts hE ls hl hH
  replace hl : lv_has ls 3 [(0, .ref (lc_ad G 20)), (1, .int a1), (2, .int a2)] := hl
  rw [fY_putNumber] at hf
  refine lv_aload_n hx hb dY_putNumber_0 rfl (lv_at hl 0 rfl) ?_
  refine lv_iload_n hx hb dY_putNumber_1 rfl (lv_at hl 1 rfl) ?_
  obtain ⟨r2, z2, h2, hf⟩ := lc_bnd_some hf
  refine lc_calli (va_runV (As := [.int a1]) (rest := []) ⟨hx, hb, hml, hown, hts⟩ (cY_isFree l G h2) (lc_cwV hts kvY_48 (lc_room (by decide) (by decide))) (lc_preV hE hH lc_h20 rfl _) rfl rfl hl.1 rfl (lv_room (Nat.le_of_ble_eq_true rfl)) dY_putNumber_2 ⟨Nat.zero_le _, Nat.zero_le _⟩) hH (fun H locs hH => ?_)
  refine lv_if_ne (tgt := 15) hx hb dY_putNumber_5 (by decide) (fun hc => ?_) (fun hc => ?_)
  · replace hf := lc_ite_neg hc hf
    exact lc_vret hx hb hr hlocks hH hf dY_putNumber_15
  · replace hf := lc_ite_pos hc hf
    refine lv_aload_n hx hb dY_putNumber_8 rfl (lv_at hl 0 rfl) ?_
    refine lc_getf (d := 2) (q := 22) hx hb hts hown hE hH flY_15 lc_h20 rfl rfl dY_putNumber_9 ?_
    refine lv_iload_n hx hb dY_putNumber_12 rfl (lv_at hl 1 rfl) ?_
    refine lv_iload_n hx hb dY_putNumber_13 rfl (lv_at hl 2 rfl) ?_
    obtain ⟨hi14, hf⟩ := lc_chk_some hf
    refine lc_iast hx hb hE hH lc_h22 rfl hi14 dY_putNumber_14 (fun H locs hH => ?_)
    exact lc_vret hx hb hr hlocks hH hf dY_putNumber_15
theorem dM_putNumber_0 : decode prog_3_method_20_code 0 = .ok (.lload_n 3, 1) := by decide +kernel
theorem dM_putNumber_1 : decode prog_3_method_20_code 1 = .ok (.invokestatic 143, 3) := by decide +kernel
theorem dM_putNumber_4 : decode prog_3_method_20_code 4 = .ok (.ifCond .ne 11, 3) := by decide +kernel
theorem dM_putNumber_7 : decode prog_3_method_20_code 7 = .ok (.aload_n 0, 1) := by decide +kernel
theorem dM_putNumber_8 : decode prog_3_method_20_code 8 = .ok (.iconst 4, 1) := by decide +kernel
theorem dM_putNumber_9 : decode prog_3_method_20_code 9 = .ok (.putfield 70, 3) := by decide +kernel
theorem dM_putNumber_12 : decode prog_3_method_20_code 12 = .ok (.goto 31, 3) := by decide +kernel
theorem dM_putNumber_15 : decode prog_3_method_20_code 15 = .ok (.aload_n 0, 1) := by decide +kernel
theorem dM_putNumber_16 : decode prog_3_method_20_code 16 = .ok (.lload_n 1, 1) := by decide +kernel
theorem dM_putNumber_17 : decode prog_3_method_20_code 17 = .ok (.invokevirtual 175, 3) := by decide +kernel
theorem dM_putNumber_20 : decode prog_3_method_20_code 20 = .ok (.ifCond .eq 23, 3) := by decide +kernel
theorem dM_putNumber_23 : decode prog_3_method_20_code 23 = .ok (.aload_n 0, 1) := by decide +kernel
theorem dM_putNumber_24 : decode prog_3_method_20_code 24 = .ok (.getfield 16, 3) := by decide +kernel
theorem dM_putNumber_27 : decode prog_3_method_20_code 27 = .ok (.lload_n 1, 1) := by decide +kernel
theorem dM_putNumber_28 : decode prog_3_method_20_code 28 = .ok (.invokestatic 57, 3) := by decide +kernel
theorem dM_putNumber_31 : decode prog_3_method_20_code 31 = .ok (.lload_n 3, 1) := by decide +kernel
theorem dM_putNumber_32 : decode prog_3_method_20_code 32 = .ok (.invokestatic 57, 3) := by decide +kernel
theorem dM_putNumber_35 : decode prog_3_method_20_code 35 = .ok (.invokevirtual 185, 3) := by decide +kernel
theorem dM_putNumber_38 : decode prog_3_method_20_code 38 = .ok (.aload_n 0, 1) := by decide +kernel
theorem dM_putNumber_39 : decode prog_3_method_20_code 39 = .ok (.lload_n 1, 1) := by decide +kernel
theorem dM_putNumber_40 : decode prog_3_method_20_code 40 = .ok (.invokevirtual 110, 3) := by decide +kernel
theorem dM_putNumber_43 : decode prog_3_method_20_code 43 = .ok (.return_, 1) := by decide +kernel
def fM_putNumber (a1 : Int64) (a3 : Int64) (z : lc_S) : Option ((Unit) × lc_S) :=
  lc_bnd (fV_isNumber a3 z) (fun r1 z1 => if r1 = 0 then (some ((), lcUI z1 19 3 4)) else (lc_bnd (fM_isLivingCell a1 z1) (fun r17 z17 => if r17 = 0 then (some ((), z17)) else (lc_bnd (fV_wordOf a1 z17) (fun r28 z28 => lc_bnd (fV_wordOf a3 z28) (fun r32 z32 => lc_bnd (fY_putNumber r28 r32 z32) (fun r35 z35 => lc_bnd (fM_end a1 z35) (fun r40 z40 => some ((), z40)))))))))
set_option maxHeartbeats 4000000 in
set_option maxRecDepth 100000 in
theorem cM_putNumber (l : Launch) (G : lc_G) {a1 : Int64} {a3 : Int64} {r : Unit} {z z' : lc_S} (hf : fM_putNumber a1 a3 z = some (r, z')) : lc_M l G yM_putNumber wM_putNumber 2 [.ref (lc_ad G 19), .long a1, .long a3] z none z' := by
  refine lc_M_of (cc := prog_3_method_20_code) (maxL := 5) (ret := none) (own := "LinearCells$Machine") (by decide) rfl (fun w h => List.mem_cons_of_mem _ h) (Nat.le_of_ble_eq_true rfl) rfl ?_
  intro p e s m below meth c hx hb hml hr hlocks hown hts hE ls hl hH
  replace hl : lv_has ls 5 [(0, .ref (lc_ad G 19)), (1, .long a1), (3, .long a3)] := hl
  rw [fM_putNumber] at hf
  refine lv_lload_n hx hb dM_putNumber_0 rfl (lv_at hl 2 rfl) ?_
  obtain ⟨r1, z1, h1, hf⟩ := lc_bnd_some hf
  refine lc_calli (va_runS (As := [.long a3]) (rest := []) ⟨hx, hb, hml, hown, hts⟩ (cV_isNumber l G h1) (lc_cwS hts ksM_143 (lc_room (by decide) (by decide))) (lc_preS hE hH _) rfl rfl hl.1 rfl (lv_room (Nat.le_of_ble_eq_true rfl)) dM_putNumber_1 ⟨Nat.zero_le _, Nat.zero_le _⟩) hH (fun H locs hH => ?_)
  refine lv_if_ne (tgt := 15) hx hb dM_putNumber_4 (by decide) (fun hc => ?_) (fun hc => ?_)
  · replace hf := lc_ite_neg hc hf
    refine lv_aload_n hx hb dM_putNumber_15 rfl (lv_at hl 0 rfl) ?_
    refine lv_lload_n hx hb dM_putNumber_16 rfl (lv_at hl 1 rfl) ?_
    obtain ⟨r17, z17, h17, hf⟩ := lc_bnd_some hf
    refine lc_calli (va_runV (As := [.long a1]) (rest := []) ⟨hx, hb, hml, hown, hts⟩ (cM_isLivingCell l G h17) (lc_cwV hts kvM_175 (lc_room (by decide) (by decide))) (lc_preV hE hH lc_h19 rfl _) rfl rfl hl.1 rfl (lv_room (Nat.le_of_ble_eq_true rfl)) dM_putNumber_17 ⟨Nat.zero_le _, Nat.zero_le _⟩) hH (fun H locs hH => ?_)
    refine lv_if_eq (tgt := 43) hx hb dM_putNumber_20 (by decide) (fun hc => ?_) (fun hc => ?_)
    · replace hf := lc_ite_pos hc hf
      exact lc_vret hx hb hr hlocks hH hf dM_putNumber_43
    · replace hf := lc_ite_neg hc hf
      refine lv_aload_n hx hb dM_putNumber_23 rfl (lv_at hl 0 rfl) ?_
      refine lc_getf (d := 1) (q := 20) hx hb hts hown hE hH flM_16 lc_h19 rfl rfl dM_putNumber_24 ?_
      refine lv_lload_n hx hb dM_putNumber_27 rfl (lv_at hl 1 rfl) ?_
      obtain ⟨r28, z28, h28, hf⟩ := lc_bnd_some hf
      refine lc_calli (va_runS (As := [.long a1]) (rest := [.ref (lc_ad G 20)]) ⟨hx, hb, hml, hown, hts⟩ (cV_wordOf l G h28) (lc_cwS hts ksM_57 (lc_room (by decide) (by decide))) (lc_preS hE hH _) rfl rfl hl.1 rfl (lv_room (Nat.le_of_ble_eq_true rfl)) dM_putNumber_28 ⟨Nat.zero_le _, Nat.zero_le _⟩) hH (fun H locs hH => ?_)
      refine lv_lload_n hx hb dM_putNumber_31 rfl (lv_at hl 2 rfl) ?_
      obtain ⟨r32, z32, h32, hf⟩ := lc_bnd_some hf
      refine lc_calli (va_runS (As := [.long a3]) (rest := [.int r28, .ref (lc_ad G 20)]) ⟨hx, hb, hml, hown, hts⟩ (cV_wordOf l G h32) (lc_cwS hts ksM_57 (lc_room (by decide) (by decide))) (lc_preS hE hH _) rfl rfl hl.1 rfl (lv_room (Nat.le_of_ble_eq_true rfl)) dM_putNumber_32 ⟨Nat.zero_le _, Nat.zero_le _⟩) hH (fun H locs hH => ?_)
      obtain ⟨r35, z35, h35, hf⟩ := lc_bnd_some hf
      refine lc_callv (va_runV (As := [.int r28, .int r32]) (rest := []) ⟨hx, hb, hml, hown, hts⟩ (cY_putNumber l G h35) (lc_cwV hts kvM_185 (lc_room (by decide) (by decide))) (lc_preV hE hH lc_h20 rfl _) rfl rfl hl.1 rfl (lv_room (Nat.le_of_ble_eq_true rfl)) dM_putNumber_35 ⟨Nat.zero_le _, Nat.zero_le _⟩) hH (fun H locs hH => ?_)
      refine lv_aload_n hx hb dM_putNumber_38 rfl (lv_at hl 0 rfl) ?_
      refine lv_lload_n hx hb dM_putNumber_39 rfl (lv_at hl 1 rfl) ?_
      obtain ⟨r40, z40, h40, hf⟩ := lc_bnd_some hf
      refine lc_callv (va_runV (As := [.long a1]) (rest := []) ⟨hx, hb, hml, hown, hts⟩ (cM_end l G h40) (lc_cwV hts kvM_110 (lc_room (by decide) (by decide))) (lc_preV hE hH lc_h19 rfl _) rfl rfl hl.1 rfl (lv_room (Nat.le_of_ble_eq_true rfl)) dM_putNumber_40 ⟨Nat.zero_le _, Nat.zero_le _⟩) hH (fun H locs hH => ?_)
      exact lc_vret hx hb hr hlocks hH hf dM_putNumber_43
  · replace hf := lc_ite_pos hc hf
    refine lv_aload_n hx hb dM_putNumber_7 rfl (lv_at hl 0 rfl) ?_
    refine lv_iconst (v := 4) hx hb dM_putNumber_8 (by decide) ?_
    refine lc_puti hx hb hts hown hE hH fpM_70 lc_h19 rfl rfl rfl dM_putNumber_9 (fun H locs hH => ?_)
    refine lv_goto (tgt := 43) hx hb dM_putNumber_12 (by decide) ?_
    exact lc_vret hx hb hr hlocks hH hf dM_putNumber_43
theorem dM_numberOf_0 : decode prog_3_method_24_code 0 = .ok (.iload_n 0, 1) := by decide +kernel
theorem dM_numberOf_1 : decode prog_3_method_24_code 1 = .ok (.tableswitch 43 42 45 #[39, 31, 43, 35], 31) := by decide +kernel
theorem dM_numberOf_32 : decode prog_3_method_24_code 32 = .ok (.iload_n 1, 1) := by decide +kernel
theorem dM_numberOf_33 : decode prog_3_method_24_code 33 = .ok (.iload_n 2, 1) := by decide +kernel
theorem dM_numberOf_34 : decode prog_3_method_24_code 34 = .ok (.iadd, 1) := by decide +kernel
theorem dM_numberOf_35 : decode prog_3_method_24_code 35 = .ok (.ireturn, 1) := by decide +kernel
theorem dM_numberOf_36 : decode prog_3_method_24_code 36 = .ok (.iload_n 1, 1) := by decide +kernel
theorem dM_numberOf_37 : decode prog_3_method_24_code 37 = .ok (.iload_n 2, 1) := by decide +kernel
theorem dM_numberOf_38 : decode prog_3_method_24_code 38 = .ok (.isub, 1) := by decide +kernel
theorem dM_numberOf_39 : decode prog_3_method_24_code 39 = .ok (.ireturn, 1) := by decide +kernel
theorem dM_numberOf_40 : decode prog_3_method_24_code 40 = .ok (.iload_n 1, 1) := by decide +kernel
theorem dM_numberOf_41 : decode prog_3_method_24_code 41 = .ok (.iload_n 2, 1) := by decide +kernel
theorem dM_numberOf_42 : decode prog_3_method_24_code 42 = .ok (.imul, 1) := by decide +kernel
theorem dM_numberOf_43 : decode prog_3_method_24_code 43 = .ok (.ireturn, 1) := by decide +kernel
theorem dM_numberOf_44 : decode prog_3_method_24_code 44 = .ok (.iload_n 1, 1) := by decide +kernel
theorem dM_numberOf_45 : decode prog_3_method_24_code 45 = .ok (.iload_n 2, 1) := by decide +kernel
theorem dM_numberOf_46 : decode prog_3_method_24_code 46 = .ok (.if_icmp .ge 7, 3) := by decide +kernel
theorem dM_numberOf_49 : decode prog_3_method_24_code 49 = .ok (.iconst 1, 1) := by decide +kernel
theorem dM_numberOf_50 : decode prog_3_method_24_code 50 = .ok (.goto 4, 3) := by decide +kernel
theorem dM_numberOf_53 : decode prog_3_method_24_code 53 = .ok (.iconst 0, 1) := by decide +kernel
theorem dM_numberOf_54 : decode prog_3_method_24_code 54 = .ok (.ireturn, 1) := by decide +kernel
def fM_numberOf_44 (x1 : Int32) (x2 : Int32) (z : lc_S) : Option ((Int32) × lc_S) :=
  if x2 ≤ x1 then (some (0, z)) else (some (1, z))
def fM_numberOf (a0 : Int32) (a1 : Int32) (a2 : Int32) (z : lc_S) : Option ((Int32) × lc_S) :=
  if a0 = 42 then (some (a1 * a2, z)) else (if a0 = 43 then (some (a1 + a2, z)) else (if a0 = 44 then (fM_numberOf_44 a1 a2 z) else (if a0 = 45 then (some (a1 - a2, z)) else (fM_numberOf_44 a1 a2 z))))
set_option maxHeartbeats 4000000 in
set_option maxRecDepth 100000 in
theorem bM_numberOf_44 {p : Program} {l : Launch} {e : Env} {s : State} {m : MethodId} {args : Array Value} {below : List Frame} {meth : Method} {c : Code} {G : lc_G} (hx : p.tables.exec = Jvm.exec) (hb : c.code = prog_3_method_24_code) (hml : c.maxLocals = 3) (hr : meth.sig.returnType = (some .int)) (hlocks : meth.locks = false) (hown : s.vm.findClass "LinearCells$Machine" = some m.cls) (hts : ∀ w ∈ lc_ALL, w.before args s = true) (hE : lc_E G s) {r : Int32} {z' : lc_S} : ∀ {x1 : Int32} {x2 : Int32} {z : lc_S} {H : Heap} {locs : List Loc} {ls : Array Slot}, fM_numberOf_44 x1 x2 z = some (r, z') → lv_has ls 3 [(1, .int x1), (2, .int x2)] → lc_H G z s.heap H locs → W p l e (lc_rm 0) s m args below meth c H locs 0 0 (MQ below (lc_Q G (some (.int r)) z') args s 0 0 (lc_A G)) (F0 m 44 ls []) := by
  intro x1 x2 z H locs ls hf hl hH
  rw [fM_numberOf_44] at hf
  refine lv_iload_n hx hb dM_numberOf_44 rfl (lv_at hl 0 rfl) ?_
  refine lv_iload_n hx hb dM_numberOf_45 rfl (lv_at hl 1 rfl) ?_
  refine lv_icmp_ge (tgt := 53) hx hb dM_numberOf_46 (by decide) (fun hc => ?_) (fun hc => ?_)
  · replace hf := lc_ite_pos hc hf
    refine lv_iconst (v := 0) hx hb dM_numberOf_53 (by decide) ?_
    exact lc_iret hx hb hr hlocks hH hf dM_numberOf_54
  · replace hf := lc_ite_neg hc hf
    refine lv_iconst (v := 1) hx hb dM_numberOf_49 (by decide) ?_
    refine lv_goto (tgt := 54) hx hb dM_numberOf_50 (by decide) ?_
    exact lc_iret hx hb hr hlocks hH hf dM_numberOf_54
set_option maxHeartbeats 4000000 in
set_option maxRecDepth 100000 in
theorem cM_numberOf (l : Launch) (G : lc_G) {a0 : Int32} {a1 : Int32} {a2 : Int32} {r : Int32} {z z' : lc_S} (hf : fM_numberOf a0 a1 a2 z = some (r, z')) : lc_M l G yM_numberOf wM_numberOf 0 [.int a0, .int a1, .int a2] z (some (.int r)) z' := by
  refine lc_M_of (cc := prog_3_method_24_code) (maxL := 3) (ret := (some .int)) (own := "LinearCells$Machine") (by decide) rfl (fun w h => List.mem_cons_of_mem _ h) (Nat.le_of_ble_eq_true rfl) rfl ?_
  intro p e s m below meth c hx hb hml hr hlocks hown hts hE ls hl hH
  replace hl : lv_has ls 3 [(0, .int a0), (1, .int a1), (2, .int a2)] := hl
  rw [fM_numberOf] at hf
  refine lv_iload_n hx hb dM_numberOf_0 rfl (lv_at hl 0 rfl) ?_
  by_cases hc42 : a0 = 42
  · replace hf := lc_ite_pos hc42 hf
    refine lv_tableIn (tgt := 40) hx hb dM_numberOf_1 (by rw [hc42]; decide) (by rw [hc42]; decide) (by rw [hc42] <;> rfl) (by decide) ?_
    refine lv_iload_n hx hb dM_numberOf_40 rfl (lv_at hl 1 rfl) ?_
    refine lv_iload_n hx hb dM_numberOf_41 rfl (lv_at hl 2 rfl) ?_
    refine lv_imul hx hb dM_numberOf_42 ?_
    exact lc_iret hx hb hr hlocks hH hf dM_numberOf_43
  replace hf := lc_ite_neg hc42 hf
  by_cases hc43 : a0 = 43
  · replace hf := lc_ite_pos hc43 hf
    refine lv_tableIn (tgt := 32) hx hb dM_numberOf_1 (by rw [hc43]; decide) (by rw [hc43]; decide) (by rw [hc43] <;> rfl) (by decide) ?_
    refine lv_iload_n hx hb dM_numberOf_32 rfl (lv_at hl 1 rfl) ?_
    refine lv_iload_n hx hb dM_numberOf_33 rfl (lv_at hl 2 rfl) ?_
    refine lv_iadd hx hb dM_numberOf_34 ?_
    exact lc_iret hx hb hr hlocks hH hf dM_numberOf_35
  replace hf := lc_ite_neg hc43 hf
  by_cases hc44 : a0 = 44
  · replace hf := lc_ite_pos hc44 hf
    refine lv_tableIn (tgt := 44) hx hb dM_numberOf_1 (by rw [hc44]; decide) (by rw [hc44]; decide) (by rw [hc44] <;> rfl) (by decide) ?_
    exact bM_numberOf_44 hx hb hml hr hlocks hown hts hE hf (lv_sub hl [1, 2] rfl) hH
  replace hf := lc_ite_neg hc44 hf
  by_cases hc45 : a0 = 45
  · replace hf := lc_ite_pos hc45 hf
    refine lv_tableIn (tgt := 36) hx hb dM_numberOf_1 (by rw [hc45]; decide) (by rw [hc45]; decide) (by rw [hc45] <;> rfl) (by decide) ?_
    refine lv_iload_n hx hb dM_numberOf_36 rfl (lv_at hl 1 rfl) ?_
    refine lv_iload_n hx hb dM_numberOf_37 rfl (lv_at hl 2 rfl) ?_
    refine lv_isub hx hb dM_numberOf_38 ?_
    exact lc_iret hx hb hr hlocks hH hf dM_numberOf_39
  replace hf := lc_ite_neg hc45 hf
  have nhc42 := lv_neT (a := 42) hc42 (by decide)
  have nhc43 := lv_neT (a := 43) hc43 (by decide)
  have nhc44 := lv_neT (a := 44) hc44 (by decide)
  have nhc45 := lv_neT (a := 45) hc45 (by decide)
  refine lv_tableOut (tgt := 44) hx hb dM_numberOf_1 (by omega) (by decide) ?_
  exact bM_numberOf_44 hx hb hml hr hlocks hown hts hE hf (lv_sub hl [1, 2] rfl) hH
theorem dM_calculate_0 : decode prog_3_method_23_code 0 = .ok (.lload_n 2, 1) := by decide +kernel
theorem dM_calculate_1 : decode prog_3_method_23_code 1 = .ok (.invokestatic 143, 3) := by decide +kernel
theorem dM_calculate_4 : decode prog_3_method_23_code 4 = .ok (.ifCond .eq 11, 3) := by decide +kernel
theorem dM_calculate_7 : decode prog_3_method_23_code 7 = .ok (.lload 4, 2) := by decide +kernel
theorem dM_calculate_9 : decode prog_3_method_23_code 9 = .ok (.invokestatic 143, 3) := by decide +kernel
theorem dM_calculate_12 : decode prog_3_method_23_code 12 = .ok (.ifCond .ne 9, 3) := by decide +kernel
theorem dM_calculate_15 : decode prog_3_method_23_code 15 = .ok (.aload_n 0, 1) := by decide +kernel
theorem dM_calculate_16 : decode prog_3_method_23_code 16 = .ok (.iconst 4, 1) := by decide +kernel
theorem dM_calculate_17 : decode prog_3_method_23_code 17 = .ok (.putfield 70, 3) := by decide +kernel
theorem dM_calculate_20 : decode prog_3_method_23_code 20 = .ok (.return_, 1) := by decide +kernel
theorem dM_calculate_21 : decode prog_3_method_23_code 21 = .ok (.iload_n 1, 1) := by decide +kernel
theorem dM_calculate_22 : decode prog_3_method_23_code 22 = .ok (.lload_n 2, 1) := by decide +kernel
theorem dM_calculate_23 : decode prog_3_method_23_code 23 = .ok (.invokestatic 57, 3) := by decide +kernel
theorem dM_calculate_26 : decode prog_3_method_23_code 26 = .ok (.lload 4, 2) := by decide +kernel
theorem dM_calculate_28 : decode prog_3_method_23_code 28 = .ok (.invokestatic 57, 3) := by decide +kernel
theorem dM_calculate_31 : decode prog_3_method_23_code 31 = .ok (.invokestatic 198, 3) := by decide +kernel
theorem dM_calculate_34 : decode prog_3_method_23_code 34 = .ok (.istore 6, 2) := by decide +kernel
theorem dM_calculate_36 : decode prog_3_method_23_code 36 = .ok (.aload_n 0, 1) := by decide +kernel
theorem dM_calculate_37 : decode prog_3_method_23_code 37 = .ok (.iconst 1, 1) := by decide +kernel
theorem dM_calculate_38 : decode prog_3_method_23_code 38 = .ok (.iload 6, 2) := by decide +kernel
theorem dM_calculate_40 : decode prog_3_method_23_code 40 = .ok (.invokestatic 76, 3) := by decide +kernel
theorem dM_calculate_43 : decode prog_3_method_23_code 43 = .ok (.invokevirtual 110, 3) := by decide +kernel
theorem dM_calculate_46 : decode prog_3_method_23_code 46 = .ok (.return_, 1) := by decide +kernel
def fM_calculate_15 (z : lc_S) : Option ((Unit) × lc_S) :=
  some ((), lcUI z 19 3 4)
def fM_calculate (a1 : Int32) (a2 : Int64) (a4 : Int64) (z : lc_S) : Option ((Unit) × lc_S) :=
  lc_bnd (fV_isNumber a2 z) (fun r1 z1 => if r1 = 0 then (fM_calculate_15 z1) else (lc_bnd (fV_isNumber a4 z1) (fun r9 z9 => if r9 = 0 then (fM_calculate_15 z9) else (lc_bnd (fV_wordOf a2 z9) (fun r23 z23 => lc_bnd (fV_wordOf a4 z23) (fun r28 z28 => lc_bnd (fM_numberOf a1 r23 r28 z28) (fun r31 z31 => lc_bnd (fV_of 1 r31 z31) (fun r40 z40 => lc_bnd (fM_end r40 z40) (fun r43 z43 => some ((), z43))))))))))
set_option maxHeartbeats 4000000 in
set_option maxRecDepth 100000 in
theorem bM_calculate_15 {p : Program} {l : Launch} {e : Env} {s : State} {m : MethodId} {args : Array Value} {below : List Frame} {meth : Method} {c : Code} {G : lc_G} (hx : p.tables.exec = Jvm.exec) (hb : c.code = prog_3_method_23_code) (hml : c.maxLocals = 7) (hr : meth.sig.returnType = none) (hlocks : meth.locks = false) (hown : s.vm.findClass "LinearCells$Machine" = some m.cls) (hts : ∀ w ∈ lc_ALL, w.before args s = true) (hE : lc_E G s) {r : Unit} {z' : lc_S} : ∀ {z : lc_S} {H : Heap} {locs : List Loc} {ls : Array Slot}, fM_calculate_15 z = some (r, z') → lv_has ls 7 [(0, .ref (lc_ad G 19))] → lc_H G z s.heap H locs → W p l e (lc_rm 1) s m args below meth c H locs 0 0 (MQ below (lc_Q G none z') args s 0 0 (lc_A G)) (F0 m 15 ls []) := by
  intro z H locs ls hf hl hH
  rw [fM_calculate_15] at hf
  refine lv_aload_n hx hb dM_calculate_15 rfl (lv_at hl 0 rfl) ?_
  refine lv_iconst (v := 4) hx hb dM_calculate_16 (by decide) ?_
  refine lc_puti hx hb hts hown hE hH fpM_70 lc_h19 rfl rfl rfl dM_calculate_17 (fun H locs hH => ?_)
  exact lc_vret hx hb hr hlocks hH hf dM_calculate_20
set_option maxHeartbeats 4000000 in
set_option maxRecDepth 100000 in
theorem cM_calculate (l : Launch) (G : lc_G) {a1 : Int32} {a2 : Int64} {a4 : Int64} {r : Unit} {z z' : lc_S} (hf : fM_calculate a1 a2 a4 z = some (r, z')) : lc_M l G yM_calculate wM_calculate 1 [.ref (lc_ad G 19), .int a1, .long a2, .long a4] z none z' := by
  refine lc_M_of (cc := prog_3_method_23_code) (maxL := 7) (ret := none) (own := "LinearCells$Machine") (by decide) rfl (fun w h => List.mem_cons_of_mem _ h) (Nat.le_of_ble_eq_true rfl) rfl ?_
  intro p e s m below meth c hx hb hml hr hlocks hown hts hE ls hl hH
  replace hl : lv_has ls 7 [(0, .ref (lc_ad G 19)), (1, .int a1), (2, .long a2), (4, .long a4)] := hl
  rw [fM_calculate] at hf
  refine lv_lload_n hx hb dM_calculate_0 rfl (lv_at hl 2 rfl) ?_
  obtain ⟨r1, z1, h1, hf⟩ := lc_bnd_some hf
  refine lc_calli (va_runS (As := [.long a2]) (rest := []) ⟨hx, hb, hml, hown, hts⟩ (cV_isNumber l G h1) (lc_cwS hts ksM_143 (lc_room (by decide) (by decide))) (lc_preS hE hH _) rfl rfl hl.1 rfl (lv_room (Nat.le_of_ble_eq_true rfl)) dM_calculate_1 ⟨Nat.zero_le _, Nat.zero_le _⟩) hH (fun H locs hH => ?_)
  refine lv_if_eq (tgt := 15) hx hb dM_calculate_4 (by decide) (fun hc => ?_) (fun hc => ?_)
  · replace hf := lc_ite_pos hc hf
    exact bM_calculate_15 hx hb hml hr hlocks hown hts hE hf (lv_sub hl [0] rfl) hH
  · replace hf := lc_ite_neg hc hf
    refine lv_lload hx hb dM_calculate_7 (lv_at hl 3 rfl) ?_
    obtain ⟨r9, z9, h9, hf⟩ := lc_bnd_some hf
    refine lc_calli (va_runS (As := [.long a4]) (rest := []) ⟨hx, hb, hml, hown, hts⟩ (cV_isNumber l G h9) (lc_cwS hts ksM_143 (lc_room (by decide) (by decide))) (lc_preS hE hH _) rfl rfl hl.1 rfl (lv_room (Nat.le_of_ble_eq_true rfl)) dM_calculate_9 ⟨Nat.zero_le _, Nat.zero_le _⟩) hH (fun H locs hH => ?_)
    refine lv_if_ne (tgt := 21) hx hb dM_calculate_12 (by decide) (fun hc => ?_) (fun hc => ?_)
    · replace hf := lc_ite_neg hc hf
      refine lv_iload_n hx hb dM_calculate_21 rfl (lv_at hl 1 rfl) ?_
      refine lv_lload_n hx hb dM_calculate_22 rfl (lv_at hl 2 rfl) ?_
      obtain ⟨r23, z23, h23, hf⟩ := lc_bnd_some hf
      refine lc_calli (va_runS (As := [.long a2]) (rest := [.int a1]) ⟨hx, hb, hml, hown, hts⟩ (cV_wordOf l G h23) (lc_cwS hts ksM_57 (lc_room (by decide) (by decide))) (lc_preS hE hH _) rfl rfl hl.1 rfl (lv_room (Nat.le_of_ble_eq_true rfl)) dM_calculate_23 ⟨Nat.zero_le _, Nat.zero_le _⟩) hH (fun H locs hH => ?_)
      refine lv_lload hx hb dM_calculate_26 (lv_at hl 3 rfl) ?_
      obtain ⟨r28, z28, h28, hf⟩ := lc_bnd_some hf
      refine lc_calli (va_runS (As := [.long a4]) (rest := [.int r23, .int a1]) ⟨hx, hb, hml, hown, hts⟩ (cV_wordOf l G h28) (lc_cwS hts ksM_57 (lc_room (by decide) (by decide))) (lc_preS hE hH _) rfl rfl hl.1 rfl (lv_room (Nat.le_of_ble_eq_true rfl)) dM_calculate_28 ⟨Nat.zero_le _, Nat.zero_le _⟩) hH (fun H locs hH => ?_)
      obtain ⟨r31, z31, h31, hf⟩ := lc_bnd_some hf
      refine lc_calli (va_runS (As := [.int a1, .int r23, .int r28]) (rest := []) ⟨hx, hb, hml, hown, hts⟩ (cM_numberOf l G h31) (lc_cwS hts ksM_198 (lc_room (by decide) (by decide))) (lc_preS hE hH _) rfl rfl hl.1 rfl (lv_room (Nat.le_of_ble_eq_true rfl)) dM_calculate_31 ⟨Nat.zero_le _, Nat.zero_le _⟩) hH (fun H locs hH => ?_)
      refine lv_istore hx hb dM_calculate_34 hl (by decide) rfl (fun ls hl => ?_)
      replace hl : lv_has ls 7 [(6, .int r31), (0, .ref (lc_ad G 19)), (1, .int a1), (2, .long a2), (4, .long a4)] := hl
      refine lv_aload_n hx hb dM_calculate_36 rfl (lv_at hl 1 rfl) ?_
      refine lv_iconst (v := 1) hx hb dM_calculate_37 (by decide) ?_
      refine lv_iload hx hb dM_calculate_38 (lv_at hl 0 rfl) ?_
      obtain ⟨r40, z40, h40, hf⟩ := lc_bnd_some hf
      refine lc_calll (va_runS (As := [.int 1, .int r31]) (rest := [.ref (lc_ad G 19)]) ⟨hx, hb, hml, hown, hts⟩ (cV_of l G h40) (lc_cwS hts ksM_76 (lc_room (by decide) (by decide))) (lc_preS hE hH _) rfl rfl hl.1 rfl (lv_room (Nat.le_of_ble_eq_true rfl)) dM_calculate_40 ⟨Nat.zero_le _, Nat.zero_le _⟩) hH (fun H locs hH => ?_)
      obtain ⟨r43, z43, h43, hf⟩ := lc_bnd_some hf
      refine lc_callv (va_runV (As := [.long r40]) (rest := []) ⟨hx, hb, hml, hown, hts⟩ (cM_end l G h43) (lc_cwV hts kvM_110 (lc_room (by decide) (by decide))) (lc_preV hE hH lc_h19 rfl _) rfl rfl hl.1 rfl (lv_room (Nat.le_of_ble_eq_true rfl)) dM_calculate_43 ⟨Nat.zero_le _, Nat.zero_le _⟩) hH (fun H locs hH => ?_)
      exact lc_vret hx hb hr hlocks hH hf dM_calculate_46
    · replace hf := lc_ite_pos hc hf
      exact bM_calculate_15 hx hb hml hr hlocks hown hts hE hf (lv_sub hl [0] rfl) hH
theorem dM_finish_0 : decode prog_3_method_16_code 0 = .ok (.iload_n 1, 1) := by decide +kernel
theorem dM_finish_1 : decode prog_3_method_16_code 1 = .ok (.lookupswitch 139 #[(44, 129), (47, 83), (58, 83), (63, 83), (64, 83), (100, 110), (103, 101), (110, 92), (112, 119)], 83) := by decide +kernel
theorem dM_finish_84 : decode prog_3_method_16_code 84 = .ok (.aload_n 0, 1) := by decide +kernel
theorem dM_finish_85 : decode prog_3_method_16_code 85 = .ok (.lload 4, 2) := by decide +kernel
theorem dM_finish_87 : decode prog_3_method_16_code 87 = .ok (.invokevirtual 110, 3) := by decide +kernel
theorem dM_finish_90 : decode prog_3_method_16_code 90 = .ok (.goto 58, 3) := by decide +kernel
theorem dM_finish_93 : decode prog_3_method_16_code 93 = .ok (.aload_n 0, 1) := by decide +kernel
theorem dM_finish_94 : decode prog_3_method_16_code 94 = .ok (.lload 4, 2) := by decide +kernel
theorem dM_finish_96 : decode prog_3_method_16_code 96 = .ok (.invokevirtual 152, 3) := by decide +kernel
theorem dM_finish_99 : decode prog_3_method_16_code 99 = .ok (.goto 49, 3) := by decide +kernel
theorem dM_finish_102 : decode prog_3_method_16_code 102 = .ok (.aload_n 0, 1) := by decide +kernel
theorem dM_finish_103 : decode prog_3_method_16_code 103 = .ok (.lload 4, 2) := by decide +kernel
theorem dM_finish_105 : decode prog_3_method_16_code 105 = .ok (.invokevirtual 155, 3) := by decide +kernel
theorem dM_finish_108 : decode prog_3_method_16_code 108 = .ok (.goto 40, 3) := by decide +kernel
theorem dM_finish_111 : decode prog_3_method_16_code 111 = .ok (.aload_n 0, 1) := by decide +kernel
theorem dM_finish_112 : decode prog_3_method_16_code 112 = .ok (.lload 4, 2) := by decide +kernel
theorem dM_finish_114 : decode prog_3_method_16_code 114 = .ok (.invokevirtual 158, 3) := by decide +kernel
theorem dM_finish_117 : decode prog_3_method_16_code 117 = .ok (.goto 31, 3) := by decide +kernel
theorem dM_finish_120 : decode prog_3_method_16_code 120 = .ok (.aload_n 0, 1) := by decide +kernel
theorem dM_finish_121 : decode prog_3_method_16_code 121 = .ok (.lload_n 2, 1) := by decide +kernel
theorem dM_finish_122 : decode prog_3_method_16_code 122 = .ok (.lload 4, 2) := by decide +kernel
theorem dM_finish_124 : decode prog_3_method_16_code 124 = .ok (.invokevirtual 161, 3) := by decide +kernel
theorem dM_finish_127 : decode prog_3_method_16_code 127 = .ok (.goto 21, 3) := by decide +kernel
theorem dM_finish_130 : decode prog_3_method_16_code 130 = .ok (.aload_n 0, 1) := by decide +kernel
theorem dM_finish_131 : decode prog_3_method_16_code 131 = .ok (.lload_n 2, 1) := by decide +kernel
theorem dM_finish_132 : decode prog_3_method_16_code 132 = .ok (.lload 4, 2) := by decide +kernel
theorem dM_finish_134 : decode prog_3_method_16_code 134 = .ok (.invokevirtual 165, 3) := by decide +kernel
theorem dM_finish_137 : decode prog_3_method_16_code 137 = .ok (.goto 11, 3) := by decide +kernel
theorem dM_finish_140 : decode prog_3_method_16_code 140 = .ok (.aload_n 0, 1) := by decide +kernel
theorem dM_finish_141 : decode prog_3_method_16_code 141 = .ok (.iload_n 1, 1) := by decide +kernel
theorem dM_finish_142 : decode prog_3_method_16_code 142 = .ok (.lload_n 2, 1) := by decide +kernel
theorem dM_finish_143 : decode prog_3_method_16_code 143 = .ok (.lload 4, 2) := by decide +kernel
theorem dM_finish_145 : decode prog_3_method_16_code 145 = .ok (.invokevirtual 168, 3) := by decide +kernel
theorem dM_finish_148 : decode prog_3_method_16_code 148 = .ok (.return_, 1) := by decide +kernel
def fM_finish_84 (x4 : Int64) (z : lc_S) : Option ((Unit) × lc_S) :=
  lc_bnd (fM_end x4 z) (fun r87 z87 => some ((), z87))
def fM_finish (a1 : Int32) (a2 : Int64) (a4 : Int64) (z : lc_S) : Option ((Unit) × lc_S) :=
  if a1 = 44 then (lc_bnd (fM_makePair a2 a4 z) (fun r134 z134 => some ((), z134))) else (if a1 = 47 then (fM_finish_84 a4 z) else (if a1 = 58 then (fM_finish_84 a4 z) else (if a1 = 63 then (fM_finish_84 a4 z) else (if a1 = 64 then (fM_finish_84 a4 z) else (if a1 = 100 then (lc_bnd (fM_freeCell a4 z) (fun r114 z114 => some ((), z114))) else (if a1 = 103 then (lc_bnd (fM_getNumber a4 z) (fun r105 z105 => some ((), z105))) else (if a1 = 110 then (lc_bnd (fM_makeCell a4 z) (fun r96 z96 => some ((), z96))) else (if a1 = 112 then (lc_bnd (fM_putNumber a2 a4 z) (fun r124 z124 => some ((), z124))) else (lc_bnd (fM_calculate a1 a2 a4 z) (fun r145 z145 => some ((), z145)))))))))))
set_option maxHeartbeats 4000000 in
set_option maxRecDepth 100000 in
theorem bM_finish_84 {p : Program} {l : Launch} {e : Env} {s : State} {m : MethodId} {args : Array Value} {below : List Frame} {meth : Method} {c : Code} {G : lc_G} (hx : p.tables.exec = Jvm.exec) (hb : c.code = prog_3_method_16_code) (hml : c.maxLocals = 6) (hr : meth.sig.returnType = none) (hlocks : meth.locks = false) (hown : s.vm.findClass "LinearCells$Machine" = some m.cls) (hts : ∀ w ∈ lc_ALL, w.before args s = true) (hE : lc_E G s) {r : Unit} {z' : lc_S} : ∀ {x4 : Int64} {z : lc_S} {H : Heap} {locs : List Loc} {ls : Array Slot}, fM_finish_84 x4 z = some (r, z') → lv_has ls 6 [(0, .ref (lc_ad G 19)), (4, .long x4)] → lc_H G z s.heap H locs → W p l e (lc_rm 3) s m args below meth c H locs 0 0 (MQ below (lc_Q G none z') args s 0 0 (lc_A G)) (F0 m 84 ls []) := by
  intro x4 z H locs ls hf hl hH
  rw [fM_finish_84] at hf
  refine lv_aload_n hx hb dM_finish_84 rfl (lv_at hl 0 rfl) ?_
  refine lv_lload hx hb dM_finish_85 (lv_at hl 1 rfl) ?_
  obtain ⟨r87, z87, h87, hf⟩ := lc_bnd_some hf
  refine lc_callv (va_runV (As := [.long x4]) (rest := []) ⟨hx, hb, hml, hown, hts⟩ (cM_end l G h87) (lc_cwV hts kvM_110 (lc_room (by decide) (by decide))) (lc_preV hE hH lc_h19 rfl _) rfl rfl hl.1 rfl (lv_room (Nat.le_of_ble_eq_true rfl)) dM_finish_87 ⟨Nat.zero_le _, Nat.zero_le _⟩) hH (fun H locs hH => ?_)
  refine lv_goto (tgt := 148) hx hb dM_finish_90 (by decide) ?_
  exact lc_vret hx hb hr hlocks hH hf dM_finish_148
set_option maxHeartbeats 4000000 in
set_option maxRecDepth 100000 in
theorem cM_finish (l : Launch) (G : lc_G) {a1 : Int32} {a2 : Int64} {a4 : Int64} {r : Unit} {z z' : lc_S} (hf : fM_finish a1 a2 a4 z = some (r, z')) : lc_M l G yM_finish wM_finish 3 [.ref (lc_ad G 19), .int a1, .long a2, .long a4] z none z' := by
  refine lc_M_of (cc := prog_3_method_16_code) (maxL := 6) (ret := none) (own := "LinearCells$Machine") (by decide) rfl (fun w h => List.mem_cons_of_mem _ h) (Nat.le_of_ble_eq_true rfl) rfl ?_
  intro p e s m below meth c hx hb hml hr hlocks hown hts hE ls hl hH
  replace hl : lv_has ls 6 [(0, .ref (lc_ad G 19)), (1, .int a1), (2, .long a2), (4, .long a4)] := hl
  rw [fM_finish] at hf
  refine lv_iload_n hx hb dM_finish_0 rfl (lv_at hl 1 rfl) ?_
  by_cases hc44 : a1 = 44
  · replace hf := lc_ite_pos hc44 hf
    refine lv_lookup (tgt := 130) (off := 129) hx hb dM_finish_1 (by decide) (by rw [hc44] <;> rfl) (by decide) ?_
    refine lv_aload_n hx hb dM_finish_130 rfl (lv_at hl 0 rfl) ?_
    refine lv_lload_n hx hb dM_finish_131 rfl (lv_at hl 2 rfl) ?_
    refine lv_lload hx hb dM_finish_132 (lv_at hl 3 rfl) ?_
    obtain ⟨r134, z134, h134, hf⟩ := lc_bnd_some hf
    refine lc_callv (va_runV (As := [.long a2, .long a4]) (rest := []) ⟨hx, hb, hml, hown, hts⟩ (cM_makePair l G h134) (lc_cwV hts kvM_165 (lc_room (by decide) (by decide))) (lc_preV hE hH lc_h19 rfl _) rfl rfl hl.1 rfl (lv_room (Nat.le_of_ble_eq_true rfl)) dM_finish_134 ⟨Nat.zero_le _, Nat.zero_le _⟩) hH (fun H locs hH => ?_)
    refine lv_goto (tgt := 148) hx hb dM_finish_137 (by decide) ?_
    exact lc_vret hx hb hr hlocks hH hf dM_finish_148
  replace hf := lc_ite_neg hc44 hf
  by_cases hc47 : a1 = 47
  · replace hf := lc_ite_pos hc47 hf
    refine lv_lookup (tgt := 84) (off := 83) hx hb dM_finish_1 (by decide) (by rw [hc47] <;> rfl) (by decide) ?_
    exact bM_finish_84 hx hb hml hr hlocks hown hts hE hf (lv_sub hl [0, 3] rfl) hH
  replace hf := lc_ite_neg hc47 hf
  by_cases hc58 : a1 = 58
  · replace hf := lc_ite_pos hc58 hf
    refine lv_lookup (tgt := 84) (off := 83) hx hb dM_finish_1 (by decide) (by rw [hc58] <;> rfl) (by decide) ?_
    exact bM_finish_84 hx hb hml hr hlocks hown hts hE hf (lv_sub hl [0, 3] rfl) hH
  replace hf := lc_ite_neg hc58 hf
  by_cases hc63 : a1 = 63
  · replace hf := lc_ite_pos hc63 hf
    refine lv_lookup (tgt := 84) (off := 83) hx hb dM_finish_1 (by decide) (by rw [hc63] <;> rfl) (by decide) ?_
    exact bM_finish_84 hx hb hml hr hlocks hown hts hE hf (lv_sub hl [0, 3] rfl) hH
  replace hf := lc_ite_neg hc63 hf
  by_cases hc64 : a1 = 64
  · replace hf := lc_ite_pos hc64 hf
    refine lv_lookup (tgt := 84) (off := 83) hx hb dM_finish_1 (by decide) (by rw [hc64] <;> rfl) (by decide) ?_
    exact bM_finish_84 hx hb hml hr hlocks hown hts hE hf (lv_sub hl [0, 3] rfl) hH
  replace hf := lc_ite_neg hc64 hf
  by_cases hc100 : a1 = 100
  · replace hf := lc_ite_pos hc100 hf
    refine lv_lookup (tgt := 111) (off := 110) hx hb dM_finish_1 (by decide) (by rw [hc100] <;> rfl) (by decide) ?_
    refine lv_aload_n hx hb dM_finish_111 rfl (lv_at hl 0 rfl) ?_
    refine lv_lload hx hb dM_finish_112 (lv_at hl 3 rfl) ?_
    obtain ⟨r114, z114, h114, hf⟩ := lc_bnd_some hf
    refine lc_callv (va_runV (As := [.long a4]) (rest := []) ⟨hx, hb, hml, hown, hts⟩ (cM_freeCell l G h114) (lc_cwV hts kvM_158 (lc_room (by decide) (by decide))) (lc_preV hE hH lc_h19 rfl _) rfl rfl hl.1 rfl (lv_room (Nat.le_of_ble_eq_true rfl)) dM_finish_114 ⟨Nat.zero_le _, Nat.zero_le _⟩) hH (fun H locs hH => ?_)
    refine lv_goto (tgt := 148) hx hb dM_finish_117 (by decide) ?_
    exact lc_vret hx hb hr hlocks hH hf dM_finish_148
  replace hf := lc_ite_neg hc100 hf
  by_cases hc103 : a1 = 103
  · replace hf := lc_ite_pos hc103 hf
    refine lv_lookup (tgt := 102) (off := 101) hx hb dM_finish_1 (by decide) (by rw [hc103] <;> rfl) (by decide) ?_
    refine lv_aload_n hx hb dM_finish_102 rfl (lv_at hl 0 rfl) ?_
    refine lv_lload hx hb dM_finish_103 (lv_at hl 3 rfl) ?_
    obtain ⟨r105, z105, h105, hf⟩ := lc_bnd_some hf
    refine lc_callv (va_runV (As := [.long a4]) (rest := []) ⟨hx, hb, hml, hown, hts⟩ (cM_getNumber l G h105) (lc_cwV hts kvM_155 (lc_room (by decide) (by decide))) (lc_preV hE hH lc_h19 rfl _) rfl rfl hl.1 rfl (lv_room (Nat.le_of_ble_eq_true rfl)) dM_finish_105 ⟨Nat.zero_le _, Nat.zero_le _⟩) hH (fun H locs hH => ?_)
    refine lv_goto (tgt := 148) hx hb dM_finish_108 (by decide) ?_
    exact lc_vret hx hb hr hlocks hH hf dM_finish_148
  replace hf := lc_ite_neg hc103 hf
  by_cases hc110 : a1 = 110
  · replace hf := lc_ite_pos hc110 hf
    refine lv_lookup (tgt := 93) (off := 92) hx hb dM_finish_1 (by decide) (by rw [hc110] <;> rfl) (by decide) ?_
    refine lv_aload_n hx hb dM_finish_93 rfl (lv_at hl 0 rfl) ?_
    refine lv_lload hx hb dM_finish_94 (lv_at hl 3 rfl) ?_
    obtain ⟨r96, z96, h96, hf⟩ := lc_bnd_some hf
    refine lc_callv (va_runV (As := [.long a4]) (rest := []) ⟨hx, hb, hml, hown, hts⟩ (cM_makeCell l G h96) (lc_cwV hts kvM_152 (lc_room (by decide) (by decide))) (lc_preV hE hH lc_h19 rfl _) rfl rfl hl.1 rfl (lv_room (Nat.le_of_ble_eq_true rfl)) dM_finish_96 ⟨Nat.zero_le _, Nat.zero_le _⟩) hH (fun H locs hH => ?_)
    refine lv_goto (tgt := 148) hx hb dM_finish_99 (by decide) ?_
    exact lc_vret hx hb hr hlocks hH hf dM_finish_148
  replace hf := lc_ite_neg hc110 hf
  by_cases hc112 : a1 = 112
  · replace hf := lc_ite_pos hc112 hf
    refine lv_lookup (tgt := 120) (off := 119) hx hb dM_finish_1 (by decide) (by rw [hc112] <;> rfl) (by decide) ?_
    refine lv_aload_n hx hb dM_finish_120 rfl (lv_at hl 0 rfl) ?_
    refine lv_lload_n hx hb dM_finish_121 rfl (lv_at hl 2 rfl) ?_
    refine lv_lload hx hb dM_finish_122 (lv_at hl 3 rfl) ?_
    obtain ⟨r124, z124, h124, hf⟩ := lc_bnd_some hf
    refine lc_callv (va_runV (As := [.long a2, .long a4]) (rest := []) ⟨hx, hb, hml, hown, hts⟩ (cM_putNumber l G h124) (lc_cwV hts kvM_161 (lc_room (by decide) (by decide))) (lc_preV hE hH lc_h19 rfl _) rfl rfl hl.1 rfl (lv_room (Nat.le_of_ble_eq_true rfl)) dM_finish_124 ⟨Nat.zero_le _, Nat.zero_le _⟩) hH (fun H locs hH => ?_)
    refine lv_goto (tgt := 148) hx hb dM_finish_127 (by decide) ?_
    exact lc_vret hx hb hr hlocks hH hf dM_finish_148
  replace hf := lc_ite_neg hc112 hf
  refine lv_lookup (tgt := 140) (off := 139) hx hb dM_finish_1 (by decide) ((lv_osw hc44 (by decide)).trans ((lv_osw hc47 (by decide)).trans ((lv_osw hc58 (by decide)).trans ((lv_osw hc63 (by decide)).trans ((lv_osw hc64 (by decide)).trans ((lv_osw hc100 (by decide)).trans ((lv_osw hc103 (by decide)).trans ((lv_osw hc110 (by decide)).trans ((lv_osw hc112 (by decide)).trans rfl))))))))) (by decide) ?_
  refine lv_aload_n hx hb dM_finish_140 rfl (lv_at hl 0 rfl) ?_
  refine lv_iload_n hx hb dM_finish_141 rfl (lv_at hl 1 rfl) ?_
  refine lv_lload_n hx hb dM_finish_142 rfl (lv_at hl 2 rfl) ?_
  refine lv_lload hx hb dM_finish_143 (lv_at hl 3 rfl) ?_
  obtain ⟨r145, z145, h145, hf⟩ := lc_bnd_some hf
  refine lc_callv (va_runV (As := [.int a1, .long a2, .long a4]) (rest := []) ⟨hx, hb, hml, hown, hts⟩ (cM_calculate l G h145) (lc_cwV hts kvM_168 (lc_room (by decide) (by decide))) (lc_preV hE hH lc_h19 rfl _) rfl rfl hl.1 rfl (lv_room (Nat.le_of_ble_eq_true rfl)) dM_finish_145 ⟨Nat.zero_le _, Nat.zero_le _⟩) hH (fun H locs hH => ?_)
  exact lc_vret hx hb hr hlocks hH hf dM_finish_148
