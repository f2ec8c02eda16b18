theorem dM_enter_0 : decode prog_3_method_7_code 0 = .ok (.aload_n 0, 1) := by decide +kernel
theorem dM_enter_1 : decode prog_3_method_7_code 1 = .ok (.getfield 64, 3) := by decide +kernel
theorem dM_enter_4 : decode prog_3_method_7_code 4 = .ok (.iload_n 1, 1) := by decide +kernel
theorem dM_enter_5 : decode prog_3_method_7_code 5 = .ok (.aaload, 1) := by decide +kernel
theorem dM_enter_6 : decode prog_3_method_7_code 6 = .ok (.getfield 90, 3) := by decide +kernel
theorem dM_enter_9 : decode prog_3_method_7_code 9 = .ok (.ifCond .ne 11, 3) := by decide +kernel
theorem dM_enter_12 : decode prog_3_method_7_code 12 = .ok (.aload_n 0, 1) := by decide +kernel
theorem dM_enter_13 : decode prog_3_method_7_code 13 = .ok (.iconst 4, 1) := by decide +kernel
theorem dM_enter_14 : decode prog_3_method_7_code 14 = .ok (.putfield 70, 3) := by decide +kernel
theorem dM_enter_17 : decode prog_3_method_7_code 17 = .ok (.goto 49, 3) := by decide +kernel
theorem dM_enter_20 : decode prog_3_method_7_code 20 = .ok (.iload_n 2, 1) := by decide +kernel
theorem dM_enter_21 : decode prog_3_method_7_code 21 = .ok (.bipush 24, 2) := by decide +kernel
theorem dM_enter_23 : decode prog_3_method_7_code 23 = .ok (.if_icmp .le 11, 3) := by decide +kernel
theorem dM_enter_26 : decode prog_3_method_7_code 26 = .ok (.aload_n 0, 1) := by decide +kernel
theorem dM_enter_27 : decode prog_3_method_7_code 27 = .ok (.iconst 3, 1) := by decide +kernel
theorem dM_enter_28 : decode prog_3_method_7_code 28 = .ok (.putfield 70, 3) := by decide +kernel
theorem dM_enter_31 : decode prog_3_method_7_code 31 = .ok (.goto 35, 3) := by decide +kernel
theorem dM_enter_34 : decode prog_3_method_7_code 34 = .ok (.aload_n 0, 1) := by decide +kernel
theorem dM_enter_35 : decode prog_3_method_7_code 35 = .ok (.getfield 22, 3) := by decide +kernel
theorem dM_enter_38 : decode prog_3_method_7_code 38 = .ok (.iload_n 2, 1) := by decide +kernel
theorem dM_enter_39 : decode prog_3_method_7_code 39 = .ok (.aload_n 0, 1) := by decide +kernel
theorem dM_enter_40 : decode prog_3_method_7_code 40 = .ok (.getfield 64, 3) := by decide +kernel
theorem dM_enter_43 : decode prog_3_method_7_code 43 = .ok (.iload_n 1, 1) := by decide +kernel
theorem dM_enter_44 : decode prog_3_method_7_code 44 = .ok (.aaload, 1) := by decide +kernel
theorem dM_enter_45 : decode prog_3_method_7_code 45 = .ok (.aastore, 1) := by decide +kernel
theorem dM_enter_46 : decode prog_3_method_7_code 46 = .ok (.aload_n 0, 1) := by decide +kernel
theorem dM_enter_47 : decode prog_3_method_7_code 47 = .ok (.iload_n 2, 1) := by decide +kernel
theorem dM_enter_48 : decode prog_3_method_7_code 48 = .ok (.iconst 0, 1) := by decide +kernel
theorem dM_enter_49 : decode prog_3_method_7_code 49 = .ok (.invokevirtual 94, 3) := by decide +kernel
theorem dM_enter_52 : decode prog_3_method_7_code 52 = .ok (.aload_n 0, 1) := by decide +kernel
theorem dM_enter_53 : decode prog_3_method_7_code 53 = .ok (.aload_n 0, 1) := by decide +kernel
theorem dM_enter_54 : decode prog_3_method_7_code 54 = .ok (.getfield 64, 3) := by decide +kernel
theorem dM_enter_57 : decode prog_3_method_7_code 57 = .ok (.iload_n 1, 1) := by decide +kernel
theorem dM_enter_58 : decode prog_3_method_7_code 58 = .ok (.aaload, 1) := by decide +kernel
theorem dM_enter_59 : decode prog_3_method_7_code 59 = .ok (.invokevirtual 97, 3) := by decide +kernel
theorem dM_enter_62 : decode prog_3_method_7_code 62 = .ok (.iload_n 2, 1) := by decide +kernel
theorem dM_enter_63 : decode prog_3_method_7_code 63 = .ok (.invokevirtual 101, 3) := by decide +kernel
theorem dM_enter_66 : decode prog_3_method_7_code 66 = .ok (.return_, 1) := by decide +kernel
def fM_enter (a1 : Int32) (a2 : Int32) (z : lc_S) : Option ((Unit) × lc_S) :=
  lc_bnr (lcR z 19 1) (fun q1 => lc_chk (lc_sh q1 = (3, 4, 4)) (lc_chk (lc_in a1 4) (lc_bnr (lcR z q1 a1.toNatClampNeg) (fun q5 => lc_chk (lc_sh q5 = (0, 1, 0)) (if (lcI z q5 0) = 0 then (some ((), lcUI z 19 3 4)) else (if a2 ≤ 24 then (lc_bnr (lcR z 19 1) (fun q40 => lc_chk (lc_sh q40 = (3, 4, 4)) (lc_chk (lc_in a1 4) (lc_bnr (lcR z q40 a1.toNatClampNeg) (fun q44 => lc_chk (lc_in a2 25) (lc_chk (lc_sh q44 = (0, 1, 0)) (lc_bnd (fM_bind a2 0 (lcUR z 29 a2.toNatClampNeg (some q44))) (fun r49 z49 => lc_bnr (lcR z49 19 1) (fun q54 => lc_chk (lc_sh q54 = (3, 4, 4)) (lc_chk (lc_in a1 4) (lc_bnr (lcR z49 q54 a1.toNatClampNeg) (fun q58 => lc_chk (lc_sh q58 = (0, 1, 0)) (lc_bnd (fP_body q58 z49) (fun r59 z59 => lc_bnd (fM_begin r59 a2 z59) (fun r63 z63 => some ((), z63)))))))))))))))) else (some ((), lcUI z 19 3 3))))))))
set_option maxHeartbeats 4000000 in
set_option maxRecDepth 100000 in
theorem cM_enter (l : Launch) (G : lc_G) {a1 : Int32} {a2 : Int32} {r : Unit} {z z' : lc_S} (hf : fM_enter a1 a2 z = some (r, z')) : lc_M l G yM_enter wM_enter 1 [.ref (lc_ad G 19), .int a1, .int a2] z none z' := by
  refine lc_M_of (cc := prog_3_method_7_code) (maxL := 3) (ret := none) (own := "LinearCells$Machine") (by decide) rfl (fun w h => List.mem_cons_of_mem _ h) (Nat.le_of_ble_eq_true rfl) rfl ?_
  intro p e s m below meth c hx hb hml hr hlocks hown hts hE ls hl hH
  replace hl : lv_has ls 3 [(0, .ref (lc_ad G 19)), (1, .int a1), (2, .int a2)] := hl
  rw [fM_enter] at hf
  refine lv_aload_n hx hb dM_enter_0 rfl (lv_at hl 0 rfl) ?_
  obtain ⟨q1, hq1, hf⟩ := lc_bnr_some hf
  refine lc_getr hx hb hts hown hE hH flM_64 lc_h19 rfl hq1 dM_enter_1 ?_
  refine lv_iload_n hx hb dM_enter_4 rfl (lv_at hl 1 rfl) ?_
  obtain ⟨hs5_0, hf⟩ := lc_chk_some hf
  obtain ⟨hi5, hf⟩ := lc_chk_some hf
  obtain ⟨q5, hq5, hf⟩ := lc_bnr_some hf
  refine lc_aald hx hb hE hH hs5_0 rfl hi5 hq5 dM_enter_5 ?_
  obtain ⟨hs6_0, hf⟩ := lc_chk_some hf
  refine lc_geti hx hb hts hown hE hH flM_90 hs6_0 rfl dM_enter_6 ?_
  refine lv_if_ne (tgt := 20) hx hb dM_enter_9 (by decide) (fun hc => ?_) (fun hc => ?_)
  · replace hf := lc_ite_neg hc hf
    refine lv_iload_n hx hb dM_enter_20 rfl (lv_at hl 2 rfl) ?_
    refine lv_bipush (v := 24) hx hb dM_enter_21 (by decide) ?_
    refine lv_icmp_le (tgt := 34) hx hb dM_enter_23 (by decide) (fun hc => ?_) (fun hc => ?_)
    · replace hf := lc_ite_pos hc hf
      refine lv_aload_n hx hb dM_enter_34 rfl (lv_at hl 0 rfl) ?_
      refine lc_getf (d := 10) (q := 29) hx hb hts hown hE hH flM_22 lc_h19 rfl rfl dM_enter_35 ?_
      refine lv_iload_n hx hb dM_enter_38 rfl (lv_at hl 2 rfl) ?_
      refine lv_aload_n hx hb dM_enter_39 rfl (lv_at hl 0 rfl) ?_
      obtain ⟨q40, hq40, hf⟩ := lc_bnr_some hf
      refine lc_getr hx hb hts hown hE hH flM_64 lc_h19 rfl hq40 dM_enter_40 ?_
      refine lv_iload_n hx hb dM_enter_43 rfl (lv_at hl 1 rfl) ?_
      obtain ⟨hs44_0, hf⟩ := lc_chk_some hf
      obtain ⟨hi44, hf⟩ := lc_chk_some hf
      obtain ⟨q44, hq44, hf⟩ := lc_bnr_some hf
      refine lc_aald hx hb hE hH hs44_0 rfl hi44 hq44 dM_enter_44 ?_
      obtain ⟨hi45, hf⟩ := lc_chk_some hf
      obtain ⟨hs45_1, hf⟩ := lc_chk_some hf
      refine lc_aast hx hb hE hH lc_h29 rfl hs45_1 rfl hi45 dM_enter_45 (fun H locs hH => ?_)
      refine lv_aload_n hx hb dM_enter_46 rfl (lv_at hl 0 rfl) ?_
      refine lv_iload_n hx hb dM_enter_47 rfl (lv_at hl 2 rfl) ?_
      refine lv_iconst (v := 0) hx hb dM_enter_48 (by decide) ?_
      obtain ⟨r49, z49, h49, hf⟩ := lc_bnd_some hf
      refine lc_callv (va_runV (As := [.int a2, .int 0]) (rest := []) ⟨hx, hb, hml, hown, hts⟩ (cM_bind l G h49) (lc_cwV hts kvM_94 (lc_room (by decide) (by decide))) (lc_preV hE hH lc_h19 rfl _) rfl rfl hl.1 rfl (lv_room (Nat.le_of_ble_eq_true rfl)) dM_enter_49 ⟨Nat.zero_le _, Nat.zero_le _⟩) hH (fun H locs hH => ?_)
      refine lv_aload_n hx hb dM_enter_52 rfl (lv_at hl 0 rfl) ?_
      refine lv_aload_n hx hb dM_enter_53 rfl (lv_at hl 0 rfl) ?_
      obtain ⟨q54, hq54, hf⟩ := lc_bnr_some hf
      refine lc_getr hx hb hts hown hE hH flM_64 lc_h19 rfl hq54 dM_enter_54 ?_
      refine lv_iload_n hx hb dM_enter_57 rfl (lv_at hl 1 rfl) ?_
      obtain ⟨hs58_0, hf⟩ := lc_chk_some hf
      obtain ⟨hi58, hf⟩ := lc_chk_some hf
      obtain ⟨q58, hq58, hf⟩ := lc_bnr_some hf
      refine lc_aald hx hb hE hH hs58_0 rfl hi58 hq58 dM_enter_58 ?_
      obtain ⟨hs59_0, hf⟩ := lc_chk_some hf
      obtain ⟨r59, z59, h59, hf⟩ := lc_bnd_some hf
      refine lc_calli (va_runV (As := []) (rest := [.ref (lc_ad G 19)]) ⟨hx, hb, hml, hown, hts⟩ (cP_body l G h59) (lc_cwV hts kvM_97 (lc_room (by decide) (by decide))) (lc_preV hE hH hs59_0 rfl _) rfl rfl hl.1 rfl (lv_room (Nat.le_of_ble_eq_true rfl)) dM_enter_59 ⟨Nat.zero_le _, Nat.zero_le _⟩) hH (fun H locs hH => ?_)
      refine lv_iload_n hx hb dM_enter_62 rfl (lv_at hl 2 rfl) ?_
      obtain ⟨r63, z63, h63, hf⟩ := lc_bnd_some hf
      refine lc_callv (va_runV (As := [.int r59, .int a2]) (rest := []) ⟨hx, hb, hml, hown, hts⟩ (cM_begin l G h63) (lc_cwV hts kvM_101 (lc_room (by decide) (by decide))) (lc_preV hE hH lc_h19 rfl _) rfl rfl hl.1 rfl (lv_room (Nat.le_of_ble_eq_true rfl)) dM_enter_63 ⟨Nat.zero_le _, Nat.zero_le _⟩) hH (fun H locs hH => ?_)
      exact lc_vret hx hb hr hlocks hH hf dM_enter_66
    · replace hf := lc_ite_neg hc hf
      refine lv_aload_n hx hb dM_enter_26 rfl (lv_at hl 0 rfl) ?_
      refine lv_iconst (v := 3) hx hb dM_enter_27 (by decide) ?_
      refine lc_puti hx hb hts hown hE hH fpM_70 lc_h19 rfl rfl rfl dM_enter_28 (fun H locs hH => ?_)
      refine lv_goto (tgt := 66) hx hb dM_enter_31 (by decide) ?_
      exact lc_vret hx hb hr hlocks hH hf dM_enter_66
  · replace hf := lc_ite_pos hc hf
    refine lv_aload_n hx hb dM_enter_12 rfl (lv_at hl 0 rfl) ?_
    refine lv_iconst (v := 4) hx hb dM_enter_13 (by decide) ?_
    refine lc_puti hx hb hts hown hE hH fpM_70 lc_h19 rfl rfl rfl dM_enter_14 (fun H locs hH => ?_)
    refine lv_goto (tgt := 66) hx hb dM_enter_17 (by decide) ?_
    exact lc_vret hx hb hr hlocks hH hf dM_enter_66
theorem dM_end_0 : decode prog_3_method_10_code 0 = .ok (.aload_n 0, 1) := by decide +kernel
theorem dM_end_1 : decode prog_3_method_10_code 1 = .ok (.lload_n 1, 1) := by decide +kernel
theorem dM_end_2 : decode prog_3_method_10_code 2 = .ok (.putfield 47, 3) := by decide +kernel
theorem dM_end_5 : decode prog_3_method_10_code 5 = .ok (.aload_n 0, 1) := by decide +kernel
theorem dM_end_6 : decode prog_3_method_10_code 6 = .ok (.dup, 1) := by decide +kernel
theorem dM_end_7 : decode prog_3_method_10_code 7 = .ok (.getfield 73, 3) := by decide +kernel
theorem dM_end_10 : decode prog_3_method_10_code 10 = .ok (.iconst 1, 1) := by decide +kernel
theorem dM_end_11 : decode prog_3_method_10_code 11 = .ok (.isub, 1) := by decide +kernel
theorem dM_end_12 : decode prog_3_method_10_code 12 = .ok (.putfield 73, 3) := by decide +kernel
theorem dM_end_15 : decode prog_3_method_10_code 15 = .ok (.return_, 1) := by decide +kernel
def fM_end (a1 : Int64) (z : lc_S) : Option ((Unit) × lc_S) :=
  some ((), lcUI (lcUL z 19 4 a1) 19 11 ((lcI (lcUL z 19 4 a1) 19 11) - 1))
set_option maxHeartbeats 4000000 in
set_option maxRecDepth 100000 in
theorem cM_end (l : Launch) (G : lc_G) {a1 : Int64} {r : Unit} {z z' : lc_S} (hf : fM_end a1 z = some (r, z')) : lc_M l G yM_end wM_end 0 [.ref (lc_ad G 19), .long a1] z none z' := by
  refine lc_M_of (cc := prog_3_method_10_code) (maxL := 3) (ret := none) (own := "LinearCells$Machine") (by decide) rfl (fun w h => List.mem_cons_of_mem _ h) (Nat.le_of_ble_eq_true rfl) rfl ?_
  intro p e s m below meth c hx hb hml hr hlocks hown hts hE ls hl hH
  replace hl : lv_has ls 3 [(0, .ref (lc_ad G 19)), (1, .long a1)] := hl
  rw [fM_end] at hf
  refine lv_aload_n hx hb dM_end_0 rfl (lv_at hl 0 rfl) ?_
  refine lv_lload_n hx hb dM_end_1 rfl (lv_at hl 1 rfl) ?_
  refine lc_putl hx hb hts hown hE hH fpM_47 lc_h19 rfl dM_end_2 (fun H locs hH => ?_)
  refine lv_aload_n hx hb dM_end_5 rfl (lv_at hl 0 rfl) ?_
  refine lv_dup hx hb dM_end_6 rfl ?_
  refine lc_geti hx hb hts hown hE hH flM_73 lc_h19 rfl dM_end_7 ?_
  refine lv_iconst (v := 1) hx hb dM_end_10 (by decide) ?_
  refine lv_isub hx hb dM_end_11 ?_
  refine lc_puti hx hb hts hown hE hH fpM_73 lc_h19 rfl rfl rfl dM_end_12 (fun H locs hH => ?_)
  exact lc_vret hx hb hr hlocks hH hf dM_end_15
theorem dV_wordOf_0 : decode prog_8_method_4_code 0 = .ok (.lload_n 0, 1) := by decide +kernel
theorem dV_wordOf_1 : decode prog_8_method_4_code 1 = .ok (.l2i, 1) := by decide +kernel
theorem dV_wordOf_2 : decode prog_8_method_4_code 2 = .ok (.ireturn, 1) := by decide +kernel
def fV_wordOf (a0 : Int64) (z : lc_S) : Option ((Int32) × lc_S) :=
  some (a0.toInt32, z)
set_option maxHeartbeats 4000000 in
set_option maxRecDepth 100000 in
theorem cV_wordOf (l : Launch) (G : lc_G) {a0 : Int64} {r : Int32} {z z' : lc_S} (hf : fV_wordOf a0 z = some (r, z')) : lc_M l G yV_wordOf wV_wordOf 0 [.long a0] z (some (.int r)) z' := by
  refine lc_M_of (cc := prog_8_method_4_code) (maxL := 2) (ret := (some .int)) (own := "LinearCells$Value") (by decide) rfl (fun w h => List.mem_cons_of_mem _ h) (Nat.le_of_ble_eq_true rfl) rfl ?_
  intro p e s m below meth c hx hb hml hr hlocks hown hts hE ls hl hH
  replace hl : lv_has ls 2 [(0, .long a0)] := hl
  rw [fV_wordOf] at hf
  refine lv_lload_n hx hb dV_wordOf_0 rfl (lv_at hl 0 rfl) ?_
  refine lv_l2i hx hb dV_wordOf_1 rfl ?_
  exact lc_iret hx hb hr hlocks hH hf dV_wordOf_2
theorem dV_isPair_0 : decode prog_8_method_7_code 0 = .ok (.lload_n 0, 1) := by decide +kernel
theorem dV_isPair_1 : decode prog_8_method_7_code 1 = .ok (.bipush 32, 2) := by decide +kernel
theorem dV_isPair_3 : decode prog_8_method_7_code 3 = .ok (.lshr, 1) := by decide +kernel
theorem dV_isPair_4 : decode prog_8_method_7_code 4 = .ok (.ldc2_w 13, 3) := by decide +kernel
theorem dV_isPair_7 : decode prog_8_method_7_code 7 = .ok (.lcmp, 1) := by decide +kernel
theorem dV_isPair_8 : decode prog_8_method_7_code 8 = .ok (.ifCond .ne 7, 3) := by decide +kernel
theorem dV_isPair_11 : decode prog_8_method_7_code 11 = .ok (.iconst 1, 1) := by decide +kernel
theorem dV_isPair_12 : decode prog_8_method_7_code 12 = .ok (.goto 4, 3) := by decide +kernel
theorem dV_isPair_15 : decode prog_8_method_7_code 15 = .ok (.iconst 0, 1) := by decide +kernel
theorem dV_isPair_16 : decode prog_8_method_7_code 16 = .ok (.ireturn, 1) := by decide +kernel
def fV_isPair (a0 : Int64) (z : lc_S) : Option ((Int32) × lc_S) :=
  if (lg_cmp (a0 >>> ((32 : Int32).toInt64 &&& 63)) 3) = 0 then (some (1, z)) else (some (0, z))
set_option maxHeartbeats 4000000 in
set_option maxRecDepth 100000 in
theorem cV_isPair (l : Launch) (G : lc_G) {a0 : Int64} {r : Int32} {z z' : lc_S} (hf : fV_isPair a0 z = some (r, z')) : lc_M l G yV_isPair wV_isPair 0 [.long a0] z (some (.int r)) z' := by
  refine lc_M_of (cc := prog_8_method_7_code) (maxL := 2) (ret := (some .boolean)) (own := "LinearCells$Value") (by decide) rfl (fun w h => List.mem_cons_of_mem _ h) (Nat.le_of_ble_eq_true rfl) rfl ?_
  intro p e s m below meth c hx hb hml hr hlocks hown hts hE ls hl hH
  replace hl : lv_has ls 2 [(0, .long a0)] := hl
  rw [fV_isPair] at hf
  refine lv_lload_n hx hb dV_isPair_0 rfl (lv_at hl 0 rfl) ?_
  refine lv_bipush (v := 32) hx hb dV_isPair_1 (by decide) ?_
  refine lv_lshr hx hb dV_isPair_3 rfl ?_
  refine lv_ldc2 hx hb hown (hts _ kcV_13) dV_isPair_4 ?_
  refine W.lcmp hx hb dV_isPair_7 ?_
  refine lv_if_ne (tgt := 15) hx hb dV_isPair_8 (by decide) (fun hc => ?_) (fun hc => ?_)
  · replace hf := lc_ite_neg hc hf
    refine lv_iconst (v := 0) hx hb dV_isPair_15 (by decide) ?_
    exact lc_zret hx hb hr hlocks (by decide) hH hf dV_isPair_16
  · replace hf := lc_ite_pos hc hf
    refine lv_iconst (v := 1) hx hb dV_isPair_11 (by decide) ?_
    refine lv_goto (tgt := 16) hx hb dV_isPair_12 (by decide) ?_
    exact lc_zret hx hb hr hlocks (by decide) hH hf dV_isPair_16
theorem dY_isMade_0 : decode prog_4_method_13_code 0 = .ok (.iload_n 1, 1) := by decide +kernel
theorem dY_isMade_1 : decode prog_4_method_13_code 1 = .ok (.ifCond .lt 15, 3) := by decide +kernel
theorem dY_isMade_4 : decode prog_4_method_13_code 4 = .ok (.iload_n 1, 1) := by decide +kernel
theorem dY_isMade_5 : decode prog_4_method_13_code 5 = .ok (.aload_n 0, 1) := by decide +kernel
theorem dY_isMade_6 : decode prog_4_method_13_code 6 = .ok (.getfield 45, 3) := by decide +kernel
theorem dY_isMade_9 : decode prog_4_method_13_code 9 = .ok (.if_icmp .ge 7, 3) := by decide +kernel
theorem dY_isMade_12 : decode prog_4_method_13_code 12 = .ok (.iconst 1, 1) := by decide +kernel
theorem dY_isMade_13 : decode prog_4_method_13_code 13 = .ok (.goto 4, 3) := by decide +kernel
theorem dY_isMade_16 : decode prog_4_method_13_code 16 = .ok (.iconst 0, 1) := by decide +kernel
theorem dY_isMade_17 : decode prog_4_method_13_code 17 = .ok (.ireturn, 1) := by decide +kernel
def fY_isMade_16 (z : lc_S) : Option ((Int32) × lc_S) :=
  some (0, z)
def fY_isMade (a1 : Int32) (z : lc_S) : Option ((Int32) × lc_S) :=
  if a1 < 0 then (fY_isMade_16 z) else (if (lcI z 20 10) ≤ a1 then (fY_isMade_16 z) else (some (1, z)))
set_option maxHeartbeats 4000000 in
set_option maxRecDepth 100000 in
theorem bY_isMade_16 {p : Program} {l : Launch} {e : Env} {s : State} {m : MethodId} {args : Array Value} {below : List Frame} {meth : Method} {c : Code} {G : lc_G} (hx : p.tables.exec = Jvm.exec) (hb : c.code = prog_4_method_13_code) (hml : c.maxLocals = 2) (hr : meth.sig.returnType = (some .boolean)) (hlocks : meth.locks = false) (hown : s.vm.findClass "LinearCells$Memory" = some m.cls) (hts : ∀ w ∈ lc_ALL, w.before args s = true) (hE : lc_E G s) {r : Int32} {z' : lc_S} : ∀ {z : lc_S} {H : Heap} {locs : List Loc} {ls : Array Slot}, fY_isMade_16 z = some (r, z') → lv_has ls 2 [] → lc_H G z s.heap H locs → W p l e (lc_rm 0) s m args below meth c H locs 0 0 (MQ below (lc_Q G (some (.int r)) z') args s 0 0 (lc_A G)) (F0 m 16 ls []) := by
  intro z H locs ls hf hl hH
  rw [fY_isMade_16] at hf
  refine lv_iconst (v := 0) hx hb dY_isMade_16 (by decide) ?_
  exact lc_zret hx hb hr hlocks (by decide) hH hf dY_isMade_17
set_option maxHeartbeats 4000000 in
set_option maxRecDepth 100000 in
theorem cY_isMade (l : Launch) (G : lc_G) {a1 : Int32} {r : Int32} {z z' : lc_S} (hf : fY_isMade a1 z = some (r, z')) : lc_M l G yY_isMade wY_isMade 0 [.ref (lc_ad G 20), .int a1] z (some (.int r)) z' := by
  refine lc_M_of (cc := prog_4_method_13_code) (maxL := 2) (ret := (some .boolean)) (own := "LinearCells$Memory") (by decide) rfl (fun w h => List.mem_cons_of_mem _ h) (Nat.le_of_ble_eq_true rfl) rfl ?_
  intro p e s m below meth c hx hb hml hr hlocks hown hts hE ls hl hH
  replace hl : lv_has ls 2 [(0, .ref (lc_ad G 20)), (1, .int a1)] := hl
  rw [fY_isMade] at hf
  refine lv_iload_n hx hb dY_isMade_0 rfl (lv_at hl 1 rfl) ?_
  refine lv_if_lt (tgt := 16) hx hb dY_isMade_1 (by decide) (fun hc => ?_) (fun hc => ?_)
  · replace hf := lc_ite_pos hc hf
    exact bY_isMade_16 hx hb hml hr hlocks hown hts hE hf (lv_sub hl [] rfl) hH
  · replace hf := lc_ite_neg hc hf
    refine lv_iload_n hx hb dY_isMade_4 rfl (lv_at hl 1 rfl) ?_
    refine lv_aload_n hx hb dY_isMade_5 rfl (lv_at hl 0 rfl) ?_
    refine lc_geti hx hb hts hown hE hH flY_45 lc_h20 rfl dY_isMade_6 ?_
    refine lv_icmp_ge (tgt := 16) hx hb dY_isMade_9 (by decide) (fun hc => ?_) (fun hc => ?_)
    · replace hf := lc_ite_pos hc hf
      exact bY_isMade_16 hx hb hml hr hlocks hown hts hE hf (lv_sub hl [] rfl) hH
    · replace hf := lc_ite_neg hc hf
      refine lv_iconst (v := 1) hx hb dY_isMade_12 (by decide) ?_
      refine lv_goto (tgt := 17) hx hb dY_isMade_13 (by decide) ?_
      exact lc_zret hx hb hr hlocks (by decide) hH hf dY_isMade_17
theorem dY_partOf_0 : decode prog_4_method_14_code 0 = .ok (.lload_n 1, 1) := by decide +kernel
theorem dY_partOf_1 : decode prog_4_method_14_code 1 = .ok (.invokestatic 66, 3) := by decide +kernel
theorem dY_partOf_4 : decode prog_4_method_14_code 4 = .ok (.istore 4, 2) := by decide +kernel
theorem dY_partOf_6 : decode prog_4_method_14_code 6 = .ok (.iload_n 3, 1) := by decide +kernel
theorem dY_partOf_7 : decode prog_4_method_14_code 7 = .ok (.ifCond .eq 19, 3) := by decide +kernel
theorem dY_partOf_10 : decode prog_4_method_14_code 10 = .ok (.lload_n 1, 1) := by decide +kernel
theorem dY_partOf_11 : decode prog_4_method_14_code 11 = .ok (.invokestatic 71, 3) := by decide +kernel
theorem dY_partOf_14 : decode prog_4_method_14_code 14 = .ok (.ifCond .eq 12, 3) := by decide +kernel
theorem dY_partOf_17 : decode prog_4_method_14_code 17 = .ok (.aload_n 0, 1) := by decide +kernel
theorem dY_partOf_18 : decode prog_4_method_14_code 18 = .ok (.iload 4, 2) := by decide +kernel
theorem dY_partOf_20 : decode prog_4_method_14_code 20 = .ok (.invokevirtual 74, 3) := by decide +kernel
theorem dY_partOf_23 : decode prog_4_method_14_code 23 = .ok (.ifCond .ne 5, 3) := by decide +kernel
theorem dY_partOf_26 : decode prog_4_method_14_code 26 = .ok (.lload_n 1, 1) := by decide +kernel
theorem dY_partOf_27 : decode prog_4_method_14_code 27 = .ok (.lreturn, 1) := by decide +kernel
theorem dY_partOf_28 : decode prog_4_method_14_code 28 = .ok (.iload_n 3, 1) := by decide +kernel
theorem dY_partOf_29 : decode prog_4_method_14_code 29 = .ok (.iconst 1, 1) := by decide +kernel
theorem dY_partOf_30 : decode prog_4_method_14_code 30 = .ok (.if_icmp .ne 13, 3) := by decide +kernel
theorem dY_partOf_33 : decode prog_4_method_14_code 33 = .ok (.aload_n 0, 1) := by decide +kernel
theorem dY_partOf_34 : decode prog_4_method_14_code 34 = .ok (.getfield 19, 3) := by decide +kernel
theorem dY_partOf_37 : decode prog_4_method_14_code 37 = .ok (.iload 4, 2) := by decide +kernel
theorem dY_partOf_39 : decode prog_4_method_14_code 39 = .ok (.laload, 1) := by decide +kernel
theorem dY_partOf_40 : decode prog_4_method_14_code 40 = .ok (.goto 10, 3) := by decide +kernel
theorem dY_partOf_43 : decode prog_4_method_14_code 43 = .ok (.aload_n 0, 1) := by decide +kernel
theorem dY_partOf_44 : decode prog_4_method_14_code 44 = .ok (.getfield 23, 3) := by decide +kernel
theorem dY_partOf_47 : decode prog_4_method_14_code 47 = .ok (.iload 4, 2) := by decide +kernel
theorem dY_partOf_49 : decode prog_4_method_14_code 49 = .ok (.laload, 1) := by decide +kernel
theorem dY_partOf_50 : decode prog_4_method_14_code 50 = .ok (.lreturn, 1) := by decide +kernel
def fY_partOf_26 (x1 : Int64) (z : lc_S) : Option ((Int64) × lc_S) :=
  some (x1, z)
def fY_partOf (a1 : Int64) (a3 : Int32) (z : lc_S) : Option ((Int64) × lc_S) :=
  lc_bnd (fV_wordOf a1 z) (fun r1 z1 => if a3 = 0 then (fY_partOf_26 a1 z1) else (lc_bnd (fV_isPair a1 z1) (fun r11 z11 => if r11 = 0 then (fY_partOf_26 a1 z11) else (lc_bnd (fY_isMade r1 z11) (fun r20 z20 => if r20 = 0 then (fY_partOf_26 a1 z20) else (if a3 = 1 then (lc_chk (lc_in r1 120) (some (lcL z20 23 r1.toNatClampNeg, z20))) else (lc_chk (lc_in r1 120) (some (lcL z20 24 r1.toNatClampNeg, z20)))))))))
set_option maxHeartbeats 4000000 in
set_option maxRecDepth 100000 in
theorem bY_partOf_26 {p : Program} {l : Launch} {e : Env} {s : State} {m : MethodId} {args : Array Value} {below : List Frame} {meth : Method} {c : Code} {G : lc_G} (hx : p.tables.exec = Jvm.exec) (hb : c.code = prog_4_method_14_code) (hml : c.maxLocals = 5) (hr : meth.sig.returnType = (some .long)) (hlocks : meth.locks = false) (hown : s.vm.findClass "LinearCells$Memory" = some m.cls) (hts : ∀ w ∈ lc_ALL, w.before args s = true) (hE : lc_E G s) {r : Int64} {z' : lc_S} : ∀ {x1 : Int64} {z : lc_S} {H : Heap} {locs : List Loc} {ls : Array Slot}, fY_partOf_26 x1 z = some (r, z') → lv_has ls 5 [(1, .long x1)] → lc_H G z s.heap H locs → W p l e (lc_rm 1) s m args below meth c H locs 0 0 (MQ below (lc_Q G (some (.long r)) z') args s 0 0 (lc_A G)) (F0 m 26 ls []) := by
  intro x1 z H locs ls hf hl hH
  rw [fY_partOf_26] at hf
  refine lv_lload_n hx hb dY_partOf_26 rfl (lv_at hl 0 rfl) ?_
  exact lc_lret hx hb hr hlocks hH hf dY_partOf_27
set_option maxHeartbeats 4000000 in
set_option maxRecDepth 100000 in
theorem cY_partOf (l : Launch) (G : lc_G) {a1 : Int64} {a3 : Int32} {r : Int64} {z z' : lc_S} (hf : fY_partOf a1 a3 z = some (r, z')) : lc_M l G yY_partOf wY_partOf 1 [.ref (lc_ad G 20), .long a1, .int a3] z (some (.long r)) z' := by
  refine lc_M_of (cc := prog_4_method_14_code) (maxL := 5) (ret := (some .long)) (own := "LinearCells$Memory") (by decide) rfl (fun w h => List.mem_cons_of_mem _ h) (Nat.le_of_ble_eq_true rfl) rfl ?_
  intro p e s m below meth c hx hb hml hr hlocks hown hts hE ls hl hH
  replace hl : lv_has ls 5 [(0, .ref (lc_ad G 20)), (1, .long a1), (3, .int a3)] := hl
  rw [fY_partOf] at hf
  refine lv_lload_n hx hb dY_partOf_0 rfl (lv_at hl 1 rfl) ?_
  obtain ⟨r1, z1, h1, hf⟩ := lc_bnd_some hf
  refine lc_calli (va_runS (As := [.long a1]) (rest := []) ⟨hx, hb, hml, hown, hts⟩ (cV_wordOf l G h1) (lc_cwS hts ksY_66 (lc_room (by decide) (by decide))) (lc_preS hE hH _) rfl rfl hl.1 rfl (lv_room (Nat.le_of_ble_eq_true rfl)) dY_partOf_1 ⟨Nat.zero_le _, Nat.zero_le _⟩) hH (fun H locs hH => ?_)
  refine lv_istore hx hb dY_partOf_4 hl (by decide) rfl (fun ls hl => ?_)
  replace hl : lv_has ls 5 [(4, .int r1), (0, .ref (lc_ad G 20)), (1, .long a1), (3, .int a3)] := hl
  refine lv_iload_n hx hb dY_partOf_6 rfl (lv_at hl 3 rfl) ?_
  refine lv_if_eq (tgt := 26) hx hb dY_partOf_7 (by decide) (fun hc => ?_) (fun hc => ?_)
  · replace hf := lc_ite_pos hc hf
    exact bY_partOf_26 hx hb hml hr hlocks hown hts hE hf (lv_sub hl [2] rfl) hH
  · replace hf := lc_ite_neg hc hf
    refine lv_lload_n hx hb dY_partOf_10 rfl (lv_at hl 2 rfl) ?_
    obtain ⟨r11, z11, h11, hf⟩ := lc_bnd_some hf
    refine lc_calli (va_runS (As := [.long a1]) (rest := []) ⟨hx, hb, hml, hown, hts⟩ (cV_isPair l G h11) (lc_cwS hts ksY_71 (lc_room (by decide) (by decide))) (lc_preS hE hH _) rfl rfl hl.1 rfl (lv_room (Nat.le_of_ble_eq_true rfl)) dY_partOf_11 ⟨Nat.zero_le _, Nat.zero_le _⟩) hH (fun H locs hH => ?_)
    refine lv_if_eq (tgt := 26) hx hb dY_partOf_14 (by decide) (fun hc => ?_) (fun hc => ?_)
    · replace hf := lc_ite_pos hc hf
      exact bY_partOf_26 hx hb hml hr hlocks hown hts hE hf (lv_sub hl [2] rfl) hH
    · replace hf := lc_ite_neg hc hf
      refine lv_aload_n hx hb dY_partOf_17 rfl (lv_at hl 1 rfl) ?_
      refine lv_iload hx hb dY_partOf_18 (lv_at hl 0 rfl) ?_
      obtain ⟨r20, z20, h20, hf⟩ := lc_bnd_some hf
      refine lc_calli (va_runV (As := [.int r1]) (rest := []) ⟨hx, hb, hml, hown, hts⟩ (cY_isMade l G h20) (lc_cwV hts kvY_74 (lc_room (by decide) (by decide))) (lc_preV hE hH lc_h20 rfl _) rfl rfl hl.1 rfl (lv_room (Nat.le_of_ble_eq_true rfl)) dY_partOf_20 ⟨Nat.zero_le _, Nat.zero_le _⟩) hH (fun H locs hH => ?_)
      refine lv_if_ne (tgt := 28) hx hb dY_partOf_23 (by decide) (fun hc => ?_) (fun hc => ?_)
      · replace hf := lc_ite_neg hc hf
        refine lv_iload_n hx hb dY_partOf_28 rfl (lv_at hl 3 rfl) ?_
        refine lv_iconst (v := 1) hx hb dY_partOf_29 (by decide) ?_
        refine lv_icmp_ne (tgt := 43) hx hb dY_partOf_30 (by decide) (fun hc => ?_) (fun hc => ?_)
        · replace hf := lc_ite_neg hc hf
          refine lv_aload_n hx hb dY_partOf_43 rfl (lv_at hl 1 rfl) ?_
          refine lc_getf (d := 4) (q := 24) hx hb hts hown hE hH flY_23 lc_h20 rfl rfl dY_partOf_44 ?_
          refine lv_iload hx hb dY_partOf_47 (lv_at hl 0 rfl) ?_
          obtain ⟨hi49, hf⟩ := lc_chk_some hf
          refine lc_lald hx hb hE hH lc_h24 rfl hi49 dY_partOf_49 ?_
          exact lc_lret hx hb hr hlocks hH hf dY_partOf_50
        · replace hf := lc_ite_pos hc hf
          refine lv_aload_n hx hb dY_partOf_33 rfl (lv_at hl 1 rfl) ?_
          refine lc_getf (d := 3) (q := 23) hx hb hts hown hE hH flY_19 lc_h20 rfl rfl dY_partOf_34 ?_
          refine lv_iload hx hb dY_partOf_37 (lv_at hl 0 rfl) ?_
          obtain ⟨hi39, hf⟩ := lc_chk_some hf
          refine lc_lald hx hb hE hH lc_h23 rfl hi39 dY_partOf_39 ?_
          refine lv_goto (tgt := 50) hx hb dY_partOf_40 (by decide) ?_
          exact lc_lret hx hb hr hlocks hH hf dY_partOf_50
      · replace hf := lc_ite_pos hc hf
        exact bY_partOf_26 hx hb hml hr hlocks hown hts hE hf (lv_sub hl [2] rfl) hH
theorem dM_valueOfVariable_0 : decode prog_3_method_12_code 0 = .ok (.aload_n 0, 1) := by decide +kernel
theorem dM_valueOfVariable_1 : decode prog_3_method_12_code 1 = .ok (.getfield 22, 3) := by decide +kernel
theorem dM_valueOfVariable_4 : decode prog_3_method_12_code 4 = .ok (.iload_n 2, 1) := by decide +kernel
theorem dM_valueOfVariable_5 : decode prog_3_method_12_code 5 = .ok (.aaload, 1) := by decide +kernel
theorem dM_valueOfVariable_6 : decode prog_3_method_12_code 6 = .ok (.astore_n 3, 1) := by decide +kernel
theorem dM_valueOfVariable_7 : decode prog_3_method_12_code 7 = .ok (.aload_n 0, 1) := by decide +kernel
theorem dM_valueOfVariable_8 : decode prog_3_method_12_code 8 = .ok (.getfield 26, 3) := by decide +kernel
theorem dM_valueOfVariable_11 : decode prog_3_method_12_code 11 = .ok (.iload_n 2, 1) := by decide +kernel
theorem dM_valueOfVariable_12 : decode prog_3_method_12_code 12 = .ok (.bipush 24, 2) := by decide +kernel
theorem dM_valueOfVariable_14 : decode prog_3_method_12_code 14 = .ok (.imul, 1) := by decide +kernel
theorem dM_valueOfVariable_15 : decode prog_3_method_12_code 15 = .ok (.aload_n 3, 1) := by decide +kernel
theorem dM_valueOfVariable_16 : decode prog_3_method_12_code 16 = .ok (.getfield 127, 3) := by decide +kernel
theorem dM_valueOfVariable_19 : decode prog_3_method_12_code 19 = .ok (.iload_n 1, 1) := by decide +kernel
theorem dM_valueOfVariable_20 : decode prog_3_method_12_code 20 = .ok (.iaload, 1) := by decide +kernel
theorem dM_valueOfVariable_21 : decode prog_3_method_12_code 21 = .ok (.iadd, 1) := by decide +kernel
theorem dM_valueOfVariable_22 : decode prog_3_method_12_code 22 = .ok (.laload, 1) := by decide +kernel
theorem dM_valueOfVariable_23 : decode prog_3_method_12_code 23 = .ok (.lstore 4, 2) := by decide +kernel
theorem dM_valueOfVariable_25 : decode prog_3_method_12_code 25 = .ok (.aload_n 0, 1) := by decide +kernel
theorem dM_valueOfVariable_26 : decode prog_3_method_12_code 26 = .ok (.getfield 16, 3) := by decide +kernel
theorem dM_valueOfVariable_29 : decode prog_3_method_12_code 29 = .ok (.lload 4, 2) := by decide +kernel
theorem dM_valueOfVariable_31 : decode prog_3_method_12_code 31 = .ok (.aload_n 3, 1) := by decide +kernel
theorem dM_valueOfVariable_32 : decode prog_3_method_12_code 32 = .ok (.getfield 107, 3) := by decide +kernel
theorem dM_valueOfVariable_35 : decode prog_3_method_12_code 35 = .ok (.iload_n 1, 1) := by decide +kernel
theorem dM_valueOfVariable_36 : decode prog_3_method_12_code 36 = .ok (.iaload, 1) := by decide +kernel
theorem dM_valueOfVariable_37 : decode prog_3_method_12_code 37 = .ok (.invokevirtual 130, 3) := by decide +kernel
theorem dM_valueOfVariable_40 : decode prog_3_method_12_code 40 = .ok (.lreturn, 1) := by decide +kernel
def fM_valueOfVariable (a1 : Int32) (a2 : Int32) (z : lc_S) : Option ((Int64) × lc_S) :=
  lc_chk (lc_in a2 25) (lc_bnr (lcR z 29 a2.toNatClampNeg) (fun q5 => lc_chk (lc_sh q5 = (0, 1, 0)) (lc_chk (lc_in a1 120) (lc_chk (lc_in ((a2 * 24) + (lcI z (q5 + 7) a1.toNatClampNeg)) 600) (lc_let (lcL z 30 ((a2 * 24) + (lcI z (q5 + 7) a1.toNatClampNeg)).toNatClampNeg) (fun x23 => lc_chk (lc_in a1 120) (lc_bnd (fY_partOf x23 (lcI z (q5 + 6) a1.toNatClampNeg) z) (fun r37 z37 => some (r37, z37)))))))))
set_option maxHeartbeats 4000000 in
set_option maxRecDepth 100000 in
theorem cM_valueOfVariable (l : Launch) (G : lc_G) {a1 : Int32} {a2 : Int32} {r : Int64} {z z' : lc_S} (hf : fM_valueOfVariable a1 a2 z = some (r, z')) : lc_M l G yM_valueOfVariable wM_valueOfVariable 2 [.ref (lc_ad G 19), .int a1, .int a2] z (some (.long r)) z' := by
  refine lc_M_of (cc := prog_3_method_12_code) (maxL := 6) (ret := (some .long)) (own := "LinearCells$Machine") (by decide) rfl (fun w h => List.mem_cons_of_mem _ h) (Nat.le_of_ble_eq_true rfl) rfl ?_
  intro p e s m below meth c hx hb hml hr hlocks hown hts hE ls hl hH
  replace hl : lv_has ls 6 [(0, .ref (lc_ad G 19)), (1, .int a1), (2, .int a2)] := hl
  rw [fM_valueOfVariable] at hf
  refine lv_aload_n hx hb dM_valueOfVariable_0 rfl (lv_at hl 0 rfl) ?_
  refine lc_getf (d := 10) (q := 29) hx hb hts hown hE hH flM_22 lc_h19 rfl rfl dM_valueOfVariable_1 ?_
  refine lv_iload_n hx hb dM_valueOfVariable_4 rfl (lv_at hl 2 rfl) ?_
  obtain ⟨hi5, hf⟩ := lc_chk_some hf
  obtain ⟨q5, hq5, hf⟩ := lc_bnr_some hf
  refine lc_aald hx hb hE hH lc_h29 rfl hi5 hq5 dM_valueOfVariable_5 ?_
  refine lv_astore_n hx hb dM_valueOfVariable_6 rfl hl (by decide) rfl (fun ls hl => ?_)
  replace hl : lv_has ls 6 [(3, .ref (lc_ad G q5)), (0, .ref (lc_ad G 19)), (1, .int a1), (2, .int a2)] := hl
  refine lv_aload_n hx hb dM_valueOfVariable_7 rfl (lv_at hl 1 rfl) ?_
  refine lc_getf (d := 11) (q := 30) hx hb hts hown hE hH flM_26 lc_h19 rfl rfl dM_valueOfVariable_8 ?_
  refine lv_iload_n hx hb dM_valueOfVariable_11 rfl (lv_at hl 3 rfl) ?_
  refine lv_bipush (v := 24) hx hb dM_valueOfVariable_12 (by decide) ?_
  refine lv_imul hx hb dM_valueOfVariable_14 ?_
  refine lv_aload_n hx hb dM_valueOfVariable_15 rfl (lv_at hl 0 rfl) ?_
  obtain ⟨hs16_0, hf⟩ := lc_chk_some hf
  refine lc_getf (d := 7) (q := q5 + 7) hx hb hts hown hE hH flM_127 hs16_0 rfl rfl dM_valueOfVariable_16 ?_
  refine lv_iload_n hx hb dM_valueOfVariable_19 rfl (lv_at hl 2 rfl) ?_
  obtain ⟨hi20, hf⟩ := lc_chk_some hf
  refine lc_iald hx hb hE hH (lc_pr7 hs16_0) rfl hi20 dM_valueOfVariable_20 ?_
  refine lv_iadd hx hb dM_valueOfVariable_21 ?_
  obtain ⟨hi22, hf⟩ := lc_chk_some hf
  refine lc_lald hx hb hE hH lc_h30 rfl hi22 dM_valueOfVariable_22 ?_
  refine lv_topl (fun x23 e23 => ?_)
  replace hf := lc_let_of e23 hf
  refine lv_lstore hx hb dM_valueOfVariable_23 hl (by decide) rfl (fun ls hl => ?_)
  replace hl : lv_has ls 6 [(4, .long x23), (3, .ref (lc_ad G q5)), (0, .ref (lc_ad G 19)), (1, .int a1), (2, .int a2)] := hl
  refine lv_aload_n hx hb dM_valueOfVariable_25 rfl (lv_at hl 2 rfl) ?_
  refine lc_getf (d := 1) (q := 20) hx hb hts hown hE hH flM_16 lc_h19 rfl rfl dM_valueOfVariable_26 ?_
  refine lv_lload hx hb dM_valueOfVariable_29 (lv_at hl 0 rfl) ?_
  refine lv_aload_n hx hb dM_valueOfVariable_31 rfl (lv_at hl 1 rfl) ?_
  refine lc_getf (d := 6) (q := q5 + 6) hx hb hts hown hE hH flM_107 hs16_0 rfl rfl dM_valueOfVariable_32 ?_
  refine lv_iload_n hx hb dM_valueOfVariable_35 rfl (lv_at hl 3 rfl) ?_
  obtain ⟨hi36, hf⟩ := lc_chk_some hf
  refine lc_iald hx hb hE hH (lc_pr6 hs16_0) rfl hi36 dM_valueOfVariable_36 ?_
  obtain ⟨r37, z37, h37, hf⟩ := lc_bnd_some hf
  refine lc_calll (va_runV (As := [.long x23, .int (lcI z (q5 + 6) a1.toNatClampNeg)]) (rest := []) ⟨hx, hb, hml, hown, hts⟩ (cY_partOf l G h37) (lc_cwV hts kvM_130 (lc_room (by decide) (by decide))) (lc_preV hE hH lc_h20 rfl _) rfl rfl hl.1 rfl (lv_room (Nat.le_of_ble_eq_true rfl)) dM_valueOfVariable_37 ⟨Nat.zero_le _, Nat.zero_le _⟩) hH (fun H locs hH => ?_)
  exact lc_lret hx hb hr hlocks hH hf dM_valueOfVariable_40
theorem dV_isNumber_0 : decode prog_8_method_5_code 0 = .ok (.lload_n 0, 1) := by decide +kernel
theorem dV_isNumber_1 : decode prog_8_method_5_code 1 = .ok (.bipush 32, 2) := by decide +kernel
theorem dV_isNumber_3 : decode prog_8_method_5_code 3 = .ok (.lshr, 1) := by decide +kernel
theorem dV_isNumber_4 : decode prog_8_method_5_code 4 = .ok (.lconst 1, 1) := by decide +kernel
theorem dV_isNumber_5 : decode prog_8_method_5_code 5 = .ok (.lcmp, 1) := by decide +kernel
theorem dV_isNumber_6 : decode prog_8_method_5_code 6 = .ok (.ifCond .ne 7, 3) := by decide +kernel
theorem dV_isNumber_9 : decode prog_8_method_5_code 9 = .ok (.iconst 1, 1) := by decide +kernel
theorem dV_isNumber_10 : decode prog_8_method_5_code 10 = .ok (.goto 4, 3) := by decide +kernel
theorem dV_isNumber_13 : decode prog_8_method_5_code 13 = .ok (.iconst 0, 1) := by decide +kernel
theorem dV_isNumber_14 : decode prog_8_method_5_code 14 = .ok (.ireturn, 1) := by decide +kernel
def fV_isNumber (a0 : Int64) (z : lc_S) : Option ((Int32) × lc_S) :=
  if (lg_cmp (a0 >>> ((32 : Int32).toInt64 &&& 63)) 1) = 0 then (some (1, z)) else (some (0, z))
set_option maxHeartbeats 4000000 in
set_option maxRecDepth 100000 in
theorem cV_isNumber (l : Launch) (G : lc_G) {a0 : Int64} {r : Int32} {z z' : lc_S} (hf : fV_isNumber a0 z = some (r, z')) : lc_M l G yV_isNumber wV_isNumber 0 [.long a0] z (some (.int r)) z' := by
  refine lc_M_of (cc := prog_8_method_5_code) (maxL := 2) (ret := (some .boolean)) (own := "LinearCells$Value") (by decide) rfl (fun w h => List.mem_cons_of_mem _ h) (Nat.le_of_ble_eq_true rfl) rfl ?_
  intro p e s m below meth c hx hb hml hr hlocks hown hts hE ls hl hH
  replace hl : lv_has ls 2 [(0, .long a0)] := hl
  rw [fV_isNumber] at hf
  refine lv_lload_n hx hb dV_isNumber_0 rfl (lv_at hl 0 rfl) ?_
  refine lv_bipush (v := 32) hx hb dV_isNumber_1 (by decide) ?_
  refine lv_lshr hx hb dV_isNumber_3 rfl ?_
  refine lv_lconst (v := 1) hx hb dV_isNumber_4 (by decide) ?_
  refine W.lcmp hx hb dV_isNumber_5 ?_
  refine lv_if_ne (tgt := 13) hx hb dV_isNumber_6 (by decide) (fun hc => ?_) (fun hc => ?_)
  · replace hf := lc_ite_neg hc hf
    refine lv_iconst (v := 0) hx hb dV_isNumber_13 (by decide) ?_
    exact lc_zret hx hb hr hlocks (by decide) hH hf dV_isNumber_14
  · replace hf := lc_ite_pos hc hf
    refine lv_iconst (v := 1) hx hb dV_isNumber_9 (by decide) ?_
    refine lv_goto (tgt := 14) hx hb dV_isNumber_10 (by decide) ?_
    exact lc_zret hx hb hr hlocks (by decide) hH hf dV_isNumber_14
theorem dM_choose_0 : decode prog_3_method_14_code 0 = .ok (.aload_n 0, 1) := by decide +kernel
theorem dM_choose_1 : decode prog_3_method_14_code 1 = .ok (.getfield 47, 3) := by decide +kernel
theorem dM_choose_4 : decode prog_3_method_14_code 4 = .ok (.invokestatic 143, 3) := by decide +kernel
theorem dM_choose_7 : decode prog_3_method_14_code 7 = .ok (.ifCond .ne 11, 3) := by decide +kernel
theorem dM_choose_10 : decode prog_3_method_14_code 10 = .ok (.aload_n 0, 1) := by decide +kernel
theorem dM_choose_11 : decode prog_3_method_14_code 11 = .ok (.iconst 4, 1) := by decide +kernel
theorem dM_choose_12 : decode prog_3_method_14_code 12 = .ok (.putfield 70, 3) := by decide +kernel
theorem dM_choose_15 : decode prog_3_method_14_code 15 = .ok (.goto 48, 3) := by decide +kernel
theorem dM_choose_18 : decode prog_3_method_14_code 18 = .ok (.aload_n 0, 1) := by decide +kernel
theorem dM_choose_19 : decode prog_3_method_14_code 19 = .ok (.getfield 47, 3) := by decide +kernel
theorem dM_choose_22 : decode prog_3_method_14_code 22 = .ok (.invokestatic 57, 3) := by decide +kernel
theorem dM_choose_25 : decode prog_3_method_14_code 25 = .ok (.ifCond .eq 22, 3) := by decide +kernel
theorem dM_choose_28 : decode prog_3_method_14_code 28 = .ok (.aload_n 0, 1) := by decide +kernel
theorem dM_choose_29 : decode prog_3_method_14_code 29 = .ok (.aload_n 0, 1) := by decide +kernel
theorem dM_choose_30 : decode prog_3_method_14_code 30 = .ok (.getfield 22, 3) := by decide +kernel
theorem dM_choose_33 : decode prog_3_method_14_code 33 = .ok (.iload_n 2, 1) := by decide +kernel
theorem dM_choose_34 : decode prog_3_method_14_code 34 = .ok (.aaload, 1) := by decide +kernel
theorem dM_choose_35 : decode prog_3_method_14_code 35 = .ok (.getfield 140, 3) := by decide +kernel
theorem dM_choose_38 : decode prog_3_method_14_code 38 = .ok (.iload_n 1, 1) := by decide +kernel
theorem dM_choose_39 : decode prog_3_method_14_code 39 = .ok (.iaload, 1) := by decide +kernel
theorem dM_choose_40 : decode prog_3_method_14_code 40 = .ok (.iload_n 2, 1) := by decide +kernel
theorem dM_choose_41 : decode prog_3_method_14_code 41 = .ok (.invokevirtual 101, 3) := by decide +kernel
theorem dM_choose_44 : decode prog_3_method_14_code 44 = .ok (.goto 19, 3) := by decide +kernel
theorem dM_choose_47 : decode prog_3_method_14_code 47 = .ok (.aload_n 0, 1) := by decide +kernel
theorem dM_choose_48 : decode prog_3_method_14_code 48 = .ok (.aload_n 0, 1) := by decide +kernel
theorem dM_choose_49 : decode prog_3_method_14_code 49 = .ok (.getfield 22, 3) := by decide +kernel
theorem dM_choose_52 : decode prog_3_method_14_code 52 = .ok (.iload_n 2, 1) := by decide +kernel
theorem dM_choose_53 : decode prog_3_method_14_code 53 = .ok (.aaload, 1) := by decide +kernel
theorem dM_choose_54 : decode prog_3_method_14_code 54 = .ok (.getfield 146, 3) := by decide +kernel
theorem dM_choose_57 : decode prog_3_method_14_code 57 = .ok (.iload_n 1, 1) := by decide +kernel
theorem dM_choose_58 : decode prog_3_method_14_code 58 = .ok (.iaload, 1) := by decide +kernel
theorem dM_choose_59 : decode prog_3_method_14_code 59 = .ok (.iload_n 2, 1) := by decide +kernel
theorem dM_choose_60 : decode prog_3_method_14_code 60 = .ok (.invokevirtual 101, 3) := by decide +kernel
theorem dM_choose_63 : decode prog_3_method_14_code 63 = .ok (.return_, 1) := by decide +kernel
def fM_choose (a1 : Int32) (a2 : Int32) (z : lc_S) : Option ((Unit) × lc_S) :=
  lc_bnd (fV_isNumber (lcL z 19 4) z) (fun r4 z4 => if r4 = 0 then (some ((), lcUI z4 19 3 4)) else (lc_bnd (fV_wordOf (lcL z4 19 4) z4) (fun r22 z22 => if r22 = 0 then (lc_chk (lc_in a2 25) (lc_bnr (lcR z22 29 a2.toNatClampNeg) (fun q53 => lc_chk (lc_sh q53 = (0, 1, 0)) (lc_chk (lc_in a1 120) (lc_bnd (fM_begin (lcI z22 (q53 + 5) a1.toNatClampNeg) a2 z22) (fun r60 z60 => some ((), z60))))))) else (lc_chk (lc_in a2 25) (lc_bnr (lcR z22 29 a2.toNatClampNeg) (fun q34 => lc_chk (lc_sh q34 = (0, 1, 0)) (lc_chk (lc_in a1 120) (lc_bnd (fM_begin (lcI z22 (q34 + 4) a1.toNatClampNeg) a2 z22) (fun r41 z41 => some ((), z41))))))))))
set_option maxHeartbeats 4000000 in
set_option maxRecDepth 100000 in
theorem cM_choose (l : Launch) (G : lc_G) {a1 : Int32} {a2 : Int32} {r : Unit} {z z' : lc_S} (hf : fM_choose a1 a2 z = some (r, z')) : lc_M l G yM_choose wM_choose 1 [.ref (lc_ad G 19), .int a1, .int a2] z none z' := by
  refine lc_M_of (cc := prog_3_method_14_code) (maxL := 3) (ret := none) (own := "LinearCells$Machine") (by decide) rfl (fun w h => List.mem_cons_of_mem _ h) (Nat.le_of_ble_eq_true rfl) rfl ?_
  intro p e s m below meth c hx hb hml hr hlocks hown hts hE ls hl hH
  replace hl : lv_has ls 3 [(0, .ref (lc_ad G 19)), (1, .int a1), (2, .int a2)] := hl
  rw [fM_choose] at hf
  refine lv_aload_n hx hb dM_choose_0 rfl (lv_at hl 0 rfl) ?_
  refine lc_getl hx hb hts hown hE hH flM_47 lc_h19 rfl dM_choose_1 ?_
  obtain ⟨r4, z4, h4, hf⟩ := lc_bnd_some hf
  refine lc_calli (va_runS (As := [.long (lcL z 19 4)]) (rest := []) ⟨hx, hb, hml, hown, hts⟩ (cV_isNumber l G h4) (lc_cwS hts ksM_143 (lc_room (by decide) (by decide))) (lc_preS hE hH _) rfl rfl hl.1 rfl (lv_room (Nat.le_of_ble_eq_true rfl)) dM_choose_4 ⟨Nat.zero_le _, Nat.zero_le _⟩) hH (fun H locs hH => ?_)
  refine lv_if_ne (tgt := 18) hx hb dM_choose_7 (by decide) (fun hc => ?_) (fun hc => ?_)
  · replace hf := lc_ite_neg hc hf
    refine lv_aload_n hx hb dM_choose_18 rfl (lv_at hl 0 rfl) ?_
    refine lc_getl hx hb hts hown hE hH flM_47 lc_h19 rfl dM_choose_19 ?_
    obtain ⟨r22, z22, h22, hf⟩ := lc_bnd_some hf
    refine lc_calli (va_runS (As := [.long (lcL z4 19 4)]) (rest := []) ⟨hx, hb, hml, hown, hts⟩ (cV_wordOf l G h22) (lc_cwS hts ksM_57 (lc_room (by decide) (by decide))) (lc_preS hE hH _) rfl rfl hl.1 rfl (lv_room (Nat.le_of_ble_eq_true rfl)) dM_choose_22 ⟨Nat.zero_le _, Nat.zero_le _⟩) hH (fun H locs hH => ?_)
    refine lv_if_eq (tgt := 47) hx hb dM_choose_25 (by decide) (fun hc => ?_) (fun hc => ?_)
    · replace hf := lc_ite_pos hc hf
      refine lv_aload_n hx hb dM_choose_47 rfl (lv_at hl 0 rfl) ?_
      refine lv_aload_n hx hb dM_choose_48 rfl (lv_at hl 0 rfl) ?_
      refine lc_getf (d := 10) (q := 29) hx hb hts hown hE hH flM_22 lc_h19 rfl rfl dM_choose_49 ?_
      refine lv_iload_n hx hb dM_choose_52 rfl (lv_at hl 2 rfl) ?_
      obtain ⟨hi53, hf⟩ := lc_chk_some hf
      obtain ⟨q53, hq53, hf⟩ := lc_bnr_some hf
      refine lc_aald hx hb hE hH lc_h29 rfl hi53 hq53 dM_choose_53 ?_
      obtain ⟨hs54_0, hf⟩ := lc_chk_some hf
      refine lc_getf (d := 5) (q := q53 + 5) hx hb hts hown hE hH flM_146 hs54_0 rfl rfl dM_choose_54 ?_
      refine lv_iload_n hx hb dM_choose_57 rfl (lv_at hl 1 rfl) ?_
      obtain ⟨hi58, hf⟩ := lc_chk_some hf
      refine lc_iald hx hb hE hH (lc_pr5 hs54_0) rfl hi58 dM_choose_58 ?_
      refine lv_iload_n hx hb dM_choose_59 rfl (lv_at hl 2 rfl) ?_
      obtain ⟨r60, z60, h60, hf⟩ := lc_bnd_some hf
      refine lc_callv (va_runV (As := [.int (lcI z22 (q53 + 5) a1.toNatClampNeg), .int a2]) (rest := []) ⟨hx, hb, hml, hown, hts⟩ (cM_begin l G h60) (lc_cwV hts kvM_101 (lc_room (by decide) (by decide))) (lc_preV hE hH lc_h19 rfl _) rfl rfl hl.1 rfl (lv_room (Nat.le_of_ble_eq_true rfl)) dM_choose_60 ⟨Nat.zero_le _, Nat.zero_le _⟩) hH (fun H locs hH => ?_)
      exact lc_vret hx hb hr hlocks hH hf dM_choose_63
    · replace hf := lc_ite_neg hc hf
      refine lv_aload_n hx hb dM_choose_28 rfl (lv_at hl 0 rfl) ?_
      refine lv_aload_n hx hb dM_choose_29 rfl (lv_at hl 0 rfl) ?_
      refine lc_getf (d := 10) (q := 29) hx hb hts hown hE hH flM_22 lc_h19 rfl rfl dM_choose_30 ?_
      refine lv_iload_n hx hb dM_choose_33 rfl (lv_at hl 2 rfl) ?_
      obtain ⟨hi34, hf⟩ := lc_chk_some hf
      obtain ⟨q34, hq34, hf⟩ := lc_bnr_some hf
      refine lc_aald hx hb hE hH lc_h29 rfl hi34 hq34 dM_choose_34 ?_
      obtain ⟨hs35_0, hf⟩ := lc_chk_some hf
      refine lc_getf (d := 4) (q := q34 + 4) hx hb hts hown hE hH flM_140 hs35_0 rfl rfl dM_choose_35 ?_
      refine lv_iload_n hx hb dM_choose_38 rfl (lv_at hl 1 rfl) ?_
      obtain ⟨hi39, hf⟩ := lc_chk_some hf
      refine lc_iald hx hb hE hH (lc_pr4 hs35_0) rfl hi39 dM_choose_39 ?_
      refine lv_iload_n hx hb dM_choose_40 rfl (lv_at hl 2 rfl) ?_
      obtain ⟨r41, z41, h41, hf⟩ := lc_bnd_some hf
      refine lc_callv (va_runV (As := [.int (lcI z22 (q34 + 4) a1.toNatClampNeg), .int a2]) (rest := []) ⟨hx, hb, hml, hown, hts⟩ (cM_begin l G h41) (lc_cwV hts kvM_101 (lc_room (by decide) (by decide))) (lc_preV hE hH lc_h19 rfl _) rfl rfl hl.1 rfl (lv_room (Nat.le_of_ble_eq_true rfl)) dM_choose_41 ⟨Nat.zero_le _, Nat.zero_le _⟩) hH (fun H locs hH => ?_)
      refine lv_goto (tgt := 63) hx hb dM_choose_44 (by decide) ?_
      exact lc_vret hx hb hr hlocks hH hf dM_choose_63
  · replace hf := lc_ite_pos hc hf
    refine lv_aload_n hx hb dM_choose_10 rfl (lv_at hl 0 rfl) ?_
    refine lv_iconst (v := 4) hx hb dM_choose_11 (by decide) ?_
    refine lc_puti hx hb hts hown hE hH fpM_70 lc_h19 rfl rfl rfl dM_choose_12 (fun H locs hH => ?_)
    refine lv_goto (tgt := 63) hx hb dM_choose_15 (by decide) ?_
    exact lc_vret hx hb hr hlocks hH hf dM_choose_63
theorem dM_split_0 : decode prog_3_method_15_code 0 = .ok (.aload_n 0, 1) := by decide +kernel
theorem dM_split_1 : decode prog_3_method_15_code 1 = .ok (.getfield 47, 3) := by decide +kernel
theorem dM_split_4 : decode prog_3_method_15_code 4 = .ok (.invokestatic 149, 3) := by decide +kernel
theorem dM_split_7 : decode prog_3_method_15_code 7 = .ok (.ifCond .ne 11, 3) := by decide +kernel
theorem dM_split_10 : decode prog_3_method_15_code 10 = .ok (.aload_n 0, 1) := by decide +kernel
theorem dM_split_11 : decode prog_3_method_15_code 11 = .ok (.iconst 4, 1) := by decide +kernel
theorem dM_split_12 : decode prog_3_method_15_code 12 = .ok (.putfield 70, 3) := by decide +kernel
theorem dM_split_15 : decode prog_3_method_15_code 15 = .ok (.goto 35, 3) := by decide +kernel
theorem dM_split_18 : decode prog_3_method_15_code 18 = .ok (.aload_n 0, 1) := by decide +kernel
theorem dM_split_19 : decode prog_3_method_15_code 19 = .ok (.iload_n 2, 1) := by decide +kernel
theorem dM_split_20 : decode prog_3_method_15_code 20 = .ok (.aload_n 0, 1) := by decide +kernel
theorem dM_split_21 : decode prog_3_method_15_code 21 = .ok (.getfield 22, 3) := by decide +kernel
theorem dM_split_24 : decode prog_3_method_15_code 24 = .ok (.iload_n 2, 1) := by decide +kernel
theorem dM_split_25 : decode prog_3_method_15_code 25 = .ok (.aaload, 1) := by decide +kernel
theorem dM_split_26 : decode prog_3_method_15_code 26 = .ok (.getfield 127, 3) := by decide +kernel
theorem dM_split_29 : decode prog_3_method_15_code 29 = .ok (.iload_n 1, 1) := by decide +kernel
theorem dM_split_30 : decode prog_3_method_15_code 30 = .ok (.iaload, 1) := by decide +kernel
theorem dM_split_31 : decode prog_3_method_15_code 31 = .ok (.invokevirtual 94, 3) := by decide +kernel
theorem dM_split_34 : decode prog_3_method_15_code 34 = .ok (.aload_n 0, 1) := by decide +kernel
theorem dM_split_35 : decode prog_3_method_15_code 35 = .ok (.aload_n 0, 1) := by decide +kernel
theorem dM_split_36 : decode prog_3_method_15_code 36 = .ok (.getfield 22, 3) := by decide +kernel
theorem dM_split_39 : decode prog_3_method_15_code 39 = .ok (.iload_n 2, 1) := by decide +kernel
theorem dM_split_40 : decode prog_3_method_15_code 40 = .ok (.aaload, 1) := by decide +kernel
theorem dM_split_41 : decode prog_3_method_15_code 41 = .ok (.getfield 140, 3) := by decide +kernel
theorem dM_split_44 : decode prog_3_method_15_code 44 = .ok (.iload_n 1, 1) := by decide +kernel
theorem dM_split_45 : decode prog_3_method_15_code 45 = .ok (.iaload, 1) := by decide +kernel
theorem dM_split_46 : decode prog_3_method_15_code 46 = .ok (.iload_n 2, 1) := by decide +kernel
theorem dM_split_47 : decode prog_3_method_15_code 47 = .ok (.invokevirtual 101, 3) := by decide +kernel
theorem dM_split_50 : decode prog_3_method_15_code 50 = .ok (.return_, 1) := by decide +kernel
def fM_split (a1 : Int32) (a2 : Int32) (z : lc_S) : Option ((Unit) × lc_S) :=
  lc_bnd (fV_isPair (lcL z 19 4) z) (fun r4 z4 => if r4 = 0 then (some ((), lcUI z4 19 3 4)) else (lc_chk (lc_in a2 25) (lc_bnr (lcR z4 29 a2.toNatClampNeg) (fun q25 => lc_chk (lc_sh q25 = (0, 1, 0)) (lc_chk (lc_in a1 120) (lc_bnd (fM_bind a2 (lcI z4 (q25 + 7) a1.toNatClampNeg) z4) (fun r31 z31 => lc_chk (lc_in a2 25) (lc_bnr (lcR z31 29 a2.toNatClampNeg) (fun q40 => lc_chk (lc_sh q40 = (0, 1, 0)) (lc_chk (lc_in a1 120) (lc_bnd (fM_begin (lcI z31 (q40 + 4) a1.toNatClampNeg) a2 z31) (fun r47 z47 => some ((), z47)))))))))))))
set_option maxHeartbeats 4000000 in
set_option maxRecDepth 100000 in
theorem cM_split (l : Launch) (G : lc_G) {a1 : Int32} {a2 : Int32} {r : Unit} {z z' : lc_S} (hf : fM_split a1 a2 z = some (r, z')) : lc_M l G yM_split wM_split 1 [.ref (lc_ad G 19), .int a1, .int a2] z none z' := by
  refine lc_M_of (cc := prog_3_method_15_code) (maxL := 3) (ret := none) (own := "LinearCells$Machine") (by decide) rfl (fun w h => List.mem_cons_of_mem _ h) (Nat.le_of_ble_eq_true rfl) rfl ?_
  intro p e s m below meth c hx hb hml hr hlocks hown hts hE ls hl hH
  replace hl : lv_has ls 3 [(0, .ref (lc_ad G 19)), (1, .int a1), (2, .int a2)] := hl
  rw [fM_split] at hf
  refine lv_aload_n hx hb dM_split_0 rfl (lv_at hl 0 rfl) ?_
  refine lc_getl hx hb hts hown hE hH flM_47 lc_h19 rfl dM_split_1 ?_
  obtain ⟨r4, z4, h4, hf⟩ := lc_bnd_some hf
  refine lc_calli (va_runS (As := [.long (lcL z 19 4)]) (rest := []) ⟨hx, hb, hml, hown, hts⟩ (cV_isPair l G h4) (lc_cwS hts ksM_149 (lc_room (by decide) (by decide))) (lc_preS hE hH _) rfl rfl hl.1 rfl (lv_room (Nat.le_of_ble_eq_true rfl)) dM_split_4 ⟨Nat.zero_le _, Nat.zero_le _⟩) hH (fun H locs hH => ?_)
  refine lv_if_ne (tgt := 18) hx hb dM_split_7 (by decide) (fun hc => ?_) (fun hc => ?_)
  · replace hf := lc_ite_neg hc hf
    refine lv_aload_n hx hb dM_split_18 rfl (lv_at hl 0 rfl) ?_
    refine lv_iload_n hx hb dM_split_19 rfl (lv_at hl 2 rfl) ?_
    refine lv_aload_n hx hb dM_split_20 rfl (lv_at hl 0 rfl) ?_
    refine lc_getf (d := 10) (q := 29) hx hb hts hown hE hH flM_22 lc_h19 rfl rfl dM_split_21 ?_
    refine lv_iload_n hx hb dM_split_24 rfl (lv_at hl 2 rfl) ?_
    obtain ⟨hi25, hf⟩ := lc_chk_some hf
    obtain ⟨q25, hq25, hf⟩ := lc_bnr_some hf
    refine lc_aald hx hb hE hH lc_h29 rfl hi25 hq25 dM_split_25 ?_
    obtain ⟨hs26_0, hf⟩ := lc_chk_some hf
    refine lc_getf (d := 7) (q := q25 + 7) hx hb hts hown hE hH flM_127 hs26_0 rfl rfl dM_split_26 ?_
    refine lv_iload_n hx hb dM_split_29 rfl (lv_at hl 1 rfl) ?_
    obtain ⟨hi30, hf⟩ := lc_chk_some hf
    refine lc_iald hx hb hE hH (lc_pr7 hs26_0) rfl hi30 dM_split_30 ?_
    obtain ⟨r31, z31, h31, hf⟩ := lc_bnd_some hf
    refine lc_callv (va_runV (As := [.int a2, .int (lcI z4 (q25 + 7) a1.toNatClampNeg)]) (rest := []) ⟨hx, hb, hml, hown, hts⟩ (cM_bind l G h31) (lc_cwV hts kvM_94 (lc_room (by decide) (by decide))) (lc_preV hE hH lc_h19 rfl _) rfl rfl hl.1 rfl (lv_room (Nat.le_of_ble_eq_true rfl)) dM_split_31 ⟨Nat.zero_le _, Nat.zero_le _⟩) hH (fun H locs hH => ?_)
    refine lv_aload_n hx hb dM_split_34 rfl (lv_at hl 0 rfl) ?_
    refine lv_aload_n hx hb dM_split_35 rfl (lv_at hl 0 rfl) ?_
    refine lc_getf (d := 10) (q := 29) hx hb hts hown hE hH flM_22 lc_h19 rfl rfl dM_split_36 ?_
    refine lv_iload_n hx hb dM_split_39 rfl (lv_at hl 2 rfl) ?_
    obtain ⟨hi40, hf⟩ := lc_chk_some hf
    obtain ⟨q40, hq40, hf⟩ := lc_bnr_some hf
    refine lc_aald hx hb hE hH lc_h29 rfl hi40 hq40 dM_split_40 ?_
    obtain ⟨hs41_0, hf⟩ := lc_chk_some hf
    refine lc_getf (d := 4) (q := q40 + 4) hx hb hts hown hE hH flM_140 hs41_0 rfl rfl dM_split_41 ?_
    refine lv_iload_n hx hb dM_split_44 rfl (lv_at hl 1 rfl) ?_
    obtain ⟨hi45, hf⟩ := lc_chk_some hf
    refine lc_iald hx hb hE hH (lc_pr4 hs41_0) rfl hi45 dM_split_45 ?_
    refine lv_iload_n hx hb dM_split_46 rfl (lv_at hl 2 rfl) ?_
    obtain ⟨r47, z47, h47, hf⟩ := lc_bnd_some hf
    refine lc_callv (va_runV (As := [.int (lcI z31 (q40 + 4) a1.toNatClampNeg), .int a2]) (rest := []) ⟨hx, hb, hml, hown, hts⟩ (cM_begin l G h47) (lc_cwV hts kvM_101 (lc_room (by decide) (by decide))) (lc_preV hE hH lc_h19 rfl _) rfl rfl hl.1 rfl (lv_room (Nat.le_of_ble_eq_true rfl)) dM_split_47 ⟨Nat.zero_le _, Nat.zero_le _⟩) hH (fun H locs hH => ?_)
    exact lc_vret hx hb hr hlocks hH hf dM_split_50
  · replace hf := lc_ite_pos hc hf
    refine lv_aload_n hx hb dM_split_10 rfl (lv_at hl 0 rfl) ?_
    refine lv_iconst (v := 4) hx hb dM_split_11 (by decide) ?_
    refine lc_puti hx hb hts hown hE hH fpM_70 lc_h19 rfl rfl rfl dM_split_12 (fun H locs hH => ?_)
    refine lv_goto (tgt := 50) hx hb dM_split_15 (by decide) ?_
    exact lc_vret hx hb hr hlocks hH hf dM_split_50
theorem dM_goOn_0 : decode prog_3_method_13_code 0 = .ok (.aload_n 0, 1) := by decide +kernel
theorem dM_goOn_1 : decode prog_3_method_13_code 1 = .ok (.getfield 22, 3) := by decide +kernel
theorem dM_goOn_4 : decode prog_3_method_13_code 4 = .ok (.iload_n 2, 1) := by decide +kernel
theorem dM_goOn_5 : decode prog_3_method_13_code 5 = .ok (.aaload, 1) := by decide +kernel
theorem dM_goOn_6 : decode prog_3_method_13_code 6 = .ok (.astore_n 3, 1) := by decide +kernel
theorem dM_goOn_7 : decode prog_3_method_13_code 7 = .ok (.aload_n 3, 1) := by decide +kernel
theorem dM_goOn_8 : decode prog_3_method_13_code 8 = .ok (.getfield 104, 3) := by decide +kernel
theorem dM_goOn_11 : decode prog_3_method_13_code 11 = .ok (.iload_n 1, 1) := by decide +kernel
theorem dM_goOn_12 : decode prog_3_method_13_code 12 = .ok (.iaload, 1) := by decide +kernel
theorem dM_goOn_13 : decode prog_3_method_13_code 13 = .ok (.lookupswitch 102 #[(47, 68), (58, 77), (63, 59), (64, 43)], 43) := by decide +kernel
theorem dM_goOn_56 : decode prog_3_method_13_code 56 = .ok (.aload_n 0, 1) := by decide +kernel
theorem dM_goOn_57 : decode prog_3_method_13_code 57 = .ok (.aload_n 3, 1) := by decide +kernel
theorem dM_goOn_58 : decode prog_3_method_13_code 58 = .ok (.getfield 107, 3) := by decide +kernel
theorem dM_goOn_61 : decode prog_3_method_13_code 61 = .ok (.iload_n 1, 1) := by decide +kernel
theorem dM_goOn_62 : decode prog_3_method_13_code 62 = .ok (.iaload, 1) := by decide +kernel
theorem dM_goOn_63 : decode prog_3_method_13_code 63 = .ok (.iload_n 2, 1) := by decide +kernel
theorem dM_goOn_64 : decode prog_3_method_13_code 64 = .ok (.iconst 1, 1) := by decide +kernel
theorem dM_goOn_65 : decode prog_3_method_13_code 65 = .ok (.iadd, 1) := by decide +kernel
theorem dM_goOn_66 : decode prog_3_method_13_code 66 = .ok (.invokevirtual 80, 3) := by decide +kernel
theorem dM_goOn_69 : decode prog_3_method_13_code 69 = .ok (.goto 72, 3) := by decide +kernel
theorem dM_goOn_72 : decode prog_3_method_13_code 72 = .ok (.aload_n 0, 1) := by decide +kernel
theorem dM_goOn_73 : decode prog_3_method_13_code 73 = .ok (.iload_n 1, 1) := by decide +kernel
theorem dM_goOn_74 : decode prog_3_method_13_code 74 = .ok (.iload_n 2, 1) := by decide +kernel
theorem dM_goOn_75 : decode prog_3_method_13_code 75 = .ok (.invokevirtual 134, 3) := by decide +kernel
theorem dM_goOn_78 : decode prog_3_method_13_code 78 = .ok (.goto 63, 3) := by decide +kernel
theorem dM_goOn_81 : decode prog_3_method_13_code 81 = .ok (.aload_n 0, 1) := by decide +kernel
theorem dM_goOn_82 : decode prog_3_method_13_code 82 = .ok (.iload_n 1, 1) := by decide +kernel
theorem dM_goOn_83 : decode prog_3_method_13_code 83 = .ok (.iload_n 2, 1) := by decide +kernel
theorem dM_goOn_84 : decode prog_3_method_13_code 84 = .ok (.invokevirtual 137, 3) := by decide +kernel
theorem dM_goOn_87 : decode prog_3_method_13_code 87 = .ok (.goto 54, 3) := by decide +kernel
theorem dM_goOn_90 : decode prog_3_method_13_code 90 = .ok (.aload_n 0, 1) := by decide +kernel
theorem dM_goOn_91 : decode prog_3_method_13_code 91 = .ok (.iload_n 2, 1) := by decide +kernel
theorem dM_goOn_92 : decode prog_3_method_13_code 92 = .ok (.aload_n 3, 1) := by decide +kernel
theorem dM_goOn_93 : decode prog_3_method_13_code 93 = .ok (.getfield 127, 3) := by decide +kernel
theorem dM_goOn_96 : decode prog_3_method_13_code 96 = .ok (.iload_n 1, 1) := by decide +kernel
theorem dM_goOn_97 : decode prog_3_method_13_code 97 = .ok (.iaload, 1) := by decide +kernel
theorem dM_goOn_98 : decode prog_3_method_13_code 98 = .ok (.invokevirtual 94, 3) := by decide +kernel
theorem dM_goOn_101 : decode prog_3_method_13_code 101 = .ok (.aload_n 0, 1) := by decide +kernel
theorem dM_goOn_102 : decode prog_3_method_13_code 102 = .ok (.aload_n 3, 1) := by decide +kernel
theorem dM_goOn_103 : decode prog_3_method_13_code 103 = .ok (.getfield 140, 3) := by decide +kernel
theorem dM_goOn_106 : decode prog_3_method_13_code 106 = .ok (.iload_n 1, 1) := by decide +kernel
theorem dM_goOn_107 : decode prog_3_method_13_code 107 = .ok (.iaload, 1) := by decide +kernel
theorem dM_goOn_108 : decode prog_3_method_13_code 108 = .ok (.iload_n 2, 1) := by decide +kernel
theorem dM_goOn_109 : decode prog_3_method_13_code 109 = .ok (.invokevirtual 101, 3) := by decide +kernel
theorem dM_goOn_112 : decode prog_3_method_13_code 112 = .ok (.goto 29, 3) := by decide +kernel
theorem dM_goOn_115 : decode prog_3_method_13_code 115 = .ok (.aload_n 0, 1) := by decide +kernel
theorem dM_goOn_116 : decode prog_3_method_13_code 116 = .ok (.getfield 40, 3) := by decide +kernel
theorem dM_goOn_119 : decode prog_3_method_13_code 119 = .ok (.aload_n 0, 1) := by decide +kernel
theorem dM_goOn_120 : decode prog_3_method_13_code 120 = .ok (.getfield 73, 3) := by decide +kernel
theorem dM_goOn_123 : decode prog_3_method_13_code 123 = .ok (.iconst 1, 1) := by decide +kernel
theorem dM_goOn_124 : decode prog_3_method_13_code 124 = .ok (.isub, 1) := by decide +kernel
theorem dM_goOn_125 : decode prog_3_method_13_code 125 = .ok (.aload_n 0, 1) := by decide +kernel
theorem dM_goOn_126 : decode prog_3_method_13_code 126 = .ok (.getfield 47, 3) := by decide +kernel
theorem dM_goOn_129 : decode prog_3_method_13_code 129 = .ok (.lastore, 1) := by decide +kernel
theorem dM_goOn_130 : decode prog_3_method_13_code 130 = .ok (.aload_n 0, 1) := by decide +kernel
theorem dM_goOn_131 : decode prog_3_method_13_code 131 = .ok (.aload_n 3, 1) := by decide +kernel
theorem dM_goOn_132 : decode prog_3_method_13_code 132 = .ok (.getfield 140, 3) := by decide +kernel
theorem dM_goOn_135 : decode prog_3_method_13_code 135 = .ok (.iload_n 1, 1) := by decide +kernel
theorem dM_goOn_136 : decode prog_3_method_13_code 136 = .ok (.iaload, 1) := by decide +kernel
theorem dM_goOn_137 : decode prog_3_method_13_code 137 = .ok (.iload_n 2, 1) := by decide +kernel
theorem dM_goOn_138 : decode prog_3_method_13_code 138 = .ok (.invokevirtual 101, 3) := by decide +kernel
theorem dM_goOn_141 : decode prog_3_method_13_code 141 = .ok (.return_, 1) := by decide +kernel
def fM_goOn (a1 : Int32) (a2 : Int32) (z : lc_S) : Option ((Unit) × lc_S) :=
  lc_chk (lc_in a2 25) (lc_bnr (lcR z 29 a2.toNatClampNeg) (fun q5 => lc_chk (lc_sh q5 = (0, 1, 0)) (lc_chk (lc_in a1 120) (if (lcI z (q5 + 2) a1.toNatClampNeg) = 47 then (lc_bnd (fM_split a1 a2 z) (fun r84 z84 => some ((), z84))) else (if (lcI z (q5 + 2) a1.toNatClampNeg) = 58 then (lc_chk (lc_in a1 120) (lc_bnd (fM_bind a2 (lcI z (q5 + 7) a1.toNatClampNeg) z) (fun r98 z98 => lc_chk (lc_in a1 120) (lc_bnd (fM_begin (lcI z98 (q5 + 4) a1.toNatClampNeg) a2 z98) (fun r109 z109 => some ((), z109)))))) else (if (lcI z (q5 + 2) a1.toNatClampNeg) = 63 then (lc_bnd (fM_choose a1 a2 z) (fun r75 z75 => some ((), z75))) else (if (lcI z (q5 + 2) a1.toNatClampNeg) = 64 then (lc_chk (lc_in a1 120) (lc_bnd (fM_enter (lcI z (q5 + 6) a1.toNatClampNeg) (a2 + 1) z) (fun r66 z66 => some ((), z66)))) else (lc_chk (lc_in ((lcI z 19 11) - 1) 408) (lc_chk (lc_in a1 120) (lc_bnd (fM_begin (lcI (lcUL z 34 ((lcI z 19 11) - 1).toNatClampNeg (lcL z 19 4)) (q5 + 4) a1.toNatClampNeg) a2 (lcUL z 34 ((lcI z 19 11) - 1).toNatClampNeg (lcL z 19 4))) (fun r138 z138 => some ((), z138))))))))))))
set_option maxHeartbeats 4000000 in
set_option maxRecDepth 100000 in
theorem cM_goOn (l : Launch) (G : lc_G) {a1 : Int32} {a2 : Int32} {r : Unit} {z z' : lc_S} (hf : fM_goOn a1 a2 z = some (r, z')) : lc_M l G yM_goOn wM_goOn 2 [.ref (lc_ad G 19), .int a1, .int a2] z none z' := by
  refine lc_M_of (cc := prog_3_method_13_code) (maxL := 4) (ret := none) (own := "LinearCells$Machine") (by decide) rfl (fun w h => List.mem_cons_of_mem _ h) (Nat.le_of_ble_eq_true rfl) rfl ?_
  intro p e s m below meth c hx hb hml hr hlocks hown hts hE ls hl hH
  replace hl : lv_has ls 4 [(0, .ref (lc_ad G 19)), (1, .int a1), (2, .int a2)] := hl
  rw [fM_goOn] at hf
  refine lv_aload_n hx hb dM_goOn_0 rfl (lv_at hl 0 rfl) ?_
  refine lc_getf (d := 10) (q := 29) hx hb hts hown hE hH flM_22 lc_h19 rfl rfl dM_goOn_1 ?_
  refine lv_iload_n hx hb dM_goOn_4 rfl (lv_at hl 2 rfl) ?_
  obtain ⟨hi5, hf⟩ := lc_chk_some hf
  obtain ⟨q5, hq5, hf⟩ := lc_bnr_some hf
  refine lc_aald hx hb hE hH lc_h29 rfl hi5 hq5 dM_goOn_5 ?_
  refine lv_astore_n hx hb dM_goOn_6 rfl hl (by decide) rfl (fun ls hl => ?_)
  replace hl : lv_has ls 4 [(3, .ref (lc_ad G q5)), (0, .ref (lc_ad G 19)), (1, .int a1), (2, .int a2)] := hl
  refine lv_aload_n hx hb dM_goOn_7 rfl (lv_at hl 0 rfl) ?_
  obtain ⟨hs8_0, hf⟩ := lc_chk_some hf
  refine lc_getf (d := 2) (q := q5 + 2) hx hb hts hown hE hH flM_104 hs8_0 rfl rfl dM_goOn_8 ?_
  refine lv_iload_n hx hb dM_goOn_11 rfl (lv_at hl 2 rfl) ?_
  obtain ⟨hi12, hf⟩ := lc_chk_some hf
  refine lc_iald hx hb hE hH (lc_pr2 hs8_0) rfl hi12 dM_goOn_12 ?_
  by_cases hc47 : (lcI z (q5 + 2) a1.toNatClampNeg) = 47
  · replace hf := lc_ite_pos hc47 hf
    refine lv_lookup (tgt := 81) (off := 68) hx hb dM_goOn_13 (by decide) (by rw [hc47] <;> rfl) (by decide) ?_
    refine lv_aload_n hx hb dM_goOn_81 rfl (lv_at hl 1 rfl) ?_
    refine lv_iload_n hx hb dM_goOn_82 rfl (lv_at hl 2 rfl) ?_
    refine lv_iload_n hx hb dM_goOn_83 rfl (lv_at hl 3 rfl) ?_
    obtain ⟨r84, z84, h84, hf⟩ := lc_bnd_some hf
    refine lc_callv (va_runV (As := [.int a1, .int a2]) (rest := []) ⟨hx, hb, hml, hown, hts⟩ (cM_split l G h84) (lc_cwV hts kvM_137 (lc_room (by decide) (by decide))) (lc_preV hE hH lc_h19 rfl _) rfl rfl hl.1 rfl (lv_room (Nat.le_of_ble_eq_true rfl)) dM_goOn_84 ⟨Nat.zero_le _, Nat.zero_le _⟩) hH (fun H locs hH => ?_)
    refine lv_goto (tgt := 141) hx hb dM_goOn_87 (by decide) ?_
    exact lc_vret hx hb hr hlocks hH hf dM_goOn_141
  replace hf := lc_ite_neg hc47 hf
  by_cases hc58 : (lcI z (q5 + 2) a1.toNatClampNeg) = 58
  · replace hf := lc_ite_pos hc58 hf
    refine lv_lookup (tgt := 90) (off := 77) hx hb dM_goOn_13 (by decide) (by rw [hc58] <;> rfl) (by decide) ?_
    refine lv_aload_n hx hb dM_goOn_90 rfl (lv_at hl 1 rfl) ?_
    refine lv_iload_n hx hb dM_goOn_91 rfl (lv_at hl 3 rfl) ?_
    refine lv_aload_n hx hb dM_goOn_92 rfl (lv_at hl 0 rfl) ?_
    refine lc_getf (d := 7) (q := q5 + 7) hx hb hts hown hE hH flM_127 hs8_0 rfl rfl dM_goOn_93 ?_
    refine lv_iload_n hx hb dM_goOn_96 rfl (lv_at hl 2 rfl) ?_
    obtain ⟨hi97, hf⟩ := lc_chk_some hf
    refine lc_iald hx hb hE hH (lc_pr7 hs8_0) rfl hi97 dM_goOn_97 ?_
    obtain ⟨r98, z98, h98, hf⟩ := lc_bnd_some hf
    refine lc_callv (va_runV (As := [.int a2, .int (lcI z (q5 + 7) a1.toNatClampNeg)]) (rest := []) ⟨hx, hb, hml, hown, hts⟩ (cM_bind l G h98) (lc_cwV hts kvM_94 (lc_room (by decide) (by decide))) (lc_preV hE hH lc_h19 rfl _) rfl rfl hl.1 rfl (lv_room (Nat.le_of_ble_eq_true rfl)) dM_goOn_98 ⟨Nat.zero_le _, Nat.zero_le _⟩) hH (fun H locs hH => ?_)
    refine lv_aload_n hx hb dM_goOn_101 rfl (lv_at hl 1 rfl) ?_
    refine lv_aload_n hx hb dM_goOn_102 rfl (lv_at hl 0 rfl) ?_
    refine lc_getf (d := 4) (q := q5 + 4) hx hb hts hown hE hH flM_140 hs8_0 rfl rfl dM_goOn_103 ?_
    refine lv_iload_n hx hb dM_goOn_106 rfl (lv_at hl 2 rfl) ?_
    obtain ⟨hi107, hf⟩ := lc_chk_some hf
    refine lc_iald hx hb hE hH (lc_pr4 hs8_0) rfl hi107 dM_goOn_107 ?_
    refine lv_iload_n hx hb dM_goOn_108 rfl (lv_at hl 3 rfl) ?_
    obtain ⟨r109, z109, h109, hf⟩ := lc_bnd_some hf
    refine lc_callv (va_runV (As := [.int (lcI z98 (q5 + 4) a1.toNatClampNeg), .int a2]) (rest := []) ⟨hx, hb, hml, hown, hts⟩ (cM_begin l G h109) (lc_cwV hts kvM_101 (lc_room (by decide) (by decide))) (lc_preV hE hH lc_h19 rfl _) rfl rfl hl.1 rfl (lv_room (Nat.le_of_ble_eq_true rfl)) dM_goOn_109 ⟨Nat.zero_le _, Nat.zero_le _⟩) hH (fun H locs hH => ?_)
    refine lv_goto (tgt := 141) hx hb dM_goOn_112 (by decide) ?_
    exact lc_vret hx hb hr hlocks hH hf dM_goOn_141
  replace hf := lc_ite_neg hc58 hf
  by_cases hc63 : (lcI z (q5 + 2) a1.toNatClampNeg) = 63
  · replace hf := lc_ite_pos hc63 hf
    refine lv_lookup (tgt := 72) (off := 59) hx hb dM_goOn_13 (by decide) (by rw [hc63] <;> rfl) (by decide) ?_
    refine lv_aload_n hx hb dM_goOn_72 rfl (lv_at hl 1 rfl) ?_
    refine lv_iload_n hx hb dM_goOn_73 rfl (lv_at hl 2 rfl) ?_
    refine lv_iload_n hx hb dM_goOn_74 rfl (lv_at hl 3 rfl) ?_
    obtain ⟨r75, z75, h75, hf⟩ := lc_bnd_some hf
    refine lc_callv (va_runV (As := [.int a1, .int a2]) (rest := []) ⟨hx, hb, hml, hown, hts⟩ (cM_choose l G h75) (lc_cwV hts kvM_134 (lc_room (by decide) (by decide))) (lc_preV hE hH lc_h19 rfl _) rfl rfl hl.1 rfl (lv_room (Nat.le_of_ble_eq_true rfl)) dM_goOn_75 ⟨Nat.zero_le _, Nat.zero_le _⟩) hH (fun H locs hH => ?_)
    refine lv_goto (tgt := 141) hx hb dM_goOn_78 (by decide) ?_
    exact lc_vret hx hb hr hlocks hH hf dM_goOn_141
  replace hf := lc_ite_neg hc63 hf
  by_cases hc64 : (lcI z (q5 + 2) a1.toNatClampNeg) = 64
  · replace hf := lc_ite_pos hc64 hf
    refine lv_lookup (tgt := 56) (off := 43) hx hb dM_goOn_13 (by decide) (by rw [hc64] <;> rfl) (by decide) ?_
    refine lv_aload_n hx hb dM_goOn_56 rfl (lv_at hl 1 rfl) ?_
    refine lv_aload_n hx hb dM_goOn_57 rfl (lv_at hl 0 rfl) ?_
    refine lc_getf (d := 6) (q := q5 + 6) hx hb hts hown hE hH flM_107 hs8_0 rfl rfl dM_goOn_58 ?_
    refine lv_iload_n hx hb dM_goOn_61 rfl (lv_at hl 2 rfl) ?_
    obtain ⟨hi62, hf⟩ := lc_chk_some hf
    refine lc_iald hx hb hE hH (lc_pr6 hs8_0) rfl hi62 dM_goOn_62 ?_
    refine lv_iload_n hx hb dM_goOn_63 rfl (lv_at hl 3 rfl) ?_
    refine lv_iconst (v := 1) hx hb dM_goOn_64 (by decide) ?_
    refine lv_iadd hx hb dM_goOn_65 ?_
    obtain ⟨r66, z66, h66, hf⟩ := lc_bnd_some hf
    refine lc_callv (va_runV (As := [.int (lcI z (q5 + 6) a1.toNatClampNeg), .int (a2 + 1)]) (rest := []) ⟨hx, hb, hml, hown, hts⟩ (cM_enter l G h66) (lc_cwV hts kvM_80 (lc_room (by decide) (by decide))) (lc_preV hE hH lc_h19 rfl _) rfl rfl hl.1 rfl (lv_room (Nat.le_of_ble_eq_true rfl)) dM_goOn_66 ⟨Nat.zero_le _, Nat.zero_le _⟩) hH (fun H locs hH => ?_)
    refine lv_goto (tgt := 141) hx hb dM_goOn_69 (by decide) ?_
    exact lc_vret hx hb hr hlocks hH hf dM_goOn_141
  replace hf := lc_ite_neg hc64 hf
  refine lv_lookup (tgt := 115) (off := 102) hx hb dM_goOn_13 (by decide) ((lv_osw hc47 (by decide)).trans ((lv_osw hc58 (by decide)).trans ((lv_osw hc63 (by decide)).trans ((lv_osw hc64 (by decide)).trans rfl)))) (by decide) ?_
  refine lv_aload_n hx hb dM_goOn_115 rfl (lv_at hl 1 rfl) ?_
  refine lc_getf (d := 15) (q := 34) hx hb hts hown hE hH flM_40 lc_h19 rfl rfl dM_goOn_116 ?_
  refine lv_aload_n hx hb dM_goOn_119 rfl (lv_at hl 1 rfl) ?_
  refine lc_geti hx hb hts hown hE hH flM_73 lc_h19 rfl dM_goOn_120 ?_
  refine lv_iconst (v := 1) hx hb dM_goOn_123 (by decide) ?_
  refine lv_isub hx hb dM_goOn_124 ?_
  refine lv_aload_n hx hb dM_goOn_125 rfl (lv_at hl 1 rfl) ?_
  refine lc_getl hx hb hts hown hE hH flM_47 lc_h19 rfl dM_goOn_126 ?_
  obtain ⟨hi129, hf⟩ := lc_chk_some hf
  refine lc_last hx hb hE hH lc_h34 rfl hi129 dM_goOn_129 (fun H locs hH => ?_)
  refine lv_aload_n hx hb dM_goOn_130 rfl (lv_at hl 1 rfl) ?_
  refine lv_aload_n hx hb dM_goOn_131 rfl (lv_at hl 0 rfl) ?_
  refine lc_getf (d := 4) (q := q5 + 4) hx hb hts hown hE hH flM_140 hs8_0 rfl rfl dM_goOn_132 ?_
  refine lv_iload_n hx hb dM_goOn_135 rfl (lv_at hl 2 rfl) ?_
  obtain ⟨hi136, hf⟩ := lc_chk_some hf
  refine lc_iald hx hb hE hH (lc_pr4 hs8_0) rfl hi136 dM_goOn_136 ?_
  refine lv_iload_n hx hb dM_goOn_137 rfl (lv_at hl 3 rfl) ?_
  obtain ⟨r138, z138, h138, hf⟩ := lc_bnd_some hf
  refine lc_callv (va_runV (As := [.int (lcI (lcUL z 34 ((lcI z 19 11) - 1).toNatClampNeg (lcL z 19 4)) (q5 + 4) a1.toNatClampNeg), .int a2]) (rest := []) ⟨hx, hb, hml, hown, hts⟩ (cM_begin l G h138) (lc_cwV hts kvM_101 (lc_room (by decide) (by decide))) (lc_preV hE hH lc_h19 rfl _) rfl rfl hl.1 rfl (lv_room (Nat.le_of_ble_eq_true rfl)) dM_goOn_138 ⟨Nat.zero_le _, Nat.zero_le _⟩) hH (fun H locs hH => ?_)
  exact lc_vret hx hb hr hlocks hH hf dM_goOn_141
theorem dY_takePlace_0 : decode prog_4_method_9_code 0 = .ok (.iconst 0, 1) := by decide +kernel
theorem dY_takePlace_1 : decode prog_4_method_9_code 1 = .ok (.istore_n 2, 1) := by decide +kernel
theorem dY_takePlace_2 : decode prog_4_method_9_code 2 = .ok (.iload_n 2, 1) := by decide +kernel
theorem dY_takePlace_3 : decode prog_4_method_9_code 3 = .ok (.bipush 12, 2) := by decide +kernel
theorem dY_takePlace_5 : decode prog_4_method_9_code 5 = .ok (.if_icmp .ge 44, 3) := by decide +kernel
theorem dY_takePlace_8 : decode prog_4_method_9_code 8 = .ok (.aload_n 0, 1) := by decide +kernel
theorem dY_takePlace_9 : decode prog_4_method_9_code 9 = .ok (.getfield 11, 3) := by decide +kernel
theorem dY_takePlace_12 : decode prog_4_method_9_code 12 = .ok (.iload_n 2, 1) := by decide +kernel
theorem dY_takePlace_13 : decode prog_4_method_9_code 13 = .ok (.baload, 1) := by decide +kernel
theorem dY_takePlace_14 : decode prog_4_method_9_code 14 = .ok (.ifCond .ne 29, 3) := by decide +kernel
theorem dY_takePlace_17 : decode prog_4_method_9_code 17 = .ok (.aload_n 0, 1) := by decide +kernel
theorem dY_takePlace_18 : decode prog_4_method_9_code 18 = .ok (.getfield 11, 3) := by decide +kernel
theorem dY_takePlace_21 : decode prog_4_method_9_code 21 = .ok (.iload_n 2, 1) := by decide +kernel
theorem dY_takePlace_22 : decode prog_4_method_9_code 22 = .ok (.iconst 1, 1) := by decide +kernel
theorem dY_takePlace_23 : decode prog_4_method_9_code 23 = .ok (.bastore, 1) := by decide +kernel
theorem dY_takePlace_24 : decode prog_4_method_9_code 24 = .ok (.aload_n 0, 1) := by decide +kernel
theorem dY_takePlace_25 : decode prog_4_method_9_code 25 = .ok (.getfield 15, 3) := by decide +kernel
theorem dY_takePlace_28 : decode prog_4_method_9_code 28 = .ok (.iload_n 2, 1) := by decide +kernel
theorem dY_takePlace_29 : decode prog_4_method_9_code 29 = .ok (.iload_n 1, 1) := by decide +kernel
theorem dY_takePlace_30 : decode prog_4_method_9_code 30 = .ok (.iastore, 1) := by decide +kernel
theorem dY_takePlace_31 : decode prog_4_method_9_code 31 = .ok (.aload_n 0, 1) := by decide +kernel
theorem dY_takePlace_32 : decode prog_4_method_9_code 32 = .ok (.dup, 1) := by decide +kernel
theorem dY_takePlace_33 : decode prog_4_method_9_code 33 = .ok (.getfield 38, 3) := by decide +kernel
theorem dY_takePlace_36 : decode prog_4_method_9_code 36 = .ok (.iconst 1, 1) := by decide +kernel
theorem dY_takePlace_37 : decode prog_4_method_9_code 37 = .ok (.iadd, 1) := by decide +kernel
theorem dY_takePlace_38 : decode prog_4_method_9_code 38 = .ok (.putfield 38, 3) := by decide +kernel
theorem dY_takePlace_41 : decode prog_4_method_9_code 41 = .ok (.iload_n 2, 1) := by decide +kernel
theorem dY_takePlace_42 : decode prog_4_method_9_code 42 = .ok (.ireturn, 1) := by decide +kernel
theorem dY_takePlace_43 : decode prog_4_method_9_code 43 = .ok (.iinc 2 1, 3) := by decide +kernel
theorem dY_takePlace_46 : decode prog_4_method_9_code 46 = .ok (.goto (-44), 3) := by decide +kernel
theorem dY_takePlace_49 : decode prog_4_method_9_code 49 = .ok (.iconst (-1), 1) := by decide +kernel
theorem dY_takePlace_50 : decode prog_4_method_9_code 50 = .ok (.ireturn, 1) := by decide +kernel
def fY_takePlace_2 : Nat → Int32 → Int32 → lc_S → Option ((Int32) × lc_S)
  | 0, _, _, _ => none
  | n + 1, x1, x2, z => if 12 ≤ x2 then (some ((-1), z)) else (lc_chk (lc_in x2 12) (if (lcI z 21 x2.toNatClampNeg) = 0 then (lc_chk (lc_in x2 12) (lc_chk (lc_in x2 12) (some (x2, lcUI (lcUI (lcUI z 21 x2.toNatClampNeg 1) 22 x2.toNatClampNeg x1) 20 2 ((lcI (lcUI (lcUI z 21 x2.toNatClampNeg 1) 22 x2.toNatClampNeg x1) 20 2) + 1))))) else (lc_let (x2 + 1) (fun x43 => fY_takePlace_2 n x1 x43 z))))
def fY_takePlace (a1 : Int32) (z : lc_S) : Option ((Int32) × lc_S) :=
  fY_takePlace_2 lc_FU a1 0 z
set_option maxHeartbeats 4000000 in
set_option maxRecDepth 100000 in
theorem bY_takePlace_2 {p : Program} {l : Launch} {e : Env} {s : State} {m : MethodId} {args : Array Value} {below : List Frame} {meth : Method} {c : Code} {G : lc_G} (hx : p.tables.exec = Jvm.exec) (hb : c.code = prog_4_method_9_code) (hml : c.maxLocals = 3) (hr : meth.sig.returnType = (some .int)) (hlocks : meth.locks = false) (hown : s.vm.findClass "LinearCells$Memory" = some m.cls) (hts : ∀ w ∈ lc_ALL, w.before args s = true) (hE : lc_E G s) {r : Int32} {z' : lc_S} : ∀ (n : Nat) {x1 : Int32} {x2 : Int32} {z : lc_S} {H : Heap} {locs : List Loc} {ls : Array Slot}, fY_takePlace_2 n x1 x2 z = some (r, z') → lv_has ls 3 [(0, .ref (lc_ad G 20)), (1, .int x1), (2, .int x2)] → lc_H G z s.heap H locs → W p l e (lc_rm 0) s m args below meth c H locs 0 0 (MQ below (lc_Q G (some (.int r)) z') args s 0 0 (lc_A G)) (F0 m 2 ls []) := by
  intro n
  induction n with
  | zero =>
    intro x1 x2 z H locs ls hf hl hH
    exact absurd (show (none : Option ((Int32) × lc_S)) = some (r, z') from hf) (fun h => by cases h)
  | succ n ih =>
    intro x1 x2 z H locs ls hf hl hH
    rw [fY_takePlace_2] at hf
    refine lv_iload_n hx hb dY_takePlace_2 rfl (lv_at hl 2 rfl) ?_
    refine lv_bipush (v := 12) hx hb dY_takePlace_3 (by decide) ?_
    refine lv_icmp_ge (tgt := 49) hx hb dY_takePlace_5 (by decide) (fun hc => ?_) (fun hc => ?_)
    · replace hf := lc_ite_pos hc hf
      refine lv_iconst (v := (-1)) hx hb dY_takePlace_49 (by decide) ?_
      exact lc_iret hx hb hr hlocks hH hf dY_takePlace_50
    · replace hf := lc_ite_neg hc hf
      refine lv_aload_n hx hb dY_takePlace_8 rfl (lv_at hl 0 rfl) ?_
      refine lc_getf (d := 1) (q := 21) hx hb hts hown hE hH flY_11 lc_h20 rfl rfl dY_takePlace_9 ?_
      refine lv_iload_n hx hb dY_takePlace_12 rfl (lv_at hl 2 rfl) ?_
      obtain ⟨hi13, hf⟩ := lc_chk_some hf
      refine lc_zald hx hb hE hH lc_h21 rfl hi13 dY_takePlace_13 ?_
      refine lv_if_ne (tgt := 43) hx hb dY_takePlace_14 (by decide) (fun hc => ?_) (fun hc => ?_)
      · replace hf := lc_ite_neg hc hf
        obtain ⟨x43, e43⟩ : ∃ x : Int32, x = x2 + 1 := ⟨_, rfl⟩
        replace hf := lc_let_of e43 hf
        refine lv_iinc (k := 2) (v := x43) hx hb dY_takePlace_43 hl rfl ((lc_incv _ (by decide)).trans e43.symm) (by decide) rfl (fun ls hl => ?_)
        replace hl : lv_has ls 3 [(2, .int x43), (0, .ref (lc_ad G 20)), (1, .int x1)] := hl
        refine lv_goto (tgt := 2) hx hb dY_takePlace_46 (by decide) ?_
        exact ih hf (lv_sub hl [1, 2, 0] rfl) hH
      · replace hf := lc_ite_pos hc hf
        refine lv_aload_n hx hb dY_takePlace_17 rfl (lv_at hl 0 rfl) ?_
        refine lc_getf (d := 1) (q := 21) hx hb hts hown hE hH flY_11 lc_h20 rfl rfl dY_takePlace_18 ?_
        refine lv_iload_n hx hb dY_takePlace_21 rfl (lv_at hl 2 rfl) ?_
        refine lv_iconst (v := 1) hx hb dY_takePlace_22 (by decide) ?_
        obtain ⟨hi23, hf⟩ := lc_chk_some hf
        refine lc_zast hx hb hE hH lc_h21 rfl hi23 (by decide) dY_takePlace_23 (fun H locs hH => ?_)
        refine lv_aload_n hx hb dY_takePlace_24 rfl (lv_at hl 0 rfl) ?_
        refine lc_getf (d := 2) (q := 22) hx hb hts hown hE hH flY_15 lc_h20 rfl rfl dY_takePlace_25 ?_
        refine lv_iload_n hx hb dY_takePlace_28 rfl (lv_at hl 2 rfl) ?_
        refine lv_iload_n hx hb dY_takePlace_29 rfl (lv_at hl 1 rfl) ?_
        obtain ⟨hi30, hf⟩ := lc_chk_some hf
        refine lc_iast hx hb hE hH lc_h22 rfl hi30 dY_takePlace_30 (fun H locs hH => ?_)
        refine lv_aload_n hx hb dY_takePlace_31 rfl (lv_at hl 0 rfl) ?_
        refine lv_dup hx hb dY_takePlace_32 rfl ?_
        refine lc_geti hx hb hts hown hE hH flY_38 lc_h20 rfl dY_takePlace_33 ?_
        refine lv_iconst (v := 1) hx hb dY_takePlace_36 (by decide) ?_
        refine lv_iadd hx hb dY_takePlace_37 ?_
        refine lc_puti hx hb hts hown hE hH fpY_38 lc_h20 rfl rfl rfl dY_takePlace_38 (fun H locs hH => ?_)
        refine lv_iload_n hx hb dY_takePlace_41 rfl (lv_at hl 2 rfl) ?_
        exact lc_iret hx hb hr hlocks hH hf dY_takePlace_42
set_option maxHeartbeats 4000000 in
set_option maxRecDepth 100000 in
theorem cY_takePlace (l : Launch) (G : lc_G) {a1 : Int32} {r : Int32} {z z' : lc_S} (hf : fY_takePlace a1 z = some (r, z')) : lc_M l G yY_takePlace wY_takePlace 0 [.ref (lc_ad G 20), .int a1] z (some (.int r)) z' := by
  refine lc_M_of (cc := prog_4_method_9_code) (maxL := 3) (ret := (some .int)) (own := "LinearCells$Memory") (by decide) rfl (fun w h => List.mem_cons_of_mem _ h) (Nat.le_of_ble_eq_true rfl) rfl ?_
  intro p e s m below meth c hx hb hml hr hlocks hown hts hE ls hl hH
  replace hl : lv_has ls 3 [(0, .ref (lc_ad G 20)), (1, .int a1)] := hl
  rw [fY_takePlace] at hf
  refine lv_iconst (v := 0) hx hb dY_takePlace_0 (by decide) ?_
  refine lv_istore_n hx hb dY_takePlace_1 rfl hl (by decide) rfl (fun ls hl => ?_)
  replace hl : lv_has ls 3 [(2, .int 0), (0, .ref (lc_ad G 20)), (1, .int a1)] := hl
  exact bY_takePlace_2 hx hb hml hr hlocks hown hts hE _ hf (lv_sub hl [1, 2, 0] rfl) hH
theorem dM_makeCell_0 : decode prog_3_method_17_code 0 = .ok (.lload_n 1, 1) := by decide +kernel
theorem dM_makeCell_1 : decode prog_3_method_17_code 1 = .ok (.invokestatic 143, 3) := by decide +kernel
theorem dM_makeCell_4 : decode prog_3_method_17_code 4 = .ok (.ifCond .ne 9, 3) := by decide +kernel
theorem dM_makeCell_7 : decode prog_3_method_17_code 7 = .ok (.aload_n 0, 1) := by decide +kernel
theorem dM_makeCell_8 : decode prog_3_method_17_code 8 = .ok (.iconst 4, 1) := by decide +kernel
theorem dM_makeCell_9 : decode prog_3_method_17_code 9 = .ok (.putfield 70, 3) := by decide +kernel
theorem dM_makeCell_12 : decode prog_3_method_17_code 12 = .ok (.return_, 1) := by decide +kernel
theorem dM_makeCell_13 : decode prog_3_method_17_code 13 = .ok (.aload_n 0, 1) := by decide +kernel
theorem dM_makeCell_14 : decode prog_3_method_17_code 14 = .ok (.getfield 16, 3) := by decide +kernel
theorem dM_makeCell_17 : decode prog_3_method_17_code 17 = .ok (.lload_n 1, 1) := by decide +kernel
theorem dM_makeCell_18 : decode prog_3_method_17_code 18 = .ok (.invokestatic 57, 3) := by decide +kernel
theorem dM_makeCell_21 : decode prog_3_method_17_code 21 = .ok (.invokevirtual 171, 3) := by decide +kernel
theorem dM_makeCell_24 : decode prog_3_method_17_code 24 = .ok (.istore_n 3, 1) := by decide +kernel
theorem dM_makeCell_25 : decode prog_3_method_17_code 25 = .ok (.iload_n 3, 1) := by decide +kernel
theorem dM_makeCell_26 : decode prog_3_method_17_code 26 = .ok (.iconst (-1), 1) := by decide +kernel
theorem dM_makeCell_27 : decode prog_3_method_17_code 27 = .ok (.if_icmp .ne 11, 3) := by decide +kernel
theorem dM_makeCell_30 : decode prog_3_method_17_code 30 = .ok (.aload_n 0, 1) := by decide +kernel
theorem dM_makeCell_31 : decode prog_3_method_17_code 31 = .ok (.iconst 2, 1) := by decide +kernel
theorem dM_makeCell_32 : decode prog_3_method_17_code 32 = .ok (.putfield 70, 3) := by decide +kernel
theorem dM_makeCell_35 : decode prog_3_method_17_code 35 = .ok (.goto 12, 3) := by decide +kernel
theorem dM_makeCell_38 : decode prog_3_method_17_code 38 = .ok (.aload_n 0, 1) := by decide +kernel
theorem dM_makeCell_39 : decode prog_3_method_17_code 39 = .ok (.iconst 2, 1) := by decide +kernel
theorem dM_makeCell_40 : decode prog_3_method_17_code 40 = .ok (.iload_n 3, 1) := by decide +kernel
theorem dM_makeCell_41 : decode prog_3_method_17_code 41 = .ok (.invokestatic 76, 3) := by decide +kernel
theorem dM_makeCell_44 : decode prog_3_method_17_code 44 = .ok (.invokevirtual 110, 3) := by decide +kernel
theorem dM_makeCell_47 : decode prog_3_method_17_code 47 = .ok (.return_, 1) := by decide +kernel
def fM_makeCell (a1 : Int64) (z : lc_S) : Option ((Unit) × lc_S) :=
  lc_bnd (fV_isNumber a1 z) (fun r1 z1 => if r1 = 0 then (some ((), lcUI z1 19 3 4)) else (lc_bnd (fV_wordOf a1 z1) (fun r18 z18 => lc_bnd (fY_takePlace r18 z18) (fun r21 z21 => if r21 = (-1) then (some ((), lcUI z21 19 3 2)) else (lc_bnd (fV_of 2 r21 z21) (fun r41 z41 => lc_bnd (fM_end r41 z41) (fun r44 z44 => some ((), z44))))))))
set_option maxHeartbeats 4000000 in
set_option maxRecDepth 100000 in
theorem cM_makeCell (l : Launch) (G : lc_G) {a1 : Int64} {r : Unit} {z z' : lc_S} (hf : fM_makeCell a1 z = some (r, z')) : lc_M l G yM_makeCell wM_makeCell 1 [.ref (lc_ad G 19), .long a1] z none z' := by
  refine lc_M_of (cc := prog_3_method_17_code) (maxL := 4) (ret := none) (own := "LinearCells$Machine") (by decide) rfl (fun w h => List.mem_cons_of_mem _ h) (Nat.le_of_ble_eq_true rfl) rfl ?_
  intro p e s m below meth c hx hb hml hr hlocks hown hts hE ls hl hH
  replace hl : lv_has ls 4 [(0, .ref (lc_ad G 19)), (1, .long a1)] := hl
  rw [fM_makeCell] at hf
  refine lv_lload_n hx hb dM_makeCell_0 rfl (lv_at hl 1 rfl) ?_
  obtain ⟨r1, z1, h1, hf⟩ := lc_bnd_some hf
  refine lc_calli (va_runS (As := [.long a1]) (rest := []) ⟨hx, hb, hml, hown, hts⟩ (cV_isNumber l G h1) (lc_cwS hts ksM_143 (lc_room (by decide) (by decide))) (lc_preS hE hH _) rfl rfl hl.1 rfl (lv_room (Nat.le_of_ble_eq_true rfl)) dM_makeCell_1 ⟨Nat.zero_le _, Nat.zero_le _⟩) hH (fun H locs hH => ?_)
  refine lv_if_ne (tgt := 13) hx hb dM_makeCell_4 (by decide) (fun hc => ?_) (fun hc => ?_)
  · replace hf := lc_ite_neg hc hf
    refine lv_aload_n hx hb dM_makeCell_13 rfl (lv_at hl 0 rfl) ?_
    refine lc_getf (d := 1) (q := 20) hx hb hts hown hE hH flM_16 lc_h19 rfl rfl dM_makeCell_14 ?_
    refine lv_lload_n hx hb dM_makeCell_17 rfl (lv_at hl 1 rfl) ?_
    obtain ⟨r18, z18, h18, hf⟩ := lc_bnd_some hf
    refine lc_calli (va_runS (As := [.long a1]) (rest := [.ref (lc_ad G 20)]) ⟨hx, hb, hml, hown, hts⟩ (cV_wordOf l G h18) (lc_cwS hts ksM_57 (lc_room (by decide) (by decide))) (lc_preS hE hH _) rfl rfl hl.1 rfl (lv_room (Nat.le_of_ble_eq_true rfl)) dM_makeCell_18 ⟨Nat.zero_le _, Nat.zero_le _⟩) hH (fun H locs hH => ?_)
    obtain ⟨r21, z21, h21, hf⟩ := lc_bnd_some hf
    refine lc_calli (va_runV (As := [.int r18]) (rest := []) ⟨hx, hb, hml, hown, hts⟩ (cY_takePlace l G h21) (lc_cwV hts kvM_171 (lc_room (by decide) (by decide))) (lc_preV hE hH lc_h20 rfl _) rfl rfl hl.1 rfl (lv_room (Nat.le_of_ble_eq_true rfl)) dM_makeCell_21 ⟨Nat.zero_le _, Nat.zero_le _⟩) hH (fun H locs hH => ?_)
    refine lv_istore_n hx hb dM_makeCell_24 rfl hl (by decide) rfl (fun ls hl => ?_)
    replace hl : lv_has ls 4 [(3, .int r21), (0, .ref (lc_ad G 19)), (1, .long a1)] := hl
    refine lv_iload_n hx hb dM_makeCell_25 rfl (lv_at hl 0 rfl) ?_
    refine lv_iconst (v := (-1)) hx hb dM_makeCell_26 (by decide) ?_
    refine lv_icmp_ne (tgt := 38) hx hb dM_makeCell_27 (by decide) (fun hc => ?_) (fun hc => ?_)
    · replace hf := lc_ite_neg hc hf
      refine lv_aload_n hx hb dM_makeCell_38 rfl (lv_at hl 1 rfl) ?_
      refine lv_iconst (v := 2) hx hb dM_makeCell_39 (by decide) ?_
      refine lv_iload_n hx hb dM_makeCell_40 rfl (lv_at hl 0 rfl) ?_
      obtain ⟨r41, z41, h41, hf⟩ := lc_bnd_some hf
      refine lc_calll (va_runS (As := [.int 2, .int r21]) (rest := [.ref (lc_ad G 19)]) ⟨hx, hb, hml, hown, hts⟩ (cV_of l G h41) (lc_cwS hts ksM_76 (lc_room (by decide) (by decide))) (lc_preS hE hH _) rfl rfl hl.1 rfl (lv_room (Nat.le_of_ble_eq_true rfl)) dM_makeCell_41 ⟨Nat.zero_le _, Nat.zero_le _⟩) hH (fun H locs hH => ?_)
      obtain ⟨r44, z44, h44, hf⟩ := lc_bnd_some hf
      refine lc_callv (va_runV (As := [.long r41]) (rest := []) ⟨hx, hb, hml, hown, hts⟩ (cM_end l G h44) (lc_cwV hts kvM_110 (lc_room (by decide) (by decide))) (lc_preV hE hH lc_h19 rfl _) rfl rfl hl.1 rfl (lv_room (Nat.le_of_ble_eq_true rfl)) dM_makeCell_44 ⟨Nat.zero_le _, Nat.zero_le _⟩) hH (fun H locs hH => ?_)
      exact lc_vret hx hb hr hlocks hH hf dM_makeCell_47
    · replace hf := lc_ite_pos hc hf
      refine lv_aload_n hx hb dM_makeCell_30 rfl (lv_at hl 1 rfl) ?_
      refine lv_iconst (v := 2) hx hb dM_makeCell_31 (by decide) ?_
      refine lc_puti hx hb hts hown hE hH fpM_70 lc_h19 rfl rfl rfl dM_makeCell_32 (fun H locs hH => ?_)
      refine lv_goto (tgt := 47) hx hb dM_makeCell_35 (by decide) ?_
      exact lc_vret hx hb hr hlocks hH hf dM_makeCell_47
  · replace hf := lc_ite_pos hc hf
    refine lv_aload_n hx hb dM_makeCell_7 rfl (lv_at hl 0 rfl) ?_
    refine lv_iconst (v := 4) hx hb dM_makeCell_8 (by decide) ?_
    refine lc_puti hx hb hts hown hE hH fpM_70 lc_h19 rfl rfl rfl dM_makeCell_9 (fun H locs hH => ?_)
    exact lc_vret hx hb hr hlocks hH hf dM_makeCell_12
theorem dV_isCell_0 : decode prog_8_method_6_code 0 = .ok (.lload_n 0, 1) := by decide +kernel
theorem dV_isCell_1 : decode prog_8_method_6_code 1 = .ok (.bipush 32, 2) := by decide +kernel
theorem dV_isCell_3 : decode prog_8_method_6_code 3 = .ok (.lshr, 1) := by decide +kernel
theorem dV_isCell_4 : decode prog_8_method_6_code 4 = .ok (.ldc2_w 11, 3) := by decide +kernel
theorem dV_isCell_7 : decode prog_8_method_6_code 7 = .ok (.lcmp, 1) := by decide +kernel
theorem dV_isCell_8 : decode prog_8_method_6_code 8 = .ok (.ifCond .ne 7, 3) := by decide +kernel
theorem dV_isCell_11 : decode prog_8_method_6_code 11 = .ok (.iconst 1, 1) := by decide +kernel
theorem dV_isCell_12 : decode prog_8_method_6_code 12 = .ok (.goto 4, 3) := by decide +kernel
theorem dV_isCell_15 : decode prog_8_method_6_code 15 = .ok (.iconst 0, 1) := by decide +kernel
theorem dV_isCell_16 : decode prog_8_method_6_code 16 = .ok (.ireturn, 1) := by decide +kernel
def fV_isCell (a0 : Int64) (z : lc_S) : Option ((Int32) × lc_S) :=
  if (lg_cmp (a0 >>> ((32 : Int32).toInt64 &&& 63)) 2) = 0 then (some (1, z)) else (some (0, z))
set_option maxHeartbeats 4000000 in
set_option maxRecDepth 100000 in
theorem cV_isCell (l : Launch) (G : lc_G) {a0 : Int64} {r : Int32} {z z' : lc_S} (hf : fV_isCell a0 z = some (r, z')) : lc_M l G yV_isCell wV_isCell 0 [.long a0] z (some (.int r)) z' := by
  refine lc_M_of (cc := prog_8_method_6_code) (maxL := 2) (ret := (some .boolean)) (own := "LinearCells$Value") (by decide) rfl (fun w h => List.mem_cons_of_mem _ h) (Nat.le_of_ble_eq_true rfl) rfl ?_
  intro p e s m below meth c hx hb hml hr hlocks hown hts hE ls hl hH
  replace hl : lv_has ls 2 [(0, .long a0)] := hl
  rw [fV_isCell] at hf
  refine lv_lload_n hx hb dV_isCell_0 rfl (lv_at hl 0 rfl) ?_
  refine lv_bipush (v := 32) hx hb dV_isCell_1 (by decide) ?_
  refine lv_lshr hx hb dV_isCell_3 rfl ?_
  refine lv_ldc2 hx hb hown (hts _ kcV_11) dV_isCell_4 ?_
  refine W.lcmp hx hb dV_isCell_7 ?_
  refine lv_if_ne (tgt := 15) hx hb dV_isCell_8 (by decide) (fun hc => ?_) (fun hc => ?_)
  · replace hf := lc_ite_neg hc hf
    refine lv_iconst (v := 0) hx hb dV_isCell_15 (by decide) ?_
    exact lc_zret hx hb hr hlocks (by decide) hH hf dV_isCell_16
  · replace hf := lc_ite_pos hc hf
    refine lv_iconst (v := 1) hx hb dV_isCell_11 (by decide) ?_
    refine lv_goto (tgt := 16) hx hb dV_isCell_12 (by decide) ?_
    exact lc_zret hx hb hr hlocks (by decide) hH hf dV_isCell_16
