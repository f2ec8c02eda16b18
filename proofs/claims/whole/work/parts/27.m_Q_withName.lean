theorem dQ_withName_0 : decode prog_10_method_37_code 0 = .ok (.aload_n 0, 1) := by decide +kernel
theorem dQ_withName_1 : decode prog_10_method_37_code 1 = .ok (.getfield 102, 3) := by decide +kernel
theorem dQ_withName_4 : decode prog_10_method_37_code 4 = .ok (.aload_n 0, 1) := by decide +kernel
theorem dQ_withName_5 : decode prog_10_method_37_code 5 = .ok (.getfield 271, 3) := by decide +kernel
theorem dQ_withName_8 : decode prog_10_method_37_code 8 = .ok (.iload_n 1, 1) := by decide +kernel
theorem dQ_withName_9 : decode prog_10_method_37_code 9 = .ok (.iastore, 1) := by decide +kernel
theorem dQ_withName_10 : decode prog_10_method_37_code 10 = .ok (.aload_n 0, 1) := by decide +kernel
theorem dQ_withName_11 : decode prog_10_method_37_code 11 = .ok (.getfield 105, 3) := by decide +kernel
theorem dQ_withName_14 : decode prog_10_method_37_code 14 = .ok (.aload_n 0, 1) := by decide +kernel
theorem dQ_withName_15 : decode prog_10_method_37_code 15 = .ok (.getfield 271, 3) := by decide +kernel
theorem dQ_withName_18 : decode prog_10_method_37_code 18 = .ok (.iload_n 2, 1) := by decide +kernel
theorem dQ_withName_19 : decode prog_10_method_37_code 19 = .ok (.bastore, 1) := by decide +kernel
theorem dQ_withName_20 : decode prog_10_method_37_code 20 = .ok (.aload_n 0, 1) := by decide +kernel
theorem dQ_withName_21 : decode prog_10_method_37_code 21 = .ok (.getfield 108, 3) := by decide +kernel
theorem dQ_withName_24 : decode prog_10_method_37_code 24 = .ok (.aload_n 0, 1) := by decide +kernel
theorem dQ_withName_25 : decode prog_10_method_37_code 25 = .ok (.getfield 271, 3) := by decide +kernel
theorem dQ_withName_28 : decode prog_10_method_37_code 28 = .ok (.lload_n 3, 1) := by decide +kernel
theorem dQ_withName_29 : decode prog_10_method_37_code 29 = .ok (.lastore, 1) := by decide +kernel
theorem dQ_withName_30 : decode prog_10_method_37_code 30 = .ok (.aload_n 0, 1) := by decide +kernel
theorem dQ_withName_31 : decode prog_10_method_37_code 31 = .ok (.getfield 111, 3) := by decide +kernel
theorem dQ_withName_34 : decode prog_10_method_37_code 34 = .ok (.aload_n 0, 1) := by decide +kernel
theorem dQ_withName_35 : decode prog_10_method_37_code 35 = .ok (.getfield 271, 3) := by decide +kernel
theorem dQ_withName_38 : decode prog_10_method_37_code 38 = .ok (.iload 5, 2) := by decide +kernel
theorem dQ_withName_40 : decode prog_10_method_37_code 40 = .ok (.iastore, 1) := by decide +kernel
theorem dQ_withName_41 : decode prog_10_method_37_code 41 = .ok (.aload_n 0, 1) := by decide +kernel
theorem dQ_withName_42 : decode prog_10_method_37_code 42 = .ok (.dup, 1) := by decide +kernel
theorem dQ_withName_43 : decode prog_10_method_37_code 43 = .ok (.getfield 271, 3) := by decide +kernel
theorem dQ_withName_46 : decode prog_10_method_37_code 46 = .ok (.iconst 1, 1) := by decide +kernel
theorem dQ_withName_47 : decode prog_10_method_37_code 47 = .ok (.iadd, 1) := by decide +kernel
theorem dQ_withName_48 : decode prog_10_method_37_code 48 = .ok (.putfield 271, 3) := by decide +kernel
theorem dQ_withName_51 : decode prog_10_method_37_code 51 = .ok (.aload_n 0, 1) := by decide +kernel
theorem dQ_withName_52 : decode prog_10_method_37_code 52 = .ok (.getfield 271, 3) := by decide +kernel
theorem dQ_withName_55 : decode prog_10_method_37_code 55 = .ok (.iconst 1, 1) := by decide +kernel
theorem dQ_withName_56 : decode prog_10_method_37_code 56 = .ok (.isub, 1) := by decide +kernel
theorem dQ_withName_57 : decode prog_10_method_37_code 57 = .ok (.ireturn, 1) := by decide +kernel
def fQ_withName (a1 : Int32) (a2 : Int32) (a3 : Int64) (a5 : Int32) (z : lc_S) : Option ((Int32) × lc_S) :=
  lc_chk (lc_in (lcI z 80 40) 2100) (lc_chk (lc_in (lcI (lcUI z 111 (lcI z 80 40).toNatClampNeg a1) 80 40) 2100) (lc_chk (vp_nar .boolean a2 = a2) (lc_chk (lc_in (lcI (lcUI (lcUI z 111 (lcI z 80 40).toNatClampNeg a1) 112 (lcI (lcUI z 111 (lcI z 80 40).toNatClampNeg a1) 80 40).toNatClampNeg a2) 80 40) 2100) (lc_chk (lc_in (lcI (lcUL (lcUI (lcUI z 111 (lcI z 80 40).toNatClampNeg a1) 112 (lcI (lcUI z 111 (lcI z 80 40).toNatClampNeg a1) 80 40).toNatClampNeg a2) 113 (lcI (lcUI (lcUI z 111 (lcI z 80 40).toNatClampNeg a1) 112 (lcI (lcUI z 111 (lcI z 80 40).toNatClampNeg a1) 80 40).toNatClampNeg a2) 80 40).toNatClampNeg a3) 80 40) 2100) (some ((lcI (lcUI (lcUI (lcUL (lcUI (lcUI z 111 (lcI z 80 40).toNatClampNeg a1) 112 (lcI (lcUI z 111 (lcI z 80 40).toNatClampNeg a1) 80 40).toNatClampNeg a2) 113 (lcI (lcUI (lcUI z 111 (lcI z 80 40).toNatClampNeg a1) 112 (lcI (lcUI z 111 (lcI z 80 40).toNatClampNeg a1) 80 40).toNatClampNeg a2) 80 40).toNatClampNeg a3) 114 (lcI (lcUL (lcUI (lcUI z 111 (lcI z 80 40).toNatClampNeg a1) 112 (lcI (lcUI z 111 (lcI z 80 40).toNatClampNeg a1) 80 40).toNatClampNeg a2) 113 (lcI (lcUI (lcUI z 111 (lcI z 80 40).toNatClampNeg a1) 112 (lcI (lcUI z 111 (lcI z 80 40).toNatClampNeg a1) 80 40).toNatClampNeg a2) 80 40).toNatClampNeg a3) 80 40).toNatClampNeg a5) 80 40 ((lcI (lcUI (lcUL (lcUI (lcUI z 111 (lcI z 80 40).toNatClampNeg a1) 112 (lcI (lcUI z 111 (lcI z 80 40).toNatClampNeg a1) 80 40).toNatClampNeg a2) 113 (lcI (lcUI (lcUI z 111 (lcI z 80 40).toNatClampNeg a1) 112 (lcI (lcUI z 111 (lcI z 80 40).toNatClampNeg a1) 80 40).toNatClampNeg a2) 80 40).toNatClampNeg a3) 114 (lcI (lcUL (lcUI (lcUI z 111 (lcI z 80 40).toNatClampNeg a1) 112 (lcI (lcUI z 111 (lcI z 80 40).toNatClampNeg a1) 80 40).toNatClampNeg a2) 113 (lcI (lcUI (lcUI z 111 (lcI z 80 40).toNatClampNeg a1) 112 (lcI (lcUI z 111 (lcI z 80 40).toNatClampNeg a1) 80 40).toNatClampNeg a2) 80 40).toNatClampNeg a3) 80 40).toNatClampNeg a5) 80 40) + 1)) 80 40) - 1, lcUI (lcUI (lcUL (lcUI (lcUI z 111 (lcI z 80 40).toNatClampNeg a1) 112 (lcI (lcUI z 111 (lcI z 80 40).toNatClampNeg a1) 80 40).toNatClampNeg a2) 113 (lcI (lcUI (lcUI z 111 (lcI z 80 40).toNatClampNeg a1) 112 (lcI (lcUI z 111 (lcI z 80 40).toNatClampNeg a1) 80 40).toNatClampNeg a2) 80 40).toNatClampNeg a3) 114 (lcI (lcUL (lcUI (lcUI z 111 (lcI z 80 40).toNatClampNeg a1) 112 (lcI (lcUI z 111 (lcI z 80 40).toNatClampNeg a1) 80 40).toNatClampNeg a2) 113 (lcI (lcUI (lcUI z 111 (lcI z 80 40).toNatClampNeg a1) 112 (lcI (lcUI z 111 (lcI z 80 40).toNatClampNeg a1) 80 40).toNatClampNeg a2) 80 40).toNatClampNeg a3) 80 40).toNatClampNeg a5) 80 40 ((lcI (lcUI (lcUL (lcUI (lcUI z 111 (lcI z 80 40).toNatClampNeg a1) 112 (lcI (lcUI z 111 (lcI z 80 40).toNatClampNeg a1) 80 40).toNatClampNeg a2) 113 (lcI (lcUI (lcUI z 111 (lcI z 80 40).toNatClampNeg a1) 112 (lcI (lcUI z 111 (lcI z 80 40).toNatClampNeg a1) 80 40).toNatClampNeg a2) 80 40).toNatClampNeg a3) 114 (lcI (lcUL (lcUI (lcUI z 111 (lcI z 80 40).toNatClampNeg a1) 112 (lcI (lcUI z 111 (lcI z 80 40).toNatClampNeg a1) 80 40).toNatClampNeg a2) 113 (lcI (lcUI (lcUI z 111 (lcI z 80 40).toNatClampNeg a1) 112 (lcI (lcUI z 111 (lcI z 80 40).toNatClampNeg a1) 80 40).toNatClampNeg a2) 80 40).toNatClampNeg a3) 80 40).toNatClampNeg a5) 80 40) + 1)))))))
set_option maxHeartbeats 4000000 in
set_option maxRecDepth 100000 in
theorem cQ_withName (l : Launch) (G : lc_G) {a1 : Int32} {a2 : Int32} {a3 : Int64} {a5 : Int32} {r : Int32} {z z' : lc_S} (hf : fQ_withName a1 a2 a3 a5 z = some (r, z')) : lc_M l G yQ_withName wQ_withName 0 [.ref (lc_ad G 80), .int a1, .int a2, .long a3, .int a5] z (some (.int r)) z' := by
  refine lc_M_of (cc := prog_10_method_37_code) (maxL := 6) (ret := (some .int)) (own := "LinearCellsModel") (by decide) rfl (fun w h => List.mem_cons_of_mem _ h) (Nat.le_of_ble_eq_true rfl) rfl ?_
  intro p e s m below meth c hx hb hml hr hlocks hown hts hE ls hl hH
  replace hl : lv_has ls 6 [(0, .ref (lc_ad G 80)), (1, .int a1), (2, .int a2), (3, .long a3), (5, .int a5)] := hl
  rw [fQ_withName] at hf
  refine lv_aload_n hx hb dQ_withName_0 rfl (lv_at hl 0 rfl) ?_
  refine lc_getf (d := 31) (q := 111) hx hb hts hown hE hH flQ_102 lc_h80 rfl rfl dQ_withName_1 ?_
  refine lv_aload_n hx hb dQ_withName_4 rfl (lv_at hl 0 rfl) ?_
  refine lc_geti hx hb hts hown hE hH flQ_271 lc_h80 rfl dQ_withName_5 ?_
  refine lv_iload_n hx hb dQ_withName_8 rfl (lv_at hl 1 rfl) ?_
  obtain ⟨hi9, hf⟩ := lc_chk_some hf
  refine lc_iast hx hb hE hH lc_h111 rfl hi9 dQ_withName_9 (fun H locs hH => ?_)
  refine lv_aload_n hx hb dQ_withName_10 rfl (lv_at hl 0 rfl) ?_
  refine lc_getf (d := 32) (q := 112) hx hb hts hown hE hH flQ_105 lc_h80 rfl rfl dQ_withName_11 ?_
  refine lv_aload_n hx hb dQ_withName_14 rfl (lv_at hl 0 rfl) ?_
  refine lc_geti hx hb hts hown hE hH flQ_271 lc_h80 rfl dQ_withName_15 ?_
  refine lv_iload_n hx hb dQ_withName_18 rfl (lv_at hl 2 rfl) ?_
  obtain ⟨hi19, hf⟩ := lc_chk_some hf
  obtain ⟨hn19, hf⟩ := lc_chk_some hf
  refine lc_zast hx hb hE hH lc_h112 rfl hi19 hn19 dQ_withName_19 (fun H locs hH => ?_)
  refine lv_aload_n hx hb dQ_withName_20 rfl (lv_at hl 0 rfl) ?_
  refine lc_getf (d := 33) (q := 113) hx hb hts hown hE hH flQ_108 lc_h80 rfl rfl dQ_withName_21 ?_
  refine lv_aload_n hx hb dQ_withName_24 rfl (lv_at hl 0 rfl) ?_
  refine lc_geti hx hb hts hown hE hH flQ_271 lc_h80 rfl dQ_withName_25 ?_
  refine lv_lload_n hx hb dQ_withName_28 rfl (lv_at hl 3 rfl) ?_
  obtain ⟨hi29, hf⟩ := lc_chk_some hf
  refine lc_last hx hb hE hH lc_h113 rfl hi29 dQ_withName_29 (fun H locs hH => ?_)
  refine lv_aload_n hx hb dQ_withName_30 rfl (lv_at hl 0 rfl) ?_
  refine lc_getf (d := 34) (q := 114) hx hb hts hown hE hH flQ_111 lc_h80 rfl rfl dQ_withName_31 ?_
  refine lv_aload_n hx hb dQ_withName_34 rfl (lv_at hl 0 rfl) ?_
  refine lc_geti hx hb hts hown hE hH flQ_271 lc_h80 rfl dQ_withName_35 ?_
  refine lv_iload hx hb dQ_withName_38 (lv_at hl 4 rfl) ?_
  obtain ⟨hi40, hf⟩ := lc_chk_some hf
  refine lc_iast hx hb hE hH lc_h114 rfl hi40 dQ_withName_40 (fun H locs hH => ?_)
  refine lv_aload_n hx hb dQ_withName_41 rfl (lv_at hl 0 rfl) ?_
  refine lv_dup hx hb dQ_withName_42 rfl ?_
  refine lc_geti hx hb hts hown hE hH flQ_271 lc_h80 rfl dQ_withName_43 ?_
  refine lv_iconst (v := 1) hx hb dQ_withName_46 (by decide) ?_
  refine lv_iadd hx hb dQ_withName_47 ?_
  refine lc_puti hx hb hts hown hE hH fpQ_271 lc_h80 rfl rfl rfl dQ_withName_48 (fun H locs hH => ?_)
  refine lv_aload_n hx hb dQ_withName_51 rfl (lv_at hl 0 rfl) ?_
  refine lc_geti hx hb hts hown hE hH flQ_271 lc_h80 rfl dQ_withName_52 ?_
  refine lv_iconst (v := 1) hx hb dQ_withName_55 (by decide) ?_
  refine lv_isub hx hb dQ_withName_56 ?_
  exact lc_iret hx hb hr hlocks hH hf dQ_withName_57
theorem dQ_answer_0 : decode prog_10_method_39_code 0 = .ok (.aload_n 0, 1) := by decide +kernel
theorem dQ_answer_1 : decode prog_10_method_39_code 1 = .ok (.dup, 1) := by decide +kernel
theorem dQ_answer_2 : decode prog_10_method_39_code 2 = .ok (.getfield 268, 3) := by decide +kernel
theorem dQ_answer_5 : decode prog_10_method_39_code 5 = .ok (.iconst 1, 1) := by decide +kernel
theorem dQ_answer_6 : decode prog_10_method_39_code 6 = .ok (.isub, 1) := by decide +kernel
theorem dQ_answer_7 : decode prog_10_method_39_code 7 = .ok (.putfield 268, 3) := by decide +kernel
theorem dQ_answer_10 : decode prog_10_method_39_code 10 = .ok (.aload_n 0, 1) := by decide +kernel
theorem dQ_answer_11 : decode prog_10_method_39_code 11 = .ok (.lload_n 1, 1) := by decide +kernel
theorem dQ_answer_12 : decode prog_10_method_39_code 12 = .ok (.putfield 301, 3) := by decide +kernel
theorem dQ_answer_15 : decode prog_10_method_39_code 15 = .ok (.return_, 1) := by decide +kernel
def fQ_answer (a1 : Int64) (z : lc_S) : Option ((Unit) × lc_S) :=
  some ((), lcUL (lcUI z 80 33 ((lcI z 80 33) - 1)) 80 47 a1)
set_option maxHeartbeats 4000000 in
set_option maxRecDepth 100000 in
theorem cQ_answer (l : Launch) (G : lc_G) {a1 : Int64} {r : Unit} {z z' : lc_S} (hf : fQ_answer a1 z = some (r, z')) : lc_M l G yQ_answer wQ_answer 0 [.ref (lc_ad G 80), .long a1] z none z' := by
  refine lc_M_of (cc := prog_10_method_39_code) (maxL := 3) (ret := none) (own := "LinearCellsModel") (by decide) rfl (fun w h => List.mem_cons_of_mem _ h) (Nat.le_of_ble_eq_true rfl) rfl ?_
  intro p e s m below meth c hx hb hml hr hlocks hown hts hE ls hl hH
  replace hl : lv_has ls 3 [(0, .ref (lc_ad G 80)), (1, .long a1)] := hl
  rw [fQ_answer] at hf
  refine lv_aload_n hx hb dQ_answer_0 rfl (lv_at hl 0 rfl) ?_
  refine lv_dup hx hb dQ_answer_1 rfl ?_
  refine lc_geti hx hb hts hown hE hH flQ_268 lc_h80 rfl dQ_answer_2 ?_
  refine lv_iconst (v := 1) hx hb dQ_answer_5 (by decide) ?_
  refine lv_isub hx hb dQ_answer_6 ?_
  refine lc_puti hx hb hts hown hE hH fpQ_268 lc_h80 rfl rfl rfl dQ_answer_7 (fun H locs hH => ?_)
  refine lv_aload_n hx hb dQ_answer_10 rfl (lv_at hl 0 rfl) ?_
  refine lv_lload_n hx hb dQ_answer_11 rfl (lv_at hl 1 rfl) ?_
  refine lc_putl hx hb hts hown hE hH fpQ_301 lc_h80 rfl dQ_answer_12 (fun H locs hH => ?_)
  exact lc_vret hx hb hr hlocks hH hf dQ_answer_15
theorem dQ_lookUp_0 : decode prog_10_method_41_code 0 = .ok (.iload_n 1, 1) := by decide +kernel
theorem dQ_lookUp_1 : decode prog_10_method_41_code 1 = .ok (.istore 4, 2) := by decide +kernel
theorem dQ_lookUp_3 : decode prog_10_method_41_code 3 = .ok (.aload_n 0, 1) := by decide +kernel
theorem dQ_lookUp_4 : decode prog_10_method_41_code 4 = .ok (.getfield 102, 3) := by decide +kernel
theorem dQ_lookUp_7 : decode prog_10_method_41_code 7 = .ok (.iload 4, 2) := by decide +kernel
theorem dQ_lookUp_9 : decode prog_10_method_41_code 9 = .ok (.iaload, 1) := by decide +kernel
theorem dQ_lookUp_10 : decode prog_10_method_41_code 10 = .ok (.iload_n 2, 1) := by decide +kernel
theorem dQ_lookUp_11 : decode prog_10_method_41_code 11 = .ok (.if_icmp .ne 14, 3) := by decide +kernel
theorem dQ_lookUp_14 : decode prog_10_method_41_code 14 = .ok (.aload_n 0, 1) := by decide +kernel
theorem dQ_lookUp_15 : decode prog_10_method_41_code 15 = .ok (.getfield 105, 3) := by decide +kernel
theorem dQ_lookUp_18 : decode prog_10_method_41_code 18 = .ok (.iload 4, 2) := by decide +kernel
theorem dQ_lookUp_20 : decode prog_10_method_41_code 20 = .ok (.baload, 1) := by decide +kernel
theorem dQ_lookUp_21 : decode prog_10_method_41_code 21 = .ok (.iload_n 3, 1) := by decide +kernel
theorem dQ_lookUp_22 : decode prog_10_method_41_code 22 = .ok (.if_icmp .eq 15, 3) := by decide +kernel
theorem dQ_lookUp_25 : decode prog_10_method_41_code 25 = .ok (.aload_n 0, 1) := by decide +kernel
theorem dQ_lookUp_26 : decode prog_10_method_41_code 26 = .ok (.getfield 111, 3) := by decide +kernel
theorem dQ_lookUp_29 : decode prog_10_method_41_code 29 = .ok (.iload 4, 2) := by decide +kernel
theorem dQ_lookUp_31 : decode prog_10_method_41_code 31 = .ok (.iaload, 1) := by decide +kernel
theorem dQ_lookUp_32 : decode prog_10_method_41_code 32 = .ok (.istore 4, 2) := by decide +kernel
theorem dQ_lookUp_34 : decode prog_10_method_41_code 34 = .ok (.goto (-31), 3) := by decide +kernel
theorem dQ_lookUp_37 : decode prog_10_method_41_code 37 = .ok (.aload_n 0, 1) := by decide +kernel
theorem dQ_lookUp_38 : decode prog_10_method_41_code 38 = .ok (.getfield 108, 3) := by decide +kernel
theorem dQ_lookUp_41 : decode prog_10_method_41_code 41 = .ok (.iload 4, 2) := by decide +kernel
theorem dQ_lookUp_43 : decode prog_10_method_41_code 43 = .ok (.laload, 1) := by decide +kernel
theorem dQ_lookUp_44 : decode prog_10_method_41_code 44 = .ok (.lreturn, 1) := by decide +kernel
def fQ_lookUp_25 (k3 : Int32 → Int32 → Int32 → lc_S → Option ((Int64) × lc_S)) (x2 : Int32) (x3 : Int32) (x4 : Int32) (z : lc_S) : Option ((Int64) × lc_S) :=
  lc_chk (lc_in x4 2100) (lc_let (lcI z 114 x4.toNatClampNeg) (fun x32 => k3 x2 x3 x32 z))
def fQ_lookUp_3 : Nat → Int32 → Int32 → Int32 → lc_S → Option ((Int64) × lc_S)
  | 0, _, _, _, _ => none
  | n + 1, x2, x3, x4, z => lc_chk (lc_in x4 2100) (if (lcI z 111 x4.toNatClampNeg) = x2 then (lc_chk (lc_in x4 2100) (if (lcI z 112 x4.toNatClampNeg) = x3 then (lc_chk (lc_in x4 2100) (some (lcL z 113 x4.toNatClampNeg, z))) else (fQ_lookUp_25 (fQ_lookUp_3 n) x2 x3 x4 z))) else (fQ_lookUp_25 (fQ_lookUp_3 n) x2 x3 x4 z))
def fQ_lookUp (a1 : Int32) (a2 : Int32) (a3 : Int32) (z : lc_S) : Option ((Int64) × lc_S) :=
  fQ_lookUp_3 lc_FU a2 a3 a1 z
set_option maxHeartbeats 4000000 in
set_option maxRecDepth 100000 in
theorem bQ_lookUp_25 {p : Program} {l : Launch} {e : Env} {s : State} {m : MethodId} {args : Array Value} {below : List Frame} {meth : Method} {c : Code} {G : lc_G} (hx : p.tables.exec = Jvm.exec) (hb : c.code = prog_10_method_41_code) (hml : c.maxLocals = 5) (hr : meth.sig.returnType = (some .long)) (hlocks : meth.locks = false) (hown : s.vm.findClass "LinearCellsModel" = some m.cls) (hts : ∀ w ∈ lc_ALL, w.before args s = true) (hE : lc_E G s) {k3 : Int32 → Int32 → Int32 → lc_S → Option ((Int64) × lc_S)} {r : Int64} {z' : lc_S} (hk3 : ∀ {x2 : Int32} {x3 : Int32} {x4 : Int32} {z : lc_S} {H : Heap} {locs : List Loc} {ls : Array Slot}, k3 x2 x3 x4 z = some (r, z') → lv_has ls 5 [(0, .ref (lc_ad G 80)), (2, .int x2), (3, .int x3), (4, .int x4)] → lc_H G z s.heap H locs → W p l e (lc_rm 0) s m args below meth c H locs 0 0 (MQ below (lc_Q G (some (.long r)) z') args s 0 0 (lc_A G)) (F0 m 3 ls [])) : ∀ {x2 : Int32} {x3 : Int32} {x4 : Int32} {z : lc_S} {H : Heap} {locs : List Loc} {ls : Array Slot}, fQ_lookUp_25 k3 x2 x3 x4 z = some (r, z') → lv_has ls 5 [(0, .ref (lc_ad G 80)), (2, .int x2), (3, .int x3), (4, .int x4)] → lc_H G z s.heap H locs → W p l e (lc_rm 0) s m args below meth c H locs 0 0 (MQ below (lc_Q G (some (.long r)) z') args s 0 0 (lc_A G)) (F0 m 25 ls []) := by
  intro x2 x3 x4 z H locs ls hf hl hH
  rw [fQ_lookUp_25] at hf
  refine lv_aload_n hx hb dQ_lookUp_25 rfl (lv_at hl 0 rfl) ?_
  refine lc_getf (d := 34) (q := 114) hx hb hts hown hE hH flQ_111 lc_h80 rfl rfl dQ_lookUp_26 ?_
  refine lv_iload hx hb dQ_lookUp_29 (lv_at hl 3 rfl) ?_
  obtain ⟨hi31, hf⟩ := lc_chk_some hf
  refine lc_iald hx hb hE hH lc_h114 rfl hi31 dQ_lookUp_31 ?_
  refine lv_topi (fun x32 e32 => ?_)
  replace hf := lc_let_of e32 hf
  refine lv_istore hx hb dQ_lookUp_32 hl (by decide) rfl (fun ls hl => ?_)
  replace hl : lv_has ls 5 [(4, .int x32), (0, .ref (lc_ad G 80)), (2, .int x2), (3, .int x3)] := hl
  refine lv_goto (tgt := 3) hx hb dQ_lookUp_34 (by decide) ?_
  exact hk3 hf (lv_sub hl [1, 2, 3, 0] rfl) hH
set_option maxHeartbeats 4000000 in
set_option maxRecDepth 100000 in
theorem bQ_lookUp_3 {p : Program} {l : Launch} {e : Env} {s : State} {m : MethodId} {args : Array Value} {below : List Frame} {meth : Method} {c : Code} {G : lc_G} (hx : p.tables.exec = Jvm.exec) (hb : c.code = prog_10_method_41_code) (hml : c.maxLocals = 5) (hr : meth.sig.returnType = (some .long)) (hlocks : meth.locks = false) (hown : s.vm.findClass "LinearCellsModel" = some m.cls) (hts : ∀ w ∈ lc_ALL, w.before args s = true) (hE : lc_E G s) {r : Int64} {z' : lc_S} : ∀ (n : Nat) {x2 : Int32} {x3 : Int32} {x4 : Int32} {z : lc_S} {H : Heap} {locs : List Loc} {ls : Array Slot}, fQ_lookUp_3 n x2 x3 x4 z = some (r, z') → lv_has ls 5 [(0, .ref (lc_ad G 80)), (2, .int x2), (3, .int x3), (4, .int x4)] → lc_H G z s.heap H locs → W p l e (lc_rm 0) s m args below meth c H locs 0 0 (MQ below (lc_Q G (some (.long r)) z') args s 0 0 (lc_A G)) (F0 m 3 ls []) := by
  intro n
  induction n with
  | zero =>
    intro x2 x3 x4 z H locs ls hf hl hH
    exact absurd (show (none : Option ((Int64) × lc_S)) = some (r, z') from hf) (fun h => by cases h)
  | succ n ih =>
    intro x2 x3 x4 z H locs ls hf hl hH
    rw [fQ_lookUp_3] at hf
    refine lv_aload_n hx hb dQ_lookUp_3 rfl (lv_at hl 0 rfl) ?_
    refine lc_getf (d := 31) (q := 111) hx hb hts hown hE hH flQ_102 lc_h80 rfl rfl dQ_lookUp_4 ?_
    refine lv_iload hx hb dQ_lookUp_7 (lv_at hl 3 rfl) ?_
    obtain ⟨hi9, hf⟩ := lc_chk_some hf
    refine lc_iald hx hb hE hH lc_h111 rfl hi9 dQ_lookUp_9 ?_
    refine lv_iload_n hx hb dQ_lookUp_10 rfl (lv_at hl 1 rfl) ?_
    refine lv_icmp_ne (tgt := 25) hx hb dQ_lookUp_11 (by decide) (fun hc => ?_) (fun hc => ?_)
    · replace hf := lc_ite_neg hc hf
      exact bQ_lookUp_25 hx hb hml hr hlocks hown hts hE (fun hf hl hH => ih hf hl hH) hf (lv_sub hl [0, 1, 2, 3] rfl) hH
    · replace hf := lc_ite_pos hc hf
      refine lv_aload_n hx hb dQ_lookUp_14 rfl (lv_at hl 0 rfl) ?_
      refine lc_getf (d := 32) (q := 112) hx hb hts hown hE hH flQ_105 lc_h80 rfl rfl dQ_lookUp_15 ?_
      refine lv_iload hx hb dQ_lookUp_18 (lv_at hl 3 rfl) ?_
      obtain ⟨hi20, hf⟩ := lc_chk_some hf
      refine lc_zald hx hb hE hH lc_h112 rfl hi20 dQ_lookUp_20 ?_
      refine lv_iload_n hx hb dQ_lookUp_21 rfl (lv_at hl 2 rfl) ?_
      refine lv_icmp_eq (tgt := 37) hx hb dQ_lookUp_22 (by decide) (fun hc => ?_) (fun hc => ?_)
      · replace hf := lc_ite_pos hc hf
        refine lv_aload_n hx hb dQ_lookUp_37 rfl (lv_at hl 0 rfl) ?_
        refine lc_getf (d := 33) (q := 113) hx hb hts hown hE hH flQ_108 lc_h80 rfl rfl dQ_lookUp_38 ?_
        refine lv_iload hx hb dQ_lookUp_41 (lv_at hl 3 rfl) ?_
        obtain ⟨hi43, hf⟩ := lc_chk_some hf
        refine lc_lald hx hb hE hH lc_h113 rfl hi43 dQ_lookUp_43 ?_
        exact lc_lret hx hb hr hlocks hH hf dQ_lookUp_44
      · replace hf := lc_ite_neg hc hf
        exact bQ_lookUp_25 hx hb hml hr hlocks hown hts hE (fun hf hl hH => ih hf hl hH) hf (lv_sub hl [0, 1, 2, 3] rfl) hH
set_option maxHeartbeats 4000000 in
set_option maxRecDepth 100000 in
theorem cQ_lookUp (l : Launch) (G : lc_G) {a1 : Int32} {a2 : Int32} {a3 : Int32} {r : Int64} {z z' : lc_S} (hf : fQ_lookUp a1 a2 a3 z = some (r, z')) : lc_M l G yQ_lookUp wQ_lookUp 0 [.ref (lc_ad G 80), .int a1, .int a2, .int a3] z (some (.long r)) z' := by
  refine lc_M_of (cc := prog_10_method_41_code) (maxL := 5) (ret := (some .long)) (own := "LinearCellsModel") (by decide) rfl (fun w h => List.mem_cons_of_mem _ h) (Nat.le_of_ble_eq_true rfl) rfl ?_
  intro p e s m below meth c hx hb hml hr hlocks hown hts hE ls hl hH
  replace hl : lv_has ls 5 [(0, .ref (lc_ad G 80)), (1, .int a1), (2, .int a2), (3, .int a3)] := hl
  rw [fQ_lookUp] at hf
  refine lv_iload_n hx hb dQ_lookUp_0 rfl (lv_at hl 1 rfl) ?_
  refine lv_istore hx hb dQ_lookUp_1 hl (by decide) rfl (fun ls hl => ?_)
  replace hl : lv_has ls 5 [(4, .int a1), (0, .ref (lc_ad G 80)), (1, .int a1), (2, .int a2), (3, .int a3)] := hl
  exact bQ_lookUp_3 hx hb hml hr hlocks hown hts hE _ hf (lv_sub hl [1, 3, 4, 0] rfl) hH
theorem dQ_goOn_0 : decode prog_10_method_42_code 0 = .ok (.iload 4, 2) := by decide +kernel
theorem dQ_goOn_2 : decode prog_10_method_42_code 2 = .ok (.iconst 2, 1) := by decide +kernel
theorem dQ_goOn_3 : decode prog_10_method_42_code 3 = .ok (.if_icmp .ne 12, 3) := by decide +kernel
theorem dQ_goOn_6 : decode prog_10_method_42_code 6 = .ok (.aload_n 0, 1) := by decide +kernel
theorem dQ_goOn_7 : decode prog_10_method_42_code 7 = .ok (.aload_n 0, 1) := by decide +kernel
theorem dQ_goOn_8 : decode prog_10_method_42_code 8 = .ok (.getfield 301, 3) := by decide +kernel
theorem dQ_goOn_11 : decode prog_10_method_42_code 11 = .ok (.invokevirtual 305, 3) := by decide +kernel
theorem dQ_goOn_14 : decode prog_10_method_42_code 14 = .ok (.return_, 1) := by decide +kernel
theorem dQ_goOn_15 : decode prog_10_method_42_code 15 = .ok (.aload_n 0, 1) := by decide +kernel
theorem dQ_goOn_16 : decode prog_10_method_42_code 16 = .ok (.getfield 301, 3) := by decide +kernel
theorem dQ_goOn_19 : decode prog_10_method_42_code 19 = .ok (.lstore 5, 2) := by decide +kernel
theorem dQ_goOn_21 : decode prog_10_method_42_code 21 = .ok (.aload_n 0, 1) := by decide +kernel
theorem dQ_goOn_22 : decode prog_10_method_42_code 22 = .ok (.getfield 89, 3) := by decide +kernel
theorem dQ_goOn_25 : decode prog_10_method_42_code 25 = .ok (.iload_n 1, 1) := by decide +kernel
theorem dQ_goOn_26 : decode prog_10_method_42_code 26 = .ok (.iaload, 1) := by decide +kernel
theorem dQ_goOn_27 : decode prog_10_method_42_code 27 = .ok (.istore 7, 2) := by decide +kernel
theorem dQ_goOn_29 : decode prog_10_method_42_code 29 = .ok (.iload_n 3, 1) := by decide +kernel
theorem dQ_goOn_30 : decode prog_10_method_42_code 30 = .ok (.bipush 63, 2) := by decide +kernel
theorem dQ_goOn_32 : decode prog_10_method_42_code 32 = .ok (.if_icmp .ne 11, 3) := by decide +kernel
theorem dQ_goOn_35 : decode prog_10_method_42_code 35 = .ok (.lload 5, 2) := by decide +kernel
theorem dQ_goOn_37 : decode prog_10_method_42_code 37 = .ok (.invokestatic 328, 3) := by decide +kernel
theorem dQ_goOn_40 : decode prog_10_method_42_code 40 = .ok (.ifCond .eq 18, 3) := by decide +kernel
theorem dQ_goOn_43 : decode prog_10_method_42_code 43 = .ok (.iload_n 3, 1) := by decide +kernel
theorem dQ_goOn_44 : decode prog_10_method_42_code 44 = .ok (.bipush 47, 2) := by decide +kernel
theorem dQ_goOn_46 : decode prog_10_method_42_code 46 = .ok (.if_icmp .ne 18, 3) := by decide +kernel
theorem dQ_goOn_49 : decode prog_10_method_42_code 49 = .ok (.lload 5, 2) := by decide +kernel
theorem dQ_goOn_51 : decode prog_10_method_42_code 51 = .ok (.ldc2_w 332, 3) := by decide +kernel
theorem dQ_goOn_54 : decode prog_10_method_42_code 54 = .ok (.lcmp, 1) := by decide +kernel
theorem dQ_goOn_55 : decode prog_10_method_42_code 55 = .ok (.ifCond .ge 9, 3) := by decide +kernel
theorem dQ_goOn_58 : decode prog_10_method_42_code 58 = .ok (.aload_n 0, 1) := by decide +kernel
theorem dQ_goOn_59 : decode prog_10_method_42_code 59 = .ok (.iconst 4, 1) := by decide +kernel
theorem dQ_goOn_60 : decode prog_10_method_42_code 60 = .ok (.invokevirtual 265, 3) := by decide +kernel
theorem dQ_goOn_63 : decode prog_10_method_42_code 63 = .ok (.return_, 1) := by decide +kernel
theorem dQ_goOn_64 : decode prog_10_method_42_code 64 = .ok (.iload_n 3, 1) := by decide +kernel
theorem dQ_goOn_65 : decode prog_10_method_42_code 65 = .ok (.bipush 58, 2) := by decide +kernel
theorem dQ_goOn_67 : decode prog_10_method_42_code 67 = .ok (.if_icmp .ne 20, 3) := by decide +kernel
theorem dQ_goOn_70 : decode prog_10_method_42_code 70 = .ok (.aload_n 0, 1) := by decide +kernel
theorem dQ_goOn_71 : decode prog_10_method_42_code 71 = .ok (.aload_n 0, 1) := by decide +kernel
theorem dQ_goOn_72 : decode prog_10_method_42_code 72 = .ok (.getfield 83, 3) := by decide +kernel
theorem dQ_goOn_75 : decode prog_10_method_42_code 75 = .ok (.iload_n 1, 1) := by decide +kernel
theorem dQ_goOn_76 : decode prog_10_method_42_code 76 = .ok (.iaload, 1) := by decide +kernel
theorem dQ_goOn_77 : decode prog_10_method_42_code 77 = .ok (.iconst 0, 1) := by decide +kernel
theorem dQ_goOn_78 : decode prog_10_method_42_code 78 = .ok (.lload 5, 2) := by decide +kernel
theorem dQ_goOn_80 : decode prog_10_method_42_code 80 = .ok (.iload 7, 2) := by decide +kernel
theorem dQ_goOn_82 : decode prog_10_method_42_code 82 = .ok (.invokevirtual 290, 3) := by decide +kernel
theorem dQ_goOn_85 : decode prog_10_method_42_code 85 = .ok (.istore 7, 2) := by decide +kernel
theorem dQ_goOn_87 : decode prog_10_method_42_code 87 = .ok (.iload_n 3, 1) := by decide +kernel
theorem dQ_goOn_88 : decode prog_10_method_42_code 88 = .ok (.bipush 47, 2) := by decide +kernel
theorem dQ_goOn_90 : decode prog_10_method_42_code 90 = .ok (.if_icmp .ne 56, 3) := by decide +kernel
theorem dQ_goOn_93 : decode prog_10_method_42_code 93 = .ok (.lload 5, 2) := by decide +kernel
theorem dQ_goOn_95 : decode prog_10_method_42_code 95 = .ok (.ldc2_w 332, 3) := by decide +kernel
theorem dQ_goOn_98 : decode prog_10_method_42_code 98 = .ok (.lsub, 1) := by decide +kernel
theorem dQ_goOn_99 : decode prog_10_method_42_code 99 = .ok (.l2i, 1) := by decide +kernel
theorem dQ_goOn_100 : decode prog_10_method_42_code 100 = .ok (.istore 8, 2) := by decide +kernel
theorem dQ_goOn_102 : decode prog_10_method_42_code 102 = .ok (.aload_n 0, 1) := by decide +kernel
theorem dQ_goOn_103 : decode prog_10_method_42_code 103 = .ok (.aload_n 0, 1) := by decide +kernel
theorem dQ_goOn_104 : decode prog_10_method_42_code 104 = .ok (.getfield 83, 3) := by decide +kernel
theorem dQ_goOn_107 : decode prog_10_method_42_code 107 = .ok (.iload_n 1, 1) := by decide +kernel
theorem dQ_goOn_108 : decode prog_10_method_42_code 108 = .ok (.iaload, 1) := by decide +kernel
theorem dQ_goOn_109 : decode prog_10_method_42_code 109 = .ok (.iconst 0, 1) := by decide +kernel
theorem dQ_goOn_110 : decode prog_10_method_42_code 110 = .ok (.aload_n 0, 1) := by decide +kernel
theorem dQ_goOn_111 : decode prog_10_method_42_code 111 = .ok (.getfield 120, 3) := by decide +kernel
theorem dQ_goOn_114 : decode prog_10_method_42_code 114 = .ok (.iload 8, 2) := by decide +kernel
theorem dQ_goOn_116 : decode prog_10_method_42_code 116 = .ok (.laload, 1) := by decide +kernel
theorem dQ_goOn_117 : decode prog_10_method_42_code 117 = .ok (.iload 7, 2) := by decide +kernel
theorem dQ_goOn_119 : decode prog_10_method_42_code 119 = .ok (.invokevirtual 290, 3) := by decide +kernel
theorem dQ_goOn_122 : decode prog_10_method_42_code 122 = .ok (.istore 7, 2) := by decide +kernel
theorem dQ_goOn_124 : decode prog_10_method_42_code 124 = .ok (.aload_n 0, 1) := by decide +kernel
theorem dQ_goOn_125 : decode prog_10_method_42_code 125 = .ok (.aload_n 0, 1) := by decide +kernel
theorem dQ_goOn_126 : decode prog_10_method_42_code 126 = .ok (.getfield 83, 3) := by decide +kernel
theorem dQ_goOn_129 : decode prog_10_method_42_code 129 = .ok (.iload_n 1, 1) := by decide +kernel
theorem dQ_goOn_130 : decode prog_10_method_42_code 130 = .ok (.iaload, 1) := by decide +kernel
theorem dQ_goOn_131 : decode prog_10_method_42_code 131 = .ok (.iconst 1, 1) := by decide +kernel
theorem dQ_goOn_132 : decode prog_10_method_42_code 132 = .ok (.aload_n 0, 1) := by decide +kernel
theorem dQ_goOn_133 : decode prog_10_method_42_code 133 = .ok (.getfield 123, 3) := by decide +kernel
theorem dQ_goOn_136 : decode prog_10_method_42_code 136 = .ok (.iload 8, 2) := by decide +kernel
theorem dQ_goOn_138 : decode prog_10_method_42_code 138 = .ok (.laload, 1) := by decide +kernel
theorem dQ_goOn_139 : decode prog_10_method_42_code 139 = .ok (.iload 7, 2) := by decide +kernel
theorem dQ_goOn_141 : decode prog_10_method_42_code 141 = .ok (.invokevirtual 290, 3) := by decide +kernel
theorem dQ_goOn_144 : decode prog_10_method_42_code 144 = .ok (.istore 7, 2) := by decide +kernel
theorem dQ_goOn_146 : decode prog_10_method_42_code 146 = .ok (.aload_n 0, 1) := by decide +kernel
theorem dQ_goOn_147 : decode prog_10_method_42_code 147 = .ok (.aload_n 0, 1) := by decide +kernel
theorem dQ_goOn_148 : decode prog_10_method_42_code 148 = .ok (.getfield 86, 3) := by decide +kernel
theorem dQ_goOn_151 : decode prog_10_method_42_code 151 = .ok (.iload_n 1, 1) := by decide +kernel
theorem dQ_goOn_152 : decode prog_10_method_42_code 152 = .ok (.iaload, 1) := by decide +kernel
theorem dQ_goOn_153 : decode prog_10_method_42_code 153 = .ok (.iload_n 3, 1) := by decide +kernel
theorem dQ_goOn_154 : decode prog_10_method_42_code 154 = .ok (.bipush 63, 2) := by decide +kernel
theorem dQ_goOn_156 : decode prog_10_method_42_code 156 = .ok (.if_icmp .ne 19, 3) := by decide +kernel
theorem dQ_goOn_159 : decode prog_10_method_42_code 159 = .ok (.lload 5, 2) := by decide +kernel
theorem dQ_goOn_161 : decode prog_10_method_42_code 161 = .ok (.lconst 0, 1) := by decide +kernel
theorem dQ_goOn_162 : decode prog_10_method_42_code 162 = .ok (.lcmp, 1) := by decide +kernel
theorem dQ_goOn_163 : decode prog_10_method_42_code 163 = .ok (.ifCond .ne 12, 3) := by decide +kernel
theorem dQ_goOn_166 : decode prog_10_method_42_code 166 = .ok (.aload_n 0, 1) := by decide +kernel
theorem dQ_goOn_167 : decode prog_10_method_42_code 167 = .ok (.getfield 25, 3) := by decide +kernel
theorem dQ_goOn_170 : decode prog_10_method_42_code 170 = .ok (.iload_n 2, 1) := by decide +kernel
theorem dQ_goOn_171 : decode prog_10_method_42_code 171 = .ok (.iaload, 1) := by decide +kernel
theorem dQ_goOn_172 : decode prog_10_method_42_code 172 = .ok (.goto 9, 3) := by decide +kernel
theorem dQ_goOn_175 : decode prog_10_method_42_code 175 = .ok (.aload_n 0, 1) := by decide +kernel
theorem dQ_goOn_176 : decode prog_10_method_42_code 176 = .ok (.getfield 22, 3) := by decide +kernel
theorem dQ_goOn_179 : decode prog_10_method_42_code 179 = .ok (.iload_n 2, 1) := by decide +kernel
theorem dQ_goOn_180 : decode prog_10_method_42_code 180 = .ok (.iaload, 1) := by decide +kernel
theorem dQ_goOn_181 : decode prog_10_method_42_code 181 = .ok (.iload 7, 2) := by decide +kernel
theorem dQ_goOn_183 : decode prog_10_method_42_code 183 = .ok (.aload_n 0, 1) := by decide +kernel
theorem dQ_goOn_184 : decode prog_10_method_42_code 184 = .ok (.getfield 92, 3) := by decide +kernel
theorem dQ_goOn_187 : decode prog_10_method_42_code 187 = .ok (.iload_n 1, 1) := by decide +kernel
theorem dQ_goOn_188 : decode prog_10_method_42_code 188 = .ok (.iaload, 1) := by decide +kernel
theorem dQ_goOn_189 : decode prog_10_method_42_code 189 = .ok (.invokevirtual 294, 3) := by decide +kernel
theorem dQ_goOn_192 : decode prog_10_method_42_code 192 = .ok (.return_, 1) := by decide +kernel
def fQ_goOn_58 (z : lc_S) : Option ((Unit) × lc_S) :=
  lc_bnd (fQ_stop 4 z) (fun r60 z60 => some ((), z60))
def fQ_goOn_181 (x1 : Int32) (x7 : Int32) (t1 : Int32) (t2 : Int32) (z : lc_S) : Option ((Unit) × lc_S) :=
  lc_chk (lc_in x1 430) (lc_bnd (fQ_enter t1 t2 x7 (lcI z 108 x1.toNatClampNeg) z) (fun r189 z189 => some ((), z189)))
def fQ_goOn_175 (x1 : Int32) (x2 : Int32) (x7 : Int32) (t1 : Int32) (z : lc_S) : Option ((Unit) × lc_S) :=
  lc_chk (lc_in x2 600) (fQ_goOn_181 x1 x7 t1 (lcI z 85 x2.toNatClampNeg) z)
def fQ_goOn_146 (x1 : Int32) (x2 : Int32) (x3 : Int32) (x5 : Int64) (x7 : Int32) (z : lc_S) : Option ((Unit) × lc_S) :=
  lc_chk (lc_in x1 430) (if x3 = 63 then (if (lg_cmp x5 0) = 0 then (lc_chk (lc_in x2 600) (fQ_goOn_181 x1 x7 (lcI z 106 x1.toNatClampNeg) (lcI z 86 x2.toNatClampNeg) z)) else (fQ_goOn_175 x1 x2 x7 (lcI z 106 x1.toNatClampNeg) z)) else (fQ_goOn_175 x1 x2 x7 (lcI z 106 x1.toNatClampNeg) z))
def fQ_goOn_87 (x1 : Int32) (x2 : Int32) (x3 : Int32) (x5 : Int64) (x7 : Int32) (z : lc_S) : Option ((Unit) × lc_S) :=
  if x3 = 47 then (lc_let ((x5 - 8589934592).toInt32) (fun x100 => lc_chk (lc_in x1 430) (lc_chk (lc_in x100 120) (lc_bnd (fQ_withName (lcI z 105 x1.toNatClampNeg) 0 (lcL z 117 x100.toNatClampNeg) x7 z) (fun r119 z119 => lc_chk (lc_in x1 430) (lc_chk (lc_in x100 120) (lc_bnd (fQ_withName (lcI z119 105 x1.toNatClampNeg) 1 (lcL z119 118 x100.toNatClampNeg) r119 z119) (fun r141 z141 => fQ_goOn_146 x1 x2 x3 x5 r141 z141)))))))) else (fQ_goOn_146 x1 x2 x3 x5 x7 z)
def fQ_goOn_64 (x1 : Int32) (x2 : Int32) (x3 : Int32) (x5 : Int64) (x7 : Int32) (z : lc_S) : Option ((Unit) × lc_S) :=
  if x3 = 58 then (lc_chk (lc_in x1 430) (lc_bnd (fQ_withName (lcI z 105 x1.toNatClampNeg) 0 x5 x7 z) (fun r82 z82 => fQ_goOn_87 x1 x2 x3 x5 r82 z82))) else (fQ_goOn_87 x1 x2 x3 x5 x7 z)
def fQ_goOn_43 (x1 : Int32) (x2 : Int32) (x3 : Int32) (x5 : Int64) (x7 : Int32) (z : lc_S) : Option ((Unit) × lc_S) :=
  if x3 = 47 then (if 0 ≤ (lg_cmp x5 8589934592) then (fQ_goOn_64 x1 x2 x3 x5 x7 z) else (fQ_goOn_58 z)) else (fQ_goOn_64 x1 x2 x3 x5 x7 z)
def fQ_goOn (a1 : Int32) (a2 : Int32) (a3 : Int32) (a4 : Int32) (z : lc_S) : Option ((Unit) × lc_S) :=
  if a4 = 2 then (lc_bnd (fQ_answer (lcL z 80 47) z) (fun r11 z11 => some ((), z11))) else (lc_let (lcL z 80 47) (fun x19 => lc_chk (lc_in a1 430) (lc_let (lcI z 107 a1.toNatClampNeg) (fun x27 => if a3 = 63 then (lc_bnd (fQ_isNumber x19 z) (fun r37 z37 => if r37 = 0 then (fQ_goOn_58 z37) else (fQ_goOn_43 a1 a2 a3 x19 x27 z37))) else (fQ_goOn_43 a1 a2 a3 x19 x27 z)))))
set_option maxHeartbeats 4000000 in
set_option maxRecDepth 100000 in
theorem bQ_goOn_58 {p : Program} {l : Launch} {e : Env} {s : State} {m : MethodId} {args : Array Value} {below : List Frame} {meth : Method} {c : Code} {G : lc_G} (hx : p.tables.exec = Jvm.exec) (hb : c.code = prog_10_method_42_code) (hml : c.maxLocals = 9) (hr : meth.sig.returnType = none) (hlocks : meth.locks = false) (hown : s.vm.findClass "LinearCellsModel" = some m.cls) (hts : ∀ w ∈ lc_ALL, w.before args s = true) (hE : lc_E G s) {r : Unit} {z' : lc_S} : ∀ {z : lc_S} {H : Heap} {locs : List Loc} {ls : Array Slot}, fQ_goOn_58 z = some (r, z') → lv_has ls 9 [(0, .ref (lc_ad G 80))] → lc_H G z s.heap H locs → W p l e (lc_rm 2) s m args below meth c H locs 0 0 (MQ below (lc_Q G none z') args s 0 0 (lc_A G)) (F0 m 58 ls []) := by
  intro z H locs ls hf hl hH
  rw [fQ_goOn_58] at hf
  refine lv_aload_n hx hb dQ_goOn_58 rfl (lv_at hl 0 rfl) ?_
  refine lv_iconst (v := 4) hx hb dQ_goOn_59 (by decide) ?_
  obtain ⟨r60, z60, h60, hf⟩ := lc_bnd_some hf
  refine lc_callv (va_runV (As := [.int 4]) (rest := []) ⟨hx, hb, hml, hown, hts⟩ (cQ_stop l G h60) (lc_cwV hts kvQ_265 (lc_room (by decide) (by decide))) (lc_preV hE hH lc_h80 rfl _) rfl rfl hl.1 rfl (lv_room (Nat.le_of_ble_eq_true rfl)) dQ_goOn_60 ⟨Nat.zero_le _, Nat.zero_le _⟩) hH (fun H locs hH => ?_)
  exact lc_vret hx hb hr hlocks hH hf dQ_goOn_63
set_option maxHeartbeats 4000000 in
set_option maxRecDepth 100000 in
theorem bQ_goOn_181 {p : Program} {l : Launch} {e : Env} {s : State} {m : MethodId} {args : Array Value} {below : List Frame} {meth : Method} {c : Code} {G : lc_G} (hx : p.tables.exec = Jvm.exec) (hb : c.code = prog_10_method_42_code) (hml : c.maxLocals = 9) (hr : meth.sig.returnType = none) (hlocks : meth.locks = false) (hown : s.vm.findClass "LinearCellsModel" = some m.cls) (hts : ∀ w ∈ lc_ALL, w.before args s = true) (hE : lc_E G s) {r : Unit} {z' : lc_S} : ∀ {x1 : Int32} {x7 : Int32} {t1 : Int32} {t2 : Int32} {z : lc_S} {H : Heap} {locs : List Loc} {ls : Array Slot}, fQ_goOn_181 x1 x7 t1 t2 z = some (r, z') → lv_has ls 9 [(0, .ref (lc_ad G 80)), (1, .int x1), (7, .int x7)] → lc_H G z s.heap H locs → W p l e (lc_rm 2) s m args below meth c H locs 0 0 (MQ below (lc_Q G none z') args s 0 0 (lc_A G)) (F0 m 181 ls [.int t2, .int t1, .ref (lc_ad G 80)]) := by
  intro x1 x7 t1 t2 z H locs ls hf hl hH
  rw [fQ_goOn_181] at hf
  refine lv_iload hx hb dQ_goOn_181 (lv_at hl 2 rfl) ?_
  refine lv_aload_n hx hb dQ_goOn_183 rfl (lv_at hl 0 rfl) ?_
  refine lc_getf (d := 28) (q := 108) hx hb hts hown hE hH flQ_92 lc_h80 rfl rfl dQ_goOn_184 ?_
  refine lv_iload_n hx hb dQ_goOn_187 rfl (lv_at hl 1 rfl) ?_
  obtain ⟨hi188, hf⟩ := lc_chk_some hf
  refine lc_iald hx hb hE hH lc_h108 rfl hi188 dQ_goOn_188 ?_
  obtain ⟨r189, z189, h189, hf⟩ := lc_bnd_some hf
  refine lc_callv (va_runV (As := [.int t1, .int t2, .int x7, .int (lcI z 108 x1.toNatClampNeg)]) (rest := []) ⟨hx, hb, hml, hown, hts⟩ (cQ_enter l G h189) (lc_cwV hts kvQ_294 (lc_room (by decide) (by decide))) (lc_preV hE hH lc_h80 rfl _) rfl rfl hl.1 rfl (lv_room (Nat.le_of_ble_eq_true rfl)) dQ_goOn_189 ⟨Nat.zero_le _, Nat.zero_le _⟩) hH (fun H locs hH => ?_)
  exact lc_vret hx hb hr hlocks hH hf dQ_goOn_192
set_option maxHeartbeats 4000000 in
set_option maxRecDepth 100000 in
theorem bQ_goOn_175 {p : Program} {l : Launch} {e : Env} {s : State} {m : MethodId} {args : Array Value} {below : List Frame} {meth : Method} {c : Code} {G : lc_G} (hx : p.tables.exec = Jvm.exec) (hb : c.code = prog_10_method_42_code) (hml : c.maxLocals = 9) (hr : meth.sig.returnType = none) (hlocks : meth.locks = false) (hown : s.vm.findClass "LinearCellsModel" = some m.cls) (hts : ∀ w ∈ lc_ALL, w.before args s = true) (hE : lc_E G s) {r : Unit} {z' : lc_S} : ∀ {x1 : Int32} {x2 : Int32} {x7 : Int32} {t1 : Int32} {z : lc_S} {H : Heap} {locs : List Loc} {ls : Array Slot}, fQ_goOn_175 x1 x2 x7 t1 z = some (r, z') → lv_has ls 9 [(0, .ref (lc_ad G 80)), (1, .int x1), (2, .int x2), (7, .int x7)] → lc_H G z s.heap H locs → W p l e (lc_rm 2) s m args below meth c H locs 0 0 (MQ below (lc_Q G none z') args s 0 0 (lc_A G)) (F0 m 175 ls [.int t1, .ref (lc_ad G 80)]) := by
  intro x1 x2 x7 t1 z H locs ls hf hl hH
  rw [fQ_goOn_175] at hf
  refine lv_aload_n hx hb dQ_goOn_175 rfl (lv_at hl 0 rfl) ?_
  refine lc_getf (d := 5) (q := 85) hx hb hts hown hE hH flQ_22 lc_h80 rfl rfl dQ_goOn_176 ?_
  refine lv_iload_n hx hb dQ_goOn_179 rfl (lv_at hl 2 rfl) ?_
  obtain ⟨hi180, hf⟩ := lc_chk_some hf
  refine lc_iald hx hb hE hH lc_h85 rfl hi180 dQ_goOn_180 ?_
  exact bQ_goOn_181 hx hb hml hr hlocks hown hts hE hf (lv_sub hl [0, 1, 3] rfl) hH
set_option maxHeartbeats 4000000 in
set_option maxRecDepth 100000 in
theorem bQ_goOn_146 {p : Program} {l : Launch} {e : Env} {s : State} {m : MethodId} {args : Array Value} {below : List Frame} {meth : Method} {c : Code} {G : lc_G} (hx : p.tables.exec = Jvm.exec) (hb : c.code = prog_10_method_42_code) (hml : c.maxLocals = 9) (hr : meth.sig.returnType = none) (hlocks : meth.locks = false) (hown : s.vm.findClass "LinearCellsModel" = some m.cls) (hts : ∀ w ∈ lc_ALL, w.before args s = true) (hE : lc_E G s) {r : Unit} {z' : lc_S} : ∀ {x1 : Int32} {x2 : Int32} {x3 : Int32} {x5 : Int64} {x7 : Int32} {z : lc_S} {H : Heap} {locs : List Loc} {ls : Array Slot}, fQ_goOn_146 x1 x2 x3 x5 x7 z = some (r, z') → lv_has ls 9 [(0, .ref (lc_ad G 80)), (1, .int x1), (2, .int x2), (3, .int x3), (5, .long x5), (7, .int x7)] → lc_H G z s.heap H locs → W p l e (lc_rm 2) s m args below meth c H locs 0 0 (MQ below (lc_Q G none z') args s 0 0 (lc_A G)) (F0 m 146 ls []) := by
  intro x1 x2 x3 x5 x7 z H locs ls hf hl hH
  rw [fQ_goOn_146] at hf
  refine lv_aload_n hx hb dQ_goOn_146 rfl (lv_at hl 0 rfl) ?_
  refine lv_aload_n hx hb dQ_goOn_147 rfl (lv_at hl 0 rfl) ?_
  refine lc_getf (d := 26) (q := 106) hx hb hts hown hE hH flQ_86 lc_h80 rfl rfl dQ_goOn_148 ?_
  refine lv_iload_n hx hb dQ_goOn_151 rfl (lv_at hl 1 rfl) ?_
  obtain ⟨hi152, hf⟩ := lc_chk_some hf
  refine lc_iald hx hb hE hH lc_h106 rfl hi152 dQ_goOn_152 ?_
  refine lv_iload_n hx hb dQ_goOn_153 rfl (lv_at hl 3 rfl) ?_
  refine lv_bipush (v := 63) hx hb dQ_goOn_154 (by decide) ?_
  refine lv_icmp_ne (tgt := 175) hx hb dQ_goOn_156 (by decide) (fun hc => ?_) (fun hc => ?_)
  · replace hf := lc_ite_neg hc hf
    exact bQ_goOn_175 hx hb hml hr hlocks hown hts hE hf (lv_sub hl [0, 1, 2, 5] rfl) hH
  · replace hf := lc_ite_pos hc hf
    refine lv_lload hx hb dQ_goOn_159 (lv_at hl 4 rfl) ?_
    refine lv_lconst (v := 0) hx hb dQ_goOn_161 (by decide) ?_
    refine W.lcmp hx hb dQ_goOn_162 ?_
    refine lv_if_ne (tgt := 175) hx hb dQ_goOn_163 (by decide) (fun hc => ?_) (fun hc => ?_)
    · replace hf := lc_ite_neg hc hf
      exact bQ_goOn_175 hx hb hml hr hlocks hown hts hE hf (lv_sub hl [0, 1, 2, 5] rfl) hH
    · replace hf := lc_ite_pos hc hf
      refine lv_aload_n hx hb dQ_goOn_166 rfl (lv_at hl 0 rfl) ?_
      refine lc_getf (d := 6) (q := 86) hx hb hts hown hE hH flQ_25 lc_h80 rfl rfl dQ_goOn_167 ?_
      refine lv_iload_n hx hb dQ_goOn_170 rfl (lv_at hl 2 rfl) ?_
      obtain ⟨hi171, hf⟩ := lc_chk_some hf
      refine lc_iald hx hb hE hH lc_h86 rfl hi171 dQ_goOn_171 ?_
      refine lv_goto (tgt := 181) hx hb dQ_goOn_172 (by decide) ?_
      exact bQ_goOn_181 hx hb hml hr hlocks hown hts hE hf (lv_sub hl [0, 1, 5] rfl) hH
set_option maxHeartbeats 4000000 in
set_option maxRecDepth 100000 in
theorem bQ_goOn_87 {p : Program} {l : Launch} {e : Env} {s : State} {m : MethodId} {args : Array Value} {below : List Frame} {meth : Method} {c : Code} {G : lc_G} (hx : p.tables.exec = Jvm.exec) (hb : c.code = prog_10_method_42_code) (hml : c.maxLocals = 9) (hr : meth.sig.returnType = none) (hlocks : meth.locks = false) (hown : s.vm.findClass "LinearCellsModel" = some m.cls) (hts : ∀ w ∈ lc_ALL, w.before args s = true) (hE : lc_E G s) {r : Unit} {z' : lc_S} : ∀ {x1 : Int32} {x2 : Int32} {x3 : Int32} {x5 : Int64} {x7 : Int32} {z : lc_S} {H : Heap} {locs : List Loc} {ls : Array Slot}, fQ_goOn_87 x1 x2 x3 x5 x7 z = some (r, z') → lv_has ls 9 [(0, .ref (lc_ad G 80)), (1, .int x1), (2, .int x2), (3, .int x3), (5, .long x5), (7, .int x7)] → lc_H G z s.heap H locs → W p l e (lc_rm 2) s m args below meth c H locs 0 0 (MQ below (lc_Q G none z') args s 0 0 (lc_A G)) (F0 m 87 ls []) := by
  intro x1 x2 x3 x5 x7 z H locs ls hf hl hH
  rw [fQ_goOn_87] at hf
  refine lv_iload_n hx hb dQ_goOn_87 rfl (lv_at hl 3 rfl) ?_
  refine lv_bipush (v := 47) hx hb dQ_goOn_88 (by decide) ?_
  refine lv_icmp_ne (tgt := 146) hx hb dQ_goOn_90 (by decide) (fun hc => ?_) (fun hc => ?_)
  · replace hf := lc_ite_neg hc hf
    exact bQ_goOn_146 hx hb hml hr hlocks hown hts hE hf (lv_sub hl [0, 1, 2, 3, 4, 5] rfl) hH
  · replace hf := lc_ite_pos hc hf
    refine lv_lload hx hb dQ_goOn_93 (lv_at hl 4 rfl) ?_
    refine lv_ldc2 hx hb hown (hts _ kcQ_332) dQ_goOn_95 ?_
    refine lv_lsub hx hb dQ_goOn_98 ?_
    refine lv_l2i hx hb dQ_goOn_99 rfl ?_
    refine lv_topi (fun x100 e100 => ?_)
    replace hf := lc_let_of e100 hf
    refine lv_istore hx hb dQ_goOn_100 hl (by decide) rfl (fun ls hl => ?_)
    replace hl : lv_has ls 9 [(8, .int x100), (0, .ref (lc_ad G 80)), (1, .int x1), (2, .int x2), (3, .int x3), (5, .long x5), (7, .int x7)] := hl
    refine lv_aload_n hx hb dQ_goOn_102 rfl (lv_at hl 1 rfl) ?_
    refine lv_aload_n hx hb dQ_goOn_103 rfl (lv_at hl 1 rfl) ?_
    refine lc_getf (d := 25) (q := 105) hx hb hts hown hE hH flQ_83 lc_h80 rfl rfl dQ_goOn_104 ?_
    refine lv_iload_n hx hb dQ_goOn_107 rfl (lv_at hl 2 rfl) ?_
    obtain ⟨hi108, hf⟩ := lc_chk_some hf
    refine lc_iald hx hb hE hH lc_h105 rfl hi108 dQ_goOn_108 ?_
    refine lv_iconst (v := 0) hx hb dQ_goOn_109 (by decide) ?_
    refine lv_aload_n hx hb dQ_goOn_110 rfl (lv_at hl 1 rfl) ?_
    refine lc_getf (d := 37) (q := 117) hx hb hts hown hE hH flQ_120 lc_h80 rfl rfl dQ_goOn_111 ?_
    refine lv_iload hx hb dQ_goOn_114 (lv_at hl 0 rfl) ?_
    obtain ⟨hi116, hf⟩ := lc_chk_some hf
    refine lc_lald hx hb hE hH lc_h117 rfl hi116 dQ_goOn_116 ?_
    refine lv_iload hx hb dQ_goOn_117 (lv_at hl 6 rfl) ?_
    obtain ⟨r119, z119, h119, hf⟩ := lc_bnd_some hf
    refine lc_calli (va_runV (As := [.int (lcI z 105 x1.toNatClampNeg), .int 0, .long (lcL z 117 x100.toNatClampNeg), .int x7]) (rest := []) ⟨hx, hb, hml, hown, hts⟩ (cQ_withName l G h119) (lc_cwV hts kvQ_290 (lc_room (by decide) (by decide))) (lc_preV hE hH lc_h80 rfl _) rfl rfl hl.1 rfl (lv_room (Nat.le_of_ble_eq_true rfl)) dQ_goOn_119 ⟨Nat.zero_le _, Nat.zero_le _⟩) hH (fun H locs hH => ?_)
    refine lv_istore hx hb dQ_goOn_122 hl (by decide) rfl (fun ls hl => ?_)
    replace hl : lv_has ls 9 [(7, .int r119), (8, .int x100), (0, .ref (lc_ad G 80)), (1, .int x1), (2, .int x2), (3, .int x3), (5, .long x5)] := hl
    refine lv_aload_n hx hb dQ_goOn_124 rfl (lv_at hl 2 rfl) ?_
    refine lv_aload_n hx hb dQ_goOn_125 rfl (lv_at hl 2 rfl) ?_
    refine lc_getf (d := 25) (q := 105) hx hb hts hown hE hH flQ_83 lc_h80 rfl rfl dQ_goOn_126 ?_
    refine lv_iload_n hx hb dQ_goOn_129 rfl (lv_at hl 3 rfl) ?_
    obtain ⟨hi130, hf⟩ := lc_chk_some hf
    refine lc_iald hx hb hE hH lc_h105 rfl hi130 dQ_goOn_130 ?_
    refine lv_iconst (v := 1) hx hb dQ_goOn_131 (by decide) ?_
    refine lv_aload_n hx hb dQ_goOn_132 rfl (lv_at hl 2 rfl) ?_
    refine lc_getf (d := 38) (q := 118) hx hb hts hown hE hH flQ_123 lc_h80 rfl rfl dQ_goOn_133 ?_
    refine lv_iload hx hb dQ_goOn_136 (lv_at hl 1 rfl) ?_
    obtain ⟨hi138, hf⟩ := lc_chk_some hf
    refine lc_lald hx hb hE hH lc_h118 rfl hi138 dQ_goOn_138 ?_
    refine lv_iload hx hb dQ_goOn_139 (lv_at hl 0 rfl) ?_
    obtain ⟨r141, z141, h141, hf⟩ := lc_bnd_some hf
    refine lc_calli (va_runV (As := [.int (lcI z119 105 x1.toNatClampNeg), .int 1, .long (lcL z119 118 x100.toNatClampNeg), .int r119]) (rest := []) ⟨hx, hb, hml, hown, hts⟩ (cQ_withName l G h141) (lc_cwV hts kvQ_290 (lc_room (by decide) (by decide))) (lc_preV hE hH lc_h80 rfl _) rfl rfl hl.1 rfl (lv_room (Nat.le_of_ble_eq_true rfl)) dQ_goOn_141 ⟨Nat.zero_le _, Nat.zero_le _⟩) hH (fun H locs hH => ?_)
    refine lv_istore hx hb dQ_goOn_144 hl (by decide) rfl (fun ls hl => ?_)
    replace hl : lv_has ls 9 [(7, .int r141), (8, .int x100), (0, .ref (lc_ad G 80)), (1, .int x1), (2, .int x2), (3, .int x3), (5, .long x5)] := hl
    exact bQ_goOn_146 hx hb hml hr hlocks hown hts hE hf (lv_sub hl [2, 3, 4, 5, 6, 0] rfl) hH
set_option maxHeartbeats 4000000 in
set_option maxRecDepth 100000 in
theorem bQ_goOn_64 {p : Program} {l : Launch} {e : Env} {s : State} {m : MethodId} {args : Array Value} {below : List Frame} {meth : Method} {c : Code} {G : lc_G} (hx : p.tables.exec = Jvm.exec) (hb : c.code = prog_10_method_42_code) (hml : c.maxLocals = 9) (hr : meth.sig.returnType = none) (hlocks : meth.locks = false) (hown : s.vm.findClass "LinearCellsModel" = some m.cls) (hts : ∀ w ∈ lc_ALL, w.before args s = true) (hE : lc_E G s) {r : Unit} {z' : lc_S} : ∀ {x1 : Int32} {x2 : Int32} {x3 : Int32} {x5 : Int64} {x7 : Int32} {z : lc_S} {H : Heap} {locs : List Loc} {ls : Array Slot}, fQ_goOn_64 x1 x2 x3 x5 x7 z = some (r, z') → lv_has ls 9 [(0, .ref (lc_ad G 80)), (1, .int x1), (2, .int x2), (3, .int x3), (5, .long x5), (7, .int x7)] → lc_H G z s.heap H locs → W p l e (lc_rm 2) s m args below meth c H locs 0 0 (MQ below (lc_Q G none z') args s 0 0 (lc_A G)) (F0 m 64 ls []) := by
  intro x1 x2 x3 x5 x7 z H locs ls hf hl hH
  rw [fQ_goOn_64] at hf
  refine lv_iload_n hx hb dQ_goOn_64 rfl (lv_at hl 3 rfl) ?_
  refine lv_bipush (v := 58) hx hb dQ_goOn_65 (by decide) ?_
  refine lv_icmp_ne (tgt := 87) hx hb dQ_goOn_67 (by decide) (fun hc => ?_) (fun hc => ?_)
  · replace hf := lc_ite_neg hc hf
    exact bQ_goOn_87 hx hb hml hr hlocks hown hts hE hf (lv_sub hl [0, 1, 2, 3, 4, 5] rfl) hH
  · replace hf := lc_ite_pos hc hf
    refine lv_aload_n hx hb dQ_goOn_70 rfl (lv_at hl 0 rfl) ?_
    refine lv_aload_n hx hb dQ_goOn_71 rfl (lv_at hl 0 rfl) ?_
    refine lc_getf (d := 25) (q := 105) hx hb hts hown hE hH flQ_83 lc_h80 rfl rfl dQ_goOn_72 ?_
    refine lv_iload_n hx hb dQ_goOn_75 rfl (lv_at hl 1 rfl) ?_
    obtain ⟨hi76, hf⟩ := lc_chk_some hf
    refine lc_iald hx hb hE hH lc_h105 rfl hi76 dQ_goOn_76 ?_
    refine lv_iconst (v := 0) hx hb dQ_goOn_77 (by decide) ?_
    refine lv_lload hx hb dQ_goOn_78 (lv_at hl 4 rfl) ?_
    refine lv_iload hx hb dQ_goOn_80 (lv_at hl 5 rfl) ?_
    obtain ⟨r82, z82, h82, hf⟩ := lc_bnd_some hf
    refine lc_calli (va_runV (As := [.int (lcI z 105 x1.toNatClampNeg), .int 0, .long x5, .int x7]) (rest := []) ⟨hx, hb, hml, hown, hts⟩ (cQ_withName l G h82) (lc_cwV hts kvQ_290 (lc_room (by decide) (by decide))) (lc_preV hE hH lc_h80 rfl _) rfl rfl hl.1 rfl (lv_room (Nat.le_of_ble_eq_true rfl)) dQ_goOn_82 ⟨Nat.zero_le _, Nat.zero_le _⟩) hH (fun H locs hH => ?_)
    refine lv_istore hx hb dQ_goOn_85 hl (by decide) rfl (fun ls hl => ?_)
    replace hl : lv_has ls 9 [(7, .int r82), (0, .ref (lc_ad G 80)), (1, .int x1), (2, .int x2), (3, .int x3), (5, .long x5)] := hl
    exact bQ_goOn_87 hx hb hml hr hlocks hown hts hE hf (lv_sub hl [1, 2, 3, 4, 5, 0] rfl) hH
set_option maxHeartbeats 4000000 in
set_option maxRecDepth 100000 in
theorem bQ_goOn_43 {p : Program} {l : Launch} {e : Env} {s : State} {m : MethodId} {args : Array Value} {below : List Frame} {meth : Method} {c : Code} {G : lc_G} (hx : p.tables.exec = Jvm.exec) (hb : c.code = prog_10_method_42_code) (hml : c.maxLocals = 9) (hr : meth.sig.returnType = none) (hlocks : meth.locks = false) (hown : s.vm.findClass "LinearCellsModel" = some m.cls) (hts : ∀ w ∈ lc_ALL, w.before args s = true) (hE : lc_E G s) {r : Unit} {z' : lc_S} : ∀ {x1 : Int32} {x2 : Int32} {x3 : Int32} {x5 : Int64} {x7 : Int32} {z : lc_S} {H : Heap} {locs : List Loc} {ls : Array Slot}, fQ_goOn_43 x1 x2 x3 x5 x7 z = some (r, z') → lv_has ls 9 [(0, .ref (lc_ad G 80)), (1, .int x1), (2, .int x2), (3, .int x3), (5, .long x5), (7, .int x7)] → lc_H G z s.heap H locs → W p l e (lc_rm 2) s m args below meth c H locs 0 0 (MQ below (lc_Q G none z') args s 0 0 (lc_A G)) (F0 m 43 ls []) := by
  intro x1 x2 x3 x5 x7 z H locs ls hf hl hH
  rw [fQ_goOn_43] at hf
  refine lv_iload_n hx hb dQ_goOn_43 rfl (lv_at hl 3 rfl) ?_
  refine lv_bipush (v := 47) hx hb dQ_goOn_44 (by decide) ?_
  refine lv_icmp_ne (tgt := 64) hx hb dQ_goOn_46 (by decide) (fun hc => ?_) (fun hc => ?_)
  · replace hf := lc_ite_neg hc hf
    exact bQ_goOn_64 hx hb hml hr hlocks hown hts hE hf (lv_sub hl [0, 1, 2, 3, 4, 5] rfl) hH
  · replace hf := lc_ite_pos hc hf
    refine lv_lload hx hb dQ_goOn_49 (lv_at hl 4 rfl) ?_
    refine lv_ldc2 hx hb hown (hts _ kcQ_332) dQ_goOn_51 ?_
    refine W.lcmp hx hb dQ_goOn_54 ?_
    refine lv_if_ge (tgt := 64) hx hb dQ_goOn_55 (by decide) (fun hc => ?_) (fun hc => ?_)
    · replace hf := lc_ite_pos hc hf
      exact bQ_goOn_64 hx hb hml hr hlocks hown hts hE hf (lv_sub hl [0, 1, 2, 3, 4, 5] rfl) hH
    · replace hf := lc_ite_neg hc hf
      exact bQ_goOn_58 hx hb hml hr hlocks hown hts hE hf (lv_sub hl [0] rfl) hH
set_option maxHeartbeats 4000000 in
set_option maxRecDepth 100000 in
theorem cQ_goOn (l : Launch) (G : lc_G) {a1 : Int32} {a2 : Int32} {a3 : Int32} {a4 : Int32} {r : Unit} {z z' : lc_S} (hf : fQ_goOn a1 a2 a3 a4 z = some (r, z')) : lc_M l G yQ_goOn wQ_goOn 2 [.ref (lc_ad G 80), .int a1, .int a2, .int a3, .int a4] z none z' := by
  refine lc_M_of (cc := prog_10_method_42_code) (maxL := 9) (ret := none) (own := "LinearCellsModel") (by decide) rfl (fun w h => List.mem_cons_of_mem _ h) (Nat.le_of_ble_eq_true rfl) rfl ?_
  intro p e s m below meth c hx hb hml hr hlocks hown hts hE ls hl hH
  replace hl : lv_has ls 9 [(0, .ref (lc_ad G 80)), (1, .int a1), (2, .int a2), (3, .int a3), (4, .int a4)] := hl
  rw [fQ_goOn] at hf
  refine lv_iload hx hb dQ_goOn_0 (lv_at hl 4 rfl) ?_
  refine lv_iconst (v := 2) hx hb dQ_goOn_2 (by decide) ?_
  refine lv_icmp_ne (tgt := 15) hx hb dQ_goOn_3 (by decide) (fun hc => ?_) (fun hc => ?_)
  · replace hf := lc_ite_neg hc hf
    refine lv_aload_n hx hb dQ_goOn_15 rfl (lv_at hl 0 rfl) ?_
    refine lc_getl hx hb hts hown hE hH flQ_301 lc_h80 rfl dQ_goOn_16 ?_
    refine lv_topl (fun x19 e19 => ?_)
    replace hf := lc_let_of e19 hf
    refine lv_lstore hx hb dQ_goOn_19 hl (by decide) rfl (fun ls hl => ?_)
    replace hl : lv_has ls 9 [(5, .long x19), (0, .ref (lc_ad G 80)), (1, .int a1), (2, .int a2), (3, .int a3), (4, .int a4)] := hl
    refine lv_aload_n hx hb dQ_goOn_21 rfl (lv_at hl 1 rfl) ?_
    refine lc_getf (d := 27) (q := 107) hx hb hts hown hE hH flQ_89 lc_h80 rfl rfl dQ_goOn_22 ?_
    refine lv_iload_n hx hb dQ_goOn_25 rfl (lv_at hl 2 rfl) ?_
    obtain ⟨hi26, hf⟩ := lc_chk_some hf
    refine lc_iald hx hb hE hH lc_h107 rfl hi26 dQ_goOn_26 ?_
    refine lv_topi (fun x27 e27 => ?_)
    replace hf := lc_let_of e27 hf
    refine lv_istore hx hb dQ_goOn_27 hl (by decide) rfl (fun ls hl => ?_)
    replace hl : lv_has ls 9 [(7, .int x27), (5, .long x19), (0, .ref (lc_ad G 80)), (1, .int a1), (2, .int a2), (3, .int a3), (4, .int a4)] := hl
    refine lv_iload_n hx hb dQ_goOn_29 rfl (lv_at hl 5 rfl) ?_
    refine lv_bipush (v := 63) hx hb dQ_goOn_30 (by decide) ?_
    refine lv_icmp_ne (tgt := 43) hx hb dQ_goOn_32 (by decide) (fun hc => ?_) (fun hc => ?_)
    · replace hf := lc_ite_neg hc hf
      exact bQ_goOn_43 hx hb hml hr hlocks hown hts hE hf (lv_sub hl [2, 3, 4, 5, 1, 0] rfl) hH
    · replace hf := lc_ite_pos hc hf
      refine lv_lload hx hb dQ_goOn_35 (lv_at hl 1 rfl) ?_
      obtain ⟨r37, z37, h37, hf⟩ := lc_bnd_some hf
      refine lc_calli (va_runS (As := [.long x19]) (rest := []) ⟨hx, hb, hml, hown, hts⟩ (cQ_isNumber l G h37) (lc_cwS hts ksQ_328 (lc_room (by decide) (by decide))) (lc_preS hE hH _) rfl rfl hl.1 rfl (lv_room (Nat.le_of_ble_eq_true rfl)) dQ_goOn_37 ⟨Nat.zero_le _, Nat.zero_le _⟩) hH (fun H locs hH => ?_)
      refine lv_if_eq (tgt := 58) hx hb dQ_goOn_40 (by decide) (fun hc => ?_) (fun hc => ?_)
      · replace hf := lc_ite_pos hc hf
        exact bQ_goOn_58 hx hb hml hr hlocks hown hts hE hf (lv_sub hl [2] rfl) hH
      · replace hf := lc_ite_neg hc hf
        exact bQ_goOn_43 hx hb hml hr hlocks hown hts hE hf (lv_sub hl [2, 3, 4, 5, 1, 0] rfl) hH
  · replace hf := lc_ite_pos hc hf
    refine lv_aload_n hx hb dQ_goOn_6 rfl (lv_at hl 0 rfl) ?_
    refine lv_aload_n hx hb dQ_goOn_7 rfl (lv_at hl 0 rfl) ?_
    refine lc_getl hx hb hts hown hE hH flQ_301 lc_h80 rfl dQ_goOn_8 ?_
    obtain ⟨r11, z11, h11, hf⟩ := lc_bnd_some hf
    refine lc_callv (va_runV (As := [.long (lcL z 80 47)]) (rest := []) ⟨hx, hb, hml, hown, hts⟩ (cQ_answer l G h11) (lc_cwV hts kvQ_305 (lc_room (by decide) (by decide))) (lc_preV hE hH lc_h80 rfl _) rfl rfl hl.1 rfl (lv_room (Nat.le_of_ble_eq_true rfl)) dQ_goOn_11 ⟨Nat.zero_le _, Nat.zero_le _⟩) hH (fun H locs hH => ?_)
    exact lc_vret hx hb hr hlocks hH hf dQ_goOn_14
theorem dQ_call_0 : decode prog_10_method_43_code 0 = .ok (.iload_n 3, 1) := by decide +kernel
theorem dQ_call_1 : decode prog_10_method_43_code 1 = .ok (.iconst 2, 1) := by decide +kernel
theorem dQ_call_2 : decode prog_10_method_43_code 2 = .ok (.if_icmp .ne 12, 3) := by decide +kernel
theorem dQ_call_5 : decode prog_10_method_43_code 5 = .ok (.aload_n 0, 1) := by decide +kernel
theorem dQ_call_6 : decode prog_10_method_43_code 6 = .ok (.aload_n 0, 1) := by decide +kernel
theorem dQ_call_7 : decode prog_10_method_43_code 7 = .ok (.getfield 301, 3) := by decide +kernel
theorem dQ_call_10 : decode prog_10_method_43_code 10 = .ok (.invokevirtual 305, 3) := by decide +kernel
theorem dQ_call_13 : decode prog_10_method_43_code 13 = .ok (.return_, 1) := by decide +kernel
theorem dQ_call_14 : decode prog_10_method_43_code 14 = .ok (.aload_n 0, 1) := by decide +kernel
theorem dQ_call_15 : decode prog_10_method_43_code 15 = .ok (.iload_n 2, 1) := by decide +kernel
theorem dQ_call_16 : decode prog_10_method_43_code 16 = .ok (.invokevirtual 230, 3) := by decide +kernel
theorem dQ_call_19 : decode prog_10_method_43_code 19 = .ok (.ifCond .ne 11, 3) := by decide +kernel
theorem dQ_call_22 : decode prog_10_method_43_code 22 = .ok (.aload_n 0, 1) := by decide +kernel
theorem dQ_call_23 : decode prog_10_method_43_code 23 = .ok (.iconst 4, 1) := by decide +kernel
theorem dQ_call_24 : decode prog_10_method_43_code 24 = .ok (.invokevirtual 265, 3) := by decide +kernel
theorem dQ_call_27 : decode prog_10_method_43_code 27 = .ok (.goto 52, 3) := by decide +kernel
theorem dQ_call_30 : decode prog_10_method_43_code 30 = .ok (.aload_n 0, 1) := by decide +kernel
theorem dQ_call_31 : decode prog_10_method_43_code 31 = .ok (.getfield 92, 3) := by decide +kernel
theorem dQ_call_34 : decode prog_10_method_43_code 34 = .ok (.iload_n 1, 1) := by decide +kernel
theorem dQ_call_35 : decode prog_10_method_43_code 35 = .ok (.iaload, 1) := by decide +kernel
theorem dQ_call_36 : decode prog_10_method_43_code 36 = .ok (.bipush 24, 2) := by decide +kernel
theorem dQ_call_38 : decode prog_10_method_43_code 38 = .ok (.if_icmp .ne 11, 3) := by decide +kernel
theorem dQ_call_41 : decode prog_10_method_43_code 41 = .ok (.aload_n 0, 1) := by decide +kernel
theorem dQ_call_42 : decode prog_10_method_43_code 42 = .ok (.iconst 3, 1) := by decide +kernel
theorem dQ_call_43 : decode prog_10_method_43_code 43 = .ok (.invokevirtual 265, 3) := by decide +kernel
theorem dQ_call_46 : decode prog_10_method_43_code 46 = .ok (.goto 33, 3) := by decide +kernel
theorem dQ_call_49 : decode prog_10_method_43_code 49 = .ok (.aload_n 0, 1) := by decide +kernel
theorem dQ_call_50 : decode prog_10_method_43_code 50 = .ok (.bipush 120, 2) := by decide +kernel
theorem dQ_call_52 : decode prog_10_method_43_code 52 = .ok (.iload_n 2, 1) := by decide +kernel
theorem dQ_call_53 : decode prog_10_method_43_code 53 = .ok (.iconst 1, 1) := by decide +kernel
theorem dQ_call_54 : decode prog_10_method_43_code 54 = .ok (.iadd, 1) := by decide +kernel
theorem dQ_call_55 : decode prog_10_method_43_code 55 = .ok (.imul, 1) := by decide +kernel
theorem dQ_call_56 : decode prog_10_method_43_code 56 = .ok (.iconst 0, 1) := by decide +kernel
theorem dQ_call_57 : decode prog_10_method_43_code 57 = .ok (.aload_n 0, 1) := by decide +kernel
theorem dQ_call_58 : decode prog_10_method_43_code 58 = .ok (.iconst (-1), 1) := by decide +kernel
theorem dQ_call_59 : decode prog_10_method_43_code 59 = .ok (.iconst 0, 1) := by decide +kernel
theorem dQ_call_60 : decode prog_10_method_43_code 60 = .ok (.aload_n 0, 1) := by decide +kernel
theorem dQ_call_61 : decode prog_10_method_43_code 61 = .ok (.getfield 301, 3) := by decide +kernel
theorem dQ_call_64 : decode prog_10_method_43_code 64 = .ok (.iconst (-1), 1) := by decide +kernel
theorem dQ_call_65 : decode prog_10_method_43_code 65 = .ok (.invokevirtual 290, 3) := by decide +kernel
theorem dQ_call_68 : decode prog_10_method_43_code 68 = .ok (.aload_n 0, 1) := by decide +kernel
theorem dQ_call_69 : decode prog_10_method_43_code 69 = .ok (.getfield 92, 3) := by decide +kernel
theorem dQ_call_72 : decode prog_10_method_43_code 72 = .ok (.iload_n 1, 1) := by decide +kernel
theorem dQ_call_73 : decode prog_10_method_43_code 73 = .ok (.iaload, 1) := by decide +kernel
theorem dQ_call_74 : decode prog_10_method_43_code 74 = .ok (.iconst 1, 1) := by decide +kernel
theorem dQ_call_75 : decode prog_10_method_43_code 75 = .ok (.iadd, 1) := by decide +kernel
theorem dQ_call_76 : decode prog_10_method_43_code 76 = .ok (.invokevirtual 294, 3) := by decide +kernel
theorem dQ_call_79 : decode prog_10_method_43_code 79 = .ok (.return_, 1) := by decide +kernel
def fQ_call (a1 : Int32) (a2 : Int32) (a3 : Int32) (z : lc_S) : Option ((Unit) × lc_S) :=
  if a3 = 2 then (lc_bnd (fQ_answer (lcL z 80 47) z) (fun r10 z10 => some ((), z10))) else (lc_bnd (fQ_isThere a2 z) (fun r16 z16 => if r16 = 0 then (lc_bnd (fQ_stop 4 z16) (fun r24 z24 => some ((), z24))) else (lc_chk (lc_in a1 430) (if (lcI z16 108 a1.toNatClampNeg) = 24 then (lc_bnd (fQ_stop 3 z16) (fun r43 z43 => some ((), z43))) else (lc_bnd (fQ_withName (-1) 0 (lcL z16 80 47) (-1) z16) (fun r65 z65 => lc_chk (lc_in a1 430) (lc_bnd (fQ_enter (120 * (a2 + 1)) 0 r65 ((lcI z65 108 a1.toNatClampNeg) + 1) z65) (fun r76 z76 => some ((), z76)))))))))
set_option maxHeartbeats 4000000 in
set_option maxRecDepth 100000 in
theorem cQ_call (l : Launch) (G : lc_G) {a1 : Int32} {a2 : Int32} {a3 : Int32} {r : Unit} {z z' : lc_S} (hf : fQ_call a1 a2 a3 z = some (r, z')) : lc_M l G yQ_call wQ_call 2 [.ref (lc_ad G 80), .int a1, .int a2, .int a3] z none z' := by
  refine lc_M_of (cc := prog_10_method_43_code) (maxL := 4) (ret := none) (own := "LinearCellsModel") (by decide) rfl (fun w h => List.mem_cons_of_mem _ h) (Nat.le_of_ble_eq_true rfl) rfl ?_
  intro p e s m below meth c hx hb hml hr hlocks hown hts hE ls hl hH
  replace hl : lv_has ls 4 [(0, .ref (lc_ad G 80)), (1, .int a1), (2, .int a2), (3, .int a3)] := hl
  rw [fQ_call] at hf
  refine lv_iload_n hx hb dQ_call_0 rfl (lv_at hl 3 rfl) ?_
  refine lv_iconst (v := 2) hx hb dQ_call_1 (by decide) ?_
  refine lv_icmp_ne (tgt := 14) hx hb dQ_call_2 (by decide) (fun hc => ?_) (fun hc => ?_)
  · replace hf := lc_ite_neg hc hf
    refine lv_aload_n hx hb dQ_call_14 rfl (lv_at hl 0 rfl) ?_
    refine lv_iload_n hx hb dQ_call_15 rfl (lv_at hl 2 rfl) ?_
    obtain ⟨r16, z16, h16, hf⟩ := lc_bnd_some hf
    refine lc_calli (va_runV (As := [.int a2]) (rest := []) ⟨hx, hb, hml, hown, hts⟩ (cQ_isThere l G h16) (lc_cwV hts kvQ_230 (lc_room (by decide) (by decide))) (lc_preV hE hH lc_h80 rfl _) rfl rfl hl.1 rfl (lv_room (Nat.le_of_ble_eq_true rfl)) dQ_call_16 ⟨Nat.zero_le _, Nat.zero_le _⟩) hH (fun H locs hH => ?_)
    refine lv_if_ne (tgt := 30) hx hb dQ_call_19 (by decide) (fun hc => ?_) (fun hc => ?_)
    · replace hf := lc_ite_neg hc hf
      refine lv_aload_n hx hb dQ_call_30 rfl (lv_at hl 0 rfl) ?_
      refine lc_getf (d := 28) (q := 108) hx hb hts hown hE hH flQ_92 lc_h80 rfl rfl dQ_call_31 ?_
      refine lv_iload_n hx hb dQ_call_34 rfl (lv_at hl 1 rfl) ?_
      obtain ⟨hi35, hf⟩ := lc_chk_some hf
      refine lc_iald hx hb hE hH lc_h108 rfl hi35 dQ_call_35 ?_
      refine lv_bipush (v := 24) hx hb dQ_call_36 (by decide) ?_
      refine lv_icmp_ne (tgt := 49) hx hb dQ_call_38 (by decide) (fun hc => ?_) (fun hc => ?_)
      · replace hf := lc_ite_neg hc hf
        refine lv_aload_n hx hb dQ_call_49 rfl (lv_at hl 0 rfl) ?_
        refine lv_bipush (v := 120) hx hb dQ_call_50 (by decide) ?_
        refine lv_iload_n hx hb dQ_call_52 rfl (lv_at hl 2 rfl) ?_
        refine lv_iconst (v := 1) hx hb dQ_call_53 (by decide) ?_
        refine lv_iadd hx hb dQ_call_54 ?_
        refine lv_imul hx hb dQ_call_55 ?_
        refine lv_iconst (v := 0) hx hb dQ_call_56 (by decide) ?_
        refine lv_aload_n hx hb dQ_call_57 rfl (lv_at hl 0 rfl) ?_
        refine lv_iconst (v := (-1)) hx hb dQ_call_58 (by decide) ?_
        refine lv_iconst (v := 0) hx hb dQ_call_59 (by decide) ?_
        refine lv_aload_n hx hb dQ_call_60 rfl (lv_at hl 0 rfl) ?_
        refine lc_getl hx hb hts hown hE hH flQ_301 lc_h80 rfl dQ_call_61 ?_
        refine lv_iconst (v := (-1)) hx hb dQ_call_64 (by decide) ?_
        obtain ⟨r65, z65, h65, hf⟩ := lc_bnd_some hf
        refine lc_calli (va_runV (As := [.int (-1), .int 0, .long (lcL z16 80 47), .int (-1)]) (rest := [.int 0, .int (120 * (a2 + 1)), .ref (lc_ad G 80)]) ⟨hx, hb, hml, hown, hts⟩ (cQ_withName l G h65) (lc_cwV hts kvQ_290 (lc_room (by decide) (by decide))) (lc_preV hE hH lc_h80 rfl _) rfl rfl hl.1 rfl (lv_room (Nat.le_of_ble_eq_true rfl)) dQ_call_65 ⟨Nat.zero_le _, Nat.zero_le _⟩) hH (fun H locs hH => ?_)
        refine lv_aload_n hx hb dQ_call_68 rfl (lv_at hl 0 rfl) ?_
        refine lc_getf (d := 28) (q := 108) hx hb hts hown hE hH flQ_92 lc_h80 rfl rfl dQ_call_69 ?_
        refine lv_iload_n hx hb dQ_call_72 rfl (lv_at hl 1 rfl) ?_
        obtain ⟨hi73, hf⟩ := lc_chk_some hf
        refine lc_iald hx hb hE hH lc_h108 rfl hi73 dQ_call_73 ?_
        refine lv_iconst (v := 1) hx hb dQ_call_74 (by decide) ?_
        refine lv_iadd hx hb dQ_call_75 ?_
        obtain ⟨r76, z76, h76, hf⟩ := lc_bnd_some hf
        refine lc_callv (va_runV (As := [.int (120 * (a2 + 1)), .int 0, .int r65, .int ((lcI z65 108 a1.toNatClampNeg) + 1)]) (rest := []) ⟨hx, hb, hml, hown, hts⟩ (cQ_enter l G h76) (lc_cwV hts kvQ_294 (lc_room (by decide) (by decide))) (lc_preV hE hH lc_h80 rfl _) rfl rfl hl.1 rfl (lv_room (Nat.le_of_ble_eq_true rfl)) dQ_call_76 ⟨Nat.zero_le _, Nat.zero_le _⟩) hH (fun H locs hH => ?_)
        exact lc_vret hx hb hr hlocks hH hf dQ_call_79
      · replace hf := lc_ite_pos hc hf
        refine lv_aload_n hx hb dQ_call_41 rfl (lv_at hl 0 rfl) ?_
        refine lv_iconst (v := 3) hx hb dQ_call_42 (by decide) ?_
        obtain ⟨r43, z43, h43, hf⟩ := lc_bnd_some hf
        refine lc_callv (va_runV (As := [.int 3]) (rest := []) ⟨hx, hb, hml, hown, hts⟩ (cQ_stop l G h43) (lc_cwV hts kvQ_265 (lc_room (by decide) (by decide))) (lc_preV hE hH lc_h80 rfl _) rfl rfl hl.1 rfl (lv_room (Nat.le_of_ble_eq_true rfl)) dQ_call_43 ⟨Nat.zero_le _, Nat.zero_le _⟩) hH (fun H locs hH => ?_)
        refine lv_goto (tgt := 79) hx hb dQ_call_46 (by decide) ?_
        exact lc_vret hx hb hr hlocks hH hf dQ_call_79
    · replace hf := lc_ite_pos hc hf
      refine lv_aload_n hx hb dQ_call_22 rfl (lv_at hl 0 rfl) ?_
      refine lv_iconst (v := 4) hx hb dQ_call_23 (by decide) ?_
      obtain ⟨r24, z24, h24, hf⟩ := lc_bnd_some hf
      refine lc_callv (va_runV (As := [.int 4]) (rest := []) ⟨hx, hb, hml, hown, hts⟩ (cQ_stop l G h24) (lc_cwV hts kvQ_265 (lc_room (by decide) (by decide))) (lc_preV hE hH lc_h80 rfl _) rfl rfl hl.1 rfl (lv_room (Nat.le_of_ble_eq_true rfl)) dQ_call_24 ⟨Nat.zero_le _, Nat.zero_le _⟩) hH (fun H locs hH => ?_)
      refine lv_goto (tgt := 79) hx hb dQ_call_27 (by decide) ?_
      exact lc_vret hx hb hr hlocks hH hf dQ_call_79
  · replace hf := lc_ite_pos hc hf
    refine lv_aload_n hx hb dQ_call_5 rfl (lv_at hl 0 rfl) ?_
    refine lv_aload_n hx hb dQ_call_6 rfl (lv_at hl 0 rfl) ?_
    refine lc_getl hx hb hts hown hE hH flQ_301 lc_h80 rfl dQ_call_7 ?_
    obtain ⟨r10, z10, h10, hf⟩ := lc_bnd_some hf
    refine lc_callv (va_runV (As := [.long (lcL z 80 47)]) (rest := []) ⟨hx, hb, hml, hown, hts⟩ (cQ_answer l G h10) (lc_cwV hts kvQ_305 (lc_room (by decide) (by decide))) (lc_preV hE hH lc_h80 rfl _) rfl rfl hl.1 rfl (lv_room (Nat.le_of_ble_eq_true rfl)) dQ_call_10 ⟨Nat.zero_le _, Nat.zero_le _⟩) hH (fun H locs hH => ?_)
    exact lc_vret hx hb hr hlocks hH hf dQ_call_13
theorem dQ_pairUp_0 : decode prog_10_method_44_code 0 = .ok (.aload_n 0, 1) := by decide +kernel
theorem dQ_pairUp_1 : decode prog_10_method_44_code 1 = .ok (.getfield 283, 3) := by decide +kernel
theorem dQ_pairUp_4 : decode prog_10_method_44_code 4 = .ok (.bipush 120, 2) := by decide +kernel
theorem dQ_pairUp_6 : decode prog_10_method_44_code 6 = .ok (.if_icmp .ne 9, 3) := by decide +kernel
theorem dQ_pairUp_9 : decode prog_10_method_44_code 9 = .ok (.aload_n 0, 1) := by decide +kernel
theorem dQ_pairUp_10 : decode prog_10_method_44_code 10 = .ok (.iconst 2, 1) := by decide +kernel
theorem dQ_pairUp_11 : decode prog_10_method_44_code 11 = .ok (.invokevirtual 265, 3) := by decide +kernel
theorem dQ_pairUp_14 : decode prog_10_method_44_code 14 = .ok (.return_, 1) := by decide +kernel
theorem dQ_pairUp_15 : decode prog_10_method_44_code 15 = .ok (.aload_n 0, 1) := by decide +kernel
theorem dQ_pairUp_16 : decode prog_10_method_44_code 16 = .ok (.getfield 120, 3) := by decide +kernel
theorem dQ_pairUp_19 : decode prog_10_method_44_code 19 = .ok (.aload_n 0, 1) := by decide +kernel
theorem dQ_pairUp_20 : decode prog_10_method_44_code 20 = .ok (.getfield 283, 3) := by decide +kernel
theorem dQ_pairUp_23 : decode prog_10_method_44_code 23 = .ok (.lload_n 1, 1) := by decide +kernel
theorem dQ_pairUp_24 : decode prog_10_method_44_code 24 = .ok (.lastore, 1) := by decide +kernel
theorem dQ_pairUp_25 : decode prog_10_method_44_code 25 = .ok (.aload_n 0, 1) := by decide +kernel
theorem dQ_pairUp_26 : decode prog_10_method_44_code 26 = .ok (.getfield 123, 3) := by decide +kernel
theorem dQ_pairUp_29 : decode prog_10_method_44_code 29 = .ok (.aload_n 0, 1) := by decide +kernel
theorem dQ_pairUp_30 : decode prog_10_method_44_code 30 = .ok (.getfield 283, 3) := by decide +kernel
theorem dQ_pairUp_33 : decode prog_10_method_44_code 33 = .ok (.lload_n 3, 1) := by decide +kernel
theorem dQ_pairUp_34 : decode prog_10_method_44_code 34 = .ok (.lastore, 1) := by decide +kernel
theorem dQ_pairUp_35 : decode prog_10_method_44_code 35 = .ok (.aload_n 0, 1) := by decide +kernel
theorem dQ_pairUp_36 : decode prog_10_method_44_code 36 = .ok (.dup, 1) := by decide +kernel
theorem dQ_pairUp_37 : decode prog_10_method_44_code 37 = .ok (.getfield 283, 3) := by decide +kernel
theorem dQ_pairUp_40 : decode prog_10_method_44_code 40 = .ok (.iconst 1, 1) := by decide +kernel
theorem dQ_pairUp_41 : decode prog_10_method_44_code 41 = .ok (.iadd, 1) := by decide +kernel
theorem dQ_pairUp_42 : decode prog_10_method_44_code 42 = .ok (.putfield 283, 3) := by decide +kernel
theorem dQ_pairUp_45 : decode prog_10_method_44_code 45 = .ok (.aload_n 0, 1) := by decide +kernel
theorem dQ_pairUp_46 : decode prog_10_method_44_code 46 = .ok (.ldc2_w 332, 3) := by decide +kernel
theorem dQ_pairUp_49 : decode prog_10_method_44_code 49 = .ok (.aload_n 0, 1) := by decide +kernel
theorem dQ_pairUp_50 : decode prog_10_method_44_code 50 = .ok (.getfield 283, 3) := by decide +kernel
theorem dQ_pairUp_53 : decode prog_10_method_44_code 53 = .ok (.i2l, 1) := by decide +kernel
theorem dQ_pairUp_54 : decode prog_10_method_44_code 54 = .ok (.ladd, 1) := by decide +kernel
theorem dQ_pairUp_55 : decode prog_10_method_44_code 55 = .ok (.lconst 1, 1) := by decide +kernel
theorem dQ_pairUp_56 : decode prog_10_method_44_code 56 = .ok (.lsub, 1) := by decide +kernel
theorem dQ_pairUp_57 : decode prog_10_method_44_code 57 = .ok (.invokevirtual 305, 3) := by decide +kernel
theorem dQ_pairUp_60 : decode prog_10_method_44_code 60 = .ok (.return_, 1) := by decide +kernel
def fQ_pairUp (a1 : Int64) (a3 : Int64) (z : lc_S) : Option ((Unit) × lc_S) :=
  if (lcI z 80 53) = 120 then (lc_bnd (fQ_stop 2 z) (fun r11 z11 => some ((), z11))) else (lc_chk (lc_in (lcI z 80 53) 120) (lc_chk (lc_in (lcI (lcUL z 117 (lcI z 80 53).toNatClampNeg a1) 80 53) 120) (lc_bnd (fQ_answer ((8589934592 + ((lcI (lcUI (lcUL (lcUL z 117 (lcI z 80 53).toNatClampNeg a1) 118 (lcI (lcUL z 117 (lcI z 80 53).toNatClampNeg a1) 80 53).toNatClampNeg a3) 80 53 ((lcI (lcUL (lcUL z 117 (lcI z 80 53).toNatClampNeg a1) 118 (lcI (lcUL z 117 (lcI z 80 53).toNatClampNeg a1) 80 53).toNatClampNeg a3) 80 53) + 1)) 80 53).toInt64)) - 1) (lcUI (lcUL (lcUL z 117 (lcI z 80 53).toNatClampNeg a1) 118 (lcI (lcUL z 117 (lcI z 80 53).toNatClampNeg a1) 80 53).toNatClampNeg a3) 80 53 ((lcI (lcUL (lcUL z 117 (lcI z 80 53).toNatClampNeg a1) 118 (lcI (lcUL z 117 (lcI z 80 53).toNatClampNeg a1) 80 53).toNatClampNeg a3) 80 53) + 1))) (fun r57 z57 => some ((), z57)))))
set_option maxHeartbeats 4000000 in
set_option maxRecDepth 100000 in
theorem cQ_pairUp (l : Launch) (G : lc_G) {a1 : Int64} {a3 : Int64} {r : Unit} {z z' : lc_S} (hf : fQ_pairUp a1 a3 z = some (r, z')) : lc_M l G yQ_pairUp wQ_pairUp 1 [.ref (lc_ad G 80), .long a1, .long a3] z none z' := by
  refine lc_M_of (cc := prog_10_method_44_code) (maxL := 5) (ret := none) (own := "LinearCellsModel") (by decide) rfl (fun w h => List.mem_cons_of_mem _ h) (Nat.le_of_ble_eq_true rfl) rfl ?_
  intro p e s m below meth c hx hb hml hr hlocks hown hts hE ls hl hH
  replace hl : lv_has ls 5 [(0, .ref (lc_ad G 80)), (1, .long a1), (3, .long a3)] := hl
  rw [fQ_pairUp] at hf
  refine lv_aload_n hx hb dQ_pairUp_0 rfl (lv_at hl 0 rfl) ?_
  refine lc_geti hx hb hts hown hE hH flQ_283 lc_h80 rfl dQ_pairUp_1 ?_
  refine lv_bipush (v := 120) hx hb dQ_pairUp_4 (by decide) ?_
  refine lv_icmp_ne (tgt := 15) hx hb dQ_pairUp_6 (by decide) (fun hc => ?_) (fun hc => ?_)
  · replace hf := lc_ite_neg hc hf
    refine lv_aload_n hx hb dQ_pairUp_15 rfl (lv_at hl 0 rfl) ?_
    refine lc_getf (d := 37) (q := 117) hx hb hts hown hE hH flQ_120 lc_h80 rfl rfl dQ_pairUp_16 ?_
    refine lv_aload_n hx hb dQ_pairUp_19 rfl (lv_at hl 0 rfl) ?_
    refine lc_geti hx hb hts hown hE hH flQ_283 lc_h80 rfl dQ_pairUp_20 ?_
    refine lv_lload_n hx hb dQ_pairUp_23 rfl (lv_at hl 1 rfl) ?_
    obtain ⟨hi24, hf⟩ := lc_chk_some hf
    refine lc_last hx hb hE hH lc_h117 rfl hi24 dQ_pairUp_24 (fun H locs hH => ?_)
    refine lv_aload_n hx hb dQ_pairUp_25 rfl (lv_at hl 0 rfl) ?_
    refine lc_getf (d := 38) (q := 118) hx hb hts hown hE hH flQ_123 lc_h80 rfl rfl dQ_pairUp_26 ?_
    refine lv_aload_n hx hb dQ_pairUp_29 rfl (lv_at hl 0 rfl) ?_
    refine lc_geti hx hb hts hown hE hH flQ_283 lc_h80 rfl dQ_pairUp_30 ?_
    refine lv_lload_n hx hb dQ_pairUp_33 rfl (lv_at hl 2 rfl) ?_
    obtain ⟨hi34, hf⟩ := lc_chk_some hf
    refine lc_last hx hb hE hH lc_h118 rfl hi34 dQ_pairUp_34 (fun H locs hH => ?_)
    refine lv_aload_n hx hb dQ_pairUp_35 rfl (lv_at hl 0 rfl) ?_
    refine lv_dup hx hb dQ_pairUp_36 rfl ?_
    refine lc_geti hx hb hts hown hE hH flQ_283 lc_h80 rfl dQ_pairUp_37 ?_
    refine lv_iconst (v := 1) hx hb dQ_pairUp_40 (by decide) ?_
    refine lv_iadd hx hb dQ_pairUp_41 ?_
    refine lc_puti hx hb hts hown hE hH fpQ_283 lc_h80 rfl rfl rfl dQ_pairUp_42 (fun H locs hH => ?_)
    refine lv_aload_n hx hb dQ_pairUp_45 rfl (lv_at hl 0 rfl) ?_
    refine lv_ldc2 hx hb hown (hts _ kcQ_332) dQ_pairUp_46 ?_
    refine lv_aload_n hx hb dQ_pairUp_49 rfl (lv_at hl 0 rfl) ?_
    refine lc_geti hx hb hts hown hE hH flQ_283 lc_h80 rfl dQ_pairUp_50 ?_
    refine lv_i2l hx hb dQ_pairUp_53 rfl ?_
    refine lv_ladd hx hb dQ_pairUp_54 ?_
    refine lv_lconst (v := 1) hx hb dQ_pairUp_55 (by decide) ?_
    refine lv_lsub hx hb dQ_pairUp_56 ?_
    obtain ⟨r57, z57, h57, hf⟩ := lc_bnd_some hf
    refine lc_callv (va_runV (As := [.long ((8589934592 + ((lcI (lcUI (lcUL (lcUL z 117 (lcI z 80 53).toNatClampNeg a1) 118 (lcI (lcUL z 117 (lcI z 80 53).toNatClampNeg a1) 80 53).toNatClampNeg a3) 80 53 ((lcI (lcUL (lcUL z 117 (lcI z 80 53).toNatClampNeg a1) 118 (lcI (lcUL z 117 (lcI z 80 53).toNatClampNeg a1) 80 53).toNatClampNeg a3) 80 53) + 1)) 80 53).toInt64)) - 1)]) (rest := []) ⟨hx, hb, hml, hown, hts⟩ (cQ_answer l G h57) (lc_cwV hts kvQ_305 (lc_room (by decide) (by decide))) (lc_preV hE hH lc_h80 rfl _) rfl rfl hl.1 rfl (lv_room (Nat.le_of_ble_eq_true rfl)) dQ_pairUp_57 ⟨Nat.zero_le _, Nat.zero_le _⟩) hH (fun H locs hH => ?_)
    exact lc_vret hx hb hr hlocks hH hf dQ_pairUp_60
  · replace hf := lc_ite_pos hc hf
    refine lv_aload_n hx hb dQ_pairUp_9 rfl (lv_at hl 0 rfl) ?_
    refine lv_iconst (v := 2) hx hb dQ_pairUp_10 (by decide) ?_
    obtain ⟨r11, z11, h11, hf⟩ := lc_bnd_some hf
    refine lc_callv (va_runV (As := [.int 2]) (rest := []) ⟨hx, hb, hml, hown, hts⟩ (cQ_stop l G h11) (lc_cwV hts kvQ_265 (lc_room (by decide) (by decide))) (lc_preV hE hH lc_h80 rfl _) rfl rfl hl.1 rfl (lv_room (Nat.le_of_ble_eq_true rfl)) dQ_pairUp_11 ⟨Nat.zero_le _, Nat.zero_le _⟩) hH (fun H locs hH => ?_)
    exact lc_vret hx hb hr hlocks hH hf dQ_pairUp_14
theorem dQ_isCell_0 : decode prog_10_method_45_code 0 = .ok (.lload_n 0, 1) := by decide +kernel
theorem dQ_isCell_1 : decode prog_10_method_45_code 1 = .ok (.ldc2_w 334, 3) := by decide +kernel
theorem dQ_isCell_4 : decode prog_10_method_45_code 4 = .ok (.lcmp, 1) := by decide +kernel
theorem dQ_isCell_5 : decode prog_10_method_45_code 5 = .ok (.ifCond .lt 15, 3) := by decide +kernel
theorem dQ_isCell_8 : decode prog_10_method_45_code 8 = .ok (.lload_n 0, 1) := by decide +kernel
theorem dQ_isCell_9 : decode prog_10_method_45_code 9 = .ok (.ldc2_w 332, 3) := by decide +kernel
theorem dQ_isCell_12 : decode prog_10_method_45_code 12 = .ok (.lcmp, 1) := by decide +kernel
theorem dQ_isCell_13 : decode prog_10_method_45_code 13 = .ok (.ifCond .ge 7, 3) := by decide +kernel
theorem dQ_isCell_16 : decode prog_10_method_45_code 16 = .ok (.iconst 1, 1) := by decide +kernel
theorem dQ_isCell_17 : decode prog_10_method_45_code 17 = .ok (.goto 4, 3) := by decide +kernel
theorem dQ_isCell_20 : decode prog_10_method_45_code 20 = .ok (.iconst 0, 1) := by decide +kernel
theorem dQ_isCell_21 : decode prog_10_method_45_code 21 = .ok (.ireturn, 1) := by decide +kernel
def fQ_isCell_20 (z : lc_S) : Option ((Int32) × lc_S) :=
  some (0, z)
def fQ_isCell (a0 : Int64) (z : lc_S) : Option ((Int32) × lc_S) :=
  if (lg_cmp a0 4294967296) < 0 then (fQ_isCell_20 z) else (if 0 ≤ (lg_cmp a0 8589934592) then (fQ_isCell_20 z) else (some (1, z)))
set_option maxHeartbeats 4000000 in
set_option maxRecDepth 100000 in
theorem bQ_isCell_20 {p : Program} {l : Launch} {e : Env} {s : State} {m : MethodId} {args : Array Value} {below : List Frame} {meth : Method} {c : Code} {G : lc_G} (hx : p.tables.exec = Jvm.exec) (hb : c.code = prog_10_method_45_code) (hml : c.maxLocals = 2) (hr : meth.sig.returnType = (some .boolean)) (hlocks : meth.locks = false) (hown : s.vm.findClass "LinearCellsModel" = some m.cls) (hts : ∀ w ∈ lc_ALL, w.before args s = true) (hE : lc_E G s) {r : Int32} {z' : lc_S} : ∀ {z : lc_S} {H : Heap} {locs : List Loc} {ls : Array Slot}, fQ_isCell_20 z = some (r, z') → lv_has ls 2 [] → lc_H G z s.heap H locs → W p l e (lc_rm 0) s m args below meth c H locs 0 0 (MQ below (lc_Q G (some (.int r)) z') args s 0 0 (lc_A G)) (F0 m 20 ls []) := by
  intro z H locs ls hf hl hH
  rw [fQ_isCell_20] at hf
  refine lv_iconst (v := 0) hx hb dQ_isCell_20 (by decide) ?_
  exact lc_zret hx hb hr hlocks (by decide) hH hf dQ_isCell_21
set_option maxHeartbeats 4000000 in
set_option maxRecDepth 100000 in
theorem cQ_isCell (l : Launch) (G : lc_G) {a0 : Int64} {r : Int32} {z z' : lc_S} (hf : fQ_isCell a0 z = some (r, z')) : lc_M l G yQ_isCell wQ_isCell 0 [.long a0] z (some (.int r)) z' := by
  refine lc_M_of (cc := prog_10_method_45_code) (maxL := 2) (ret := (some .boolean)) (own := "LinearCellsModel") (by decide) rfl (fun w h => List.mem_cons_of_mem _ h) (Nat.le_of_ble_eq_true rfl) rfl ?_
  intro p e s m below meth c hx hb hml hr hlocks hown hts hE ls hl hH
  replace hl : lv_has ls 2 [(0, .long a0)] := hl
  rw [fQ_isCell] at hf
  refine lv_lload_n hx hb dQ_isCell_0 rfl (lv_at hl 0 rfl) ?_
  refine lv_ldc2 hx hb hown (hts _ kcQ_334) dQ_isCell_1 ?_
  refine W.lcmp hx hb dQ_isCell_4 ?_
  refine lv_if_lt (tgt := 20) hx hb dQ_isCell_5 (by decide) (fun hc => ?_) (fun hc => ?_)
  · replace hf := lc_ite_pos hc hf
    exact bQ_isCell_20 hx hb hml hr hlocks hown hts hE hf (lv_sub hl [] rfl) hH
  · replace hf := lc_ite_neg hc hf
    refine lv_lload_n hx hb dQ_isCell_8 rfl (lv_at hl 0 rfl) ?_
    refine lv_ldc2 hx hb hown (hts _ kcQ_332) dQ_isCell_9 ?_
    refine W.lcmp hx hb dQ_isCell_12 ?_
    refine lv_if_ge (tgt := 20) hx hb dQ_isCell_13 (by decide) (fun hc => ?_) (fun hc => ?_)
    · replace hf := lc_ite_pos hc hf
      exact bQ_isCell_20 hx hb hml hr hlocks hown hts hE hf (lv_sub hl [] rfl) hH
    · replace hf := lc_ite_neg hc hf
      refine lv_iconst (v := 1) hx hb dQ_isCell_16 (by decide) ?_
      refine lv_goto (tgt := 21) hx hb dQ_isCell_17 (by decide) ?_
      exact lc_zret hx hb hr hlocks (by decide) hH hf dQ_isCell_21
