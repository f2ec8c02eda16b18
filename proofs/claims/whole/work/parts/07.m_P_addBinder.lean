theorem dP_addBinder_0 : decode prog_5_method_5_code 0 = .ok (.aload_n 0, 1) := by decide +kernel
theorem dP_addBinder_1 : decode prog_5_method_5_code 1 = .ok (.getfield 53, 3) := by decide +kernel
theorem dP_addBinder_4 : decode prog_5_method_5_code 4 = .ok (.bipush 24, 2) := by decide +kernel
theorem dP_addBinder_6 : decode prog_5_method_5_code 6 = .ok (.if_icmp .lt 5, 3) := by decide +kernel
theorem dP_addBinder_9 : decode prog_5_method_5_code 9 = .ok (.iconst (-1), 1) := by decide +kernel
theorem dP_addBinder_10 : decode prog_5_method_5_code 10 = .ok (.ireturn, 1) := by decide +kernel
theorem dP_addBinder_11 : decode prog_5_method_5_code 11 = .ok (.aload_n 0, 1) := by decide +kernel
theorem dP_addBinder_12 : decode prog_5_method_5_code 12 = .ok (.getfield 33, 3) := by decide +kernel
theorem dP_addBinder_15 : decode prog_5_method_5_code 15 = .ok (.aload_n 0, 1) := by decide +kernel
theorem dP_addBinder_16 : decode prog_5_method_5_code 16 = .ok (.getfield 53, 3) := by decide +kernel
theorem dP_addBinder_19 : decode prog_5_method_5_code 19 = .ok (.iload_n 1, 1) := by decide +kernel
theorem dP_addBinder_20 : decode prog_5_method_5_code 20 = .ok (.iastore, 1) := by decide +kernel
theorem dP_addBinder_21 : decode prog_5_method_5_code 21 = .ok (.aload_n 0, 1) := by decide +kernel
theorem dP_addBinder_22 : decode prog_5_method_5_code 22 = .ok (.dup, 1) := by decide +kernel
theorem dP_addBinder_23 : decode prog_5_method_5_code 23 = .ok (.getfield 53, 3) := by decide +kernel
theorem dP_addBinder_26 : decode prog_5_method_5_code 26 = .ok (.iconst 1, 1) := by decide +kernel
theorem dP_addBinder_27 : decode prog_5_method_5_code 27 = .ok (.iadd, 1) := by decide +kernel
theorem dP_addBinder_28 : decode prog_5_method_5_code 28 = .ok (.putfield 53, 3) := by decide +kernel
theorem dP_addBinder_31 : decode prog_5_method_5_code 31 = .ok (.aload_n 0, 1) := by decide +kernel
theorem dP_addBinder_32 : decode prog_5_method_5_code 32 = .ok (.getfield 53, 3) := by decide +kernel
theorem dP_addBinder_35 : decode prog_5_method_5_code 35 = .ok (.iconst 1, 1) := by decide +kernel
theorem dP_addBinder_36 : decode prog_5_method_5_code 36 = .ok (.isub, 1) := by decide +kernel
theorem dP_addBinder_37 : decode prog_5_method_5_code 37 = .ok (.ireturn, 1) := by decide +kernel
def fP_addBinder (o0 : Nat) (a1 : Int32) (z : lc_S) : Option ((Int32) × lc_S) :=
  lc_chk (lc_sh o0 = (0, 1, 0)) (if (lcI z o0 13) < 24 then (lc_chk (lc_in (lcI z o0 13) 24) (some ((lcI (lcUI (lcUI z (o0 + 8) (lcI z o0 13).toNatClampNeg a1) o0 13 ((lcI (lcUI z (o0 + 8) (lcI z o0 13).toNatClampNeg a1) o0 13) + 1)) o0 13) - 1, lcUI (lcUI z (o0 + 8) (lcI z o0 13).toNatClampNeg a1) o0 13 ((lcI (lcUI z (o0 + 8) (lcI z o0 13).toNatClampNeg a1) o0 13) + 1)))) else (some ((-1), z)))
set_option maxHeartbeats 4000000 in
set_option maxRecDepth 100000 in
theorem cP_addBinder (l : Launch) (G : lc_G) {o0 : Nat} {a1 : Int32} {r : Int32} {z z' : lc_S} (hf : fP_addBinder o0 a1 z = some (r, z')) : lc_M l G yP_addBinder wP_addBinder 0 [.ref (lc_ad G o0), .int a1] z (some (.int r)) z' := by
  refine lc_M_of (cc := prog_5_method_5_code) (maxL := 2) (ret := (some .int)) (own := "LinearCells$Procedure") (by decide) rfl (fun w h => List.mem_cons_of_mem _ h) (Nat.le_of_ble_eq_true rfl) rfl ?_
  intro p e s m below meth c hx hb hml hr hlocks hown hts hE ls hl hH
  replace hl : lv_has ls 2 [(0, .ref (lc_ad G o0)), (1, .int a1)] := hl
  rw [fP_addBinder] at hf
  refine lv_aload_n hx hb dP_addBinder_0 rfl (lv_at hl 0 rfl) ?_
  obtain ⟨hs1_0, hf⟩ := lc_chk_some hf
  refine lc_geti hx hb hts hown hE hH flP_53 hs1_0 rfl dP_addBinder_1 ?_
  refine lv_bipush (v := 24) hx hb dP_addBinder_4 (by decide) ?_
  refine lv_icmp_lt (tgt := 11) hx hb dP_addBinder_6 (by decide) (fun hc => ?_) (fun hc => ?_)
  · replace hf := lc_ite_pos hc hf
    refine lv_aload_n hx hb dP_addBinder_11 rfl (lv_at hl 0 rfl) ?_
    refine lc_getf (d := 8) (q := o0 + 8) hx hb hts hown hE hH flP_33 hs1_0 rfl rfl dP_addBinder_12 ?_
    refine lv_aload_n hx hb dP_addBinder_15 rfl (lv_at hl 0 rfl) ?_
    refine lc_geti hx hb hts hown hE hH flP_53 hs1_0 rfl dP_addBinder_16 ?_
    refine lv_iload_n hx hb dP_addBinder_19 rfl (lv_at hl 1 rfl) ?_
    obtain ⟨hi20, hf⟩ := lc_chk_some hf
    refine lc_iast hx hb hE hH (lc_pr8 hs1_0) rfl hi20 dP_addBinder_20 (fun H locs hH => ?_)
    refine lv_aload_n hx hb dP_addBinder_21 rfl (lv_at hl 0 rfl) ?_
    refine lv_dup hx hb dP_addBinder_22 rfl ?_
    refine lc_geti hx hb hts hown hE hH flP_53 hs1_0 rfl dP_addBinder_23 ?_
    refine lv_iconst (v := 1) hx hb dP_addBinder_26 (by decide) ?_
    refine lv_iadd hx hb dP_addBinder_27 ?_
    refine lc_puti hx hb hts hown hE hH fpP_53 hs1_0 rfl rfl rfl dP_addBinder_28 (fun H locs hH => ?_)
    refine lv_aload_n hx hb dP_addBinder_31 rfl (lv_at hl 0 rfl) ?_
    refine lc_geti hx hb hts hown hE hH flP_53 hs1_0 rfl dP_addBinder_32 ?_
    refine lv_iconst (v := 1) hx hb dP_addBinder_35 (by decide) ?_
    refine lv_isub hx hb dP_addBinder_36 ?_
    exact lc_iret hx hb hr hlocks hH hf dP_addBinder_37
  · replace hf := lc_ite_neg hc hf
    refine lv_iconst (v := (-1)) hx hb dP_addBinder_9 (by decide) ?_
    exact lc_iret hx hb hr hlocks hH hf dP_addBinder_10
theorem dR_forgetNames_0 : decode prog_6_method_19_code 0 = .ok (.aload_n 0, 1) := by decide +kernel
theorem dR_forgetNames_1 : decode prog_6_method_19_code 1 = .ok (.getfield 45, 3) := by decide +kernel
theorem dR_forgetNames_4 : decode prog_6_method_19_code 4 = .ok (.ifCond .le 31, 3) := by decide +kernel
theorem dR_forgetNames_7 : decode prog_6_method_19_code 7 = .ok (.aload_n 0, 1) := by decide +kernel
theorem dR_forgetNames_8 : decode prog_6_method_19_code 8 = .ok (.getfield 17, 3) := by decide +kernel
theorem dR_forgetNames_11 : decode prog_6_method_19_code 11 = .ok (.aload_n 0, 1) := by decide +kernel
theorem dR_forgetNames_12 : decode prog_6_method_19_code 12 = .ok (.getfield 45, 3) := by decide +kernel
theorem dR_forgetNames_15 : decode prog_6_method_19_code 15 = .ok (.iconst 1, 1) := by decide +kernel
theorem dR_forgetNames_16 : decode prog_6_method_19_code 16 = .ok (.isub, 1) := by decide +kernel
theorem dR_forgetNames_17 : decode prog_6_method_19_code 17 = .ok (.iaload, 1) := by decide +kernel
theorem dR_forgetNames_18 : decode prog_6_method_19_code 18 = .ok (.iload_n 1, 1) := by decide +kernel
theorem dR_forgetNames_19 : decode prog_6_method_19_code 19 = .ok (.if_icmp .ne 16, 3) := by decide +kernel
theorem dR_forgetNames_22 : decode prog_6_method_19_code 22 = .ok (.aload_n 0, 1) := by decide +kernel
theorem dR_forgetNames_23 : decode prog_6_method_19_code 23 = .ok (.dup, 1) := by decide +kernel
theorem dR_forgetNames_24 : decode prog_6_method_19_code 24 = .ok (.getfield 45, 3) := by decide +kernel
theorem dR_forgetNames_27 : decode prog_6_method_19_code 27 = .ok (.iconst 1, 1) := by decide +kernel
theorem dR_forgetNames_28 : decode prog_6_method_19_code 28 = .ok (.isub, 1) := by decide +kernel
theorem dR_forgetNames_29 : decode prog_6_method_19_code 29 = .ok (.putfield 45, 3) := by decide +kernel
theorem dR_forgetNames_32 : decode prog_6_method_19_code 32 = .ok (.goto (-32), 3) := by decide +kernel
theorem dR_forgetNames_35 : decode prog_6_method_19_code 35 = .ok (.return_, 1) := by decide +kernel
def fR_forgetNames_0 : Nat → Int32 → lc_S → Option ((Unit) × lc_S)
  | 0, _, _ => none
  | n + 1, x1, z => if (lcI z 4 8) ≤ 0 then (some ((), z)) else (lc_chk (lc_in ((lcI z 4 8) - 1) 33) (if (lcI z 6 ((lcI z 4 8) - 1).toNatClampNeg) = x1 then (fR_forgetNames_0 n x1 (lcUI z 4 8 ((lcI z 4 8) - 1))) else (some ((), z))))
def fR_forgetNames (a1 : Int32) (z : lc_S) : Option ((Unit) × lc_S) :=
  fR_forgetNames_0 lc_FU a1 z
set_option maxHeartbeats 4000000 in
set_option maxRecDepth 100000 in
theorem bR_forgetNames_0 {p : Program} {l : Launch} {e : Env} {s : State} {m : MethodId} {args : Array Value} {below : List Frame} {meth : Method} {c : Code} {G : lc_G} (hx : p.tables.exec = Jvm.exec) (hb : c.code = prog_6_method_19_code) (hml : c.maxLocals = 2) (hr : meth.sig.returnType = none) (hlocks : meth.locks = false) (hown : s.vm.findClass "LinearCells$Reader" = some m.cls) (hts : ∀ w ∈ lc_ALL, w.before args s = true) (hE : lc_E G s) {r : Unit} {z' : lc_S} : ∀ (n : Nat) {x1 : Int32} {z : lc_S} {H : Heap} {locs : List Loc} {ls : Array Slot}, fR_forgetNames_0 n x1 z = some (r, z') → lv_has ls 2 [(0, .ref (lc_ad G 4)), (1, .int x1)] → lc_H G z s.heap H locs → W p l e (lc_rm 0) s m args below meth c H locs 0 0 (MQ below (lc_Q G none z') args s 0 0 (lc_A G)) (F0 m 0 ls []) := by
  intro n
  induction n with
  | zero =>
    intro x1 z H locs ls hf hl hH
    exact absurd (show (none : Option ((Unit) × lc_S)) = some (r, z') from hf) (fun h => by cases h)
  | succ n ih =>
    intro x1 z H locs ls hf hl hH
    rw [fR_forgetNames_0] at hf
    refine lv_aload_n hx hb dR_forgetNames_0 rfl (lv_at hl 0 rfl) ?_
    refine lc_geti hx hb hts hown hE hH flR_45 lc_h4 rfl dR_forgetNames_1 ?_
    refine lv_if_le (tgt := 35) hx hb dR_forgetNames_4 (by decide) (fun hc => ?_) (fun hc => ?_)
    · replace hf := lc_ite_pos hc hf
      exact lc_vret hx hb hr hlocks hH hf dR_forgetNames_35
    · replace hf := lc_ite_neg hc hf
      refine lv_aload_n hx hb dR_forgetNames_7 rfl (lv_at hl 0 rfl) ?_
      refine lc_getf (d := 2) (q := 6) hx hb hts hown hE hH flR_17 lc_h4 rfl rfl dR_forgetNames_8 ?_
      refine lv_aload_n hx hb dR_forgetNames_11 rfl (lv_at hl 0 rfl) ?_
      refine lc_geti hx hb hts hown hE hH flR_45 lc_h4 rfl dR_forgetNames_12 ?_
      refine lv_iconst (v := 1) hx hb dR_forgetNames_15 (by decide) ?_
      refine lv_isub hx hb dR_forgetNames_16 ?_
      obtain ⟨hi17, hf⟩ := lc_chk_some hf
      refine lc_iald hx hb hE hH lc_h6 rfl hi17 dR_forgetNames_17 ?_
      refine lv_iload_n hx hb dR_forgetNames_18 rfl (lv_at hl 1 rfl) ?_
      refine lv_icmp_ne (tgt := 35) hx hb dR_forgetNames_19 (by decide) (fun hc => ?_) (fun hc => ?_)
      · replace hf := lc_ite_neg hc hf
        exact lc_vret hx hb hr hlocks hH hf dR_forgetNames_35
      · replace hf := lc_ite_pos hc hf
        refine lv_aload_n hx hb dR_forgetNames_22 rfl (lv_at hl 0 rfl) ?_
        refine lv_dup hx hb dR_forgetNames_23 rfl ?_
        refine lc_geti hx hb hts hown hE hH flR_45 lc_h4 rfl dR_forgetNames_24 ?_
        refine lv_iconst (v := 1) hx hb dR_forgetNames_27 (by decide) ?_
        refine lv_isub hx hb dR_forgetNames_28 ?_
        refine lc_puti hx hb hts hown hE hH fpR_45 lc_h4 rfl rfl rfl dR_forgetNames_29 (fun H locs hH => ?_)
        refine lv_goto (tgt := 0) hx hb dR_forgetNames_32 (by decide) ?_
        exact ih hf (lv_sub hl [0, 1] rfl) hH
set_option maxHeartbeats 4000000 in
set_option maxRecDepth 100000 in
theorem cR_forgetNames (l : Launch) (G : lc_G) {a1 : Int32} {r : Unit} {z z' : lc_S} (hf : fR_forgetNames a1 z = some (r, z')) : lc_M l G yR_forgetNames wR_forgetNames 0 [.ref (lc_ad G 4), .int a1] z none z' := by
  refine lc_M_of (cc := prog_6_method_19_code) (maxL := 2) (ret := none) (own := "LinearCells$Reader") (by decide) rfl (fun w h => List.mem_cons_of_mem _ h) (Nat.le_of_ble_eq_true rfl) rfl ?_
  intro p e s m below meth c hx hb hml hr hlocks hown hts hE ls hl hH
  replace hl : lv_has ls 2 [(0, .ref (lc_ad G 4)), (1, .int a1)] := hl
  rw [fR_forgetNames] at hf
  exact bR_forgetNames_0 hx hb hml hr hlocks hown hts hE _ hf (lv_sub hl [0, 1] rfl) hH
theorem dR_readBound_0 : decode prog_6_method_16_code 0 = .ok (.aload_n 0, 1) := by decide +kernel
theorem dR_readBound_1 : decode prog_6_method_16_code 1 = .ok (.iload 4, 2) := by decide +kernel
theorem dR_readBound_3 : decode prog_6_method_16_code 3 = .ok (.invokevirtual 69, 3) := by decide +kernel
theorem dR_readBound_6 : decode prog_6_method_16_code 6 = .ok (.istore 5, 2) := by decide +kernel
theorem dR_readBound_8 : decode prog_6_method_16_code 8 = .ok (.aload_n 0, 1) := by decide +kernel
theorem dR_readBound_9 : decode prog_6_method_16_code 9 = .ok (.iload_n 3, 1) := by decide +kernel
theorem dR_readBound_10 : decode prog_6_method_16_code 10 = .ok (.invokevirtual 121, 3) := by decide +kernel
theorem dR_readBound_13 : decode prog_6_method_16_code 13 = .ok (.iload 5, 2) := by decide +kernel
theorem dR_readBound_15 : decode prog_6_method_16_code 15 = .ok (.iconst (-1), 1) := by decide +kernel
theorem dR_readBound_16 : decode prog_6_method_16_code 16 = .ok (.if_icmp .ne 5, 3) := by decide +kernel
theorem dR_readBound_19 : decode prog_6_method_16_code 19 = .ok (.iconst (-1), 1) := by decide +kernel
theorem dR_readBound_20 : decode prog_6_method_16_code 20 = .ok (.ireturn, 1) := by decide +kernel
theorem dR_readBound_21 : decode prog_6_method_16_code 21 = .ok (.aload_n 0, 1) := by decide +kernel
theorem dR_readBound_22 : decode prog_6_method_16_code 22 = .ok (.getfield 38, 3) := by decide +kernel
theorem dR_readBound_25 : decode prog_6_method_16_code 25 = .ok (.aload_n 0, 1) := by decide +kernel
theorem dR_readBound_26 : decode prog_6_method_16_code 26 = .ok (.getfield 38, 3) := by decide +kernel
theorem dR_readBound_29 : decode prog_6_method_16_code 29 = .ok (.iload_n 1, 1) := by decide +kernel
theorem dR_readBound_30 : decode prog_6_method_16_code 30 = .ok (.iload_n 2, 1) := by decide +kernel
theorem dR_readBound_31 : decode prog_6_method_16_code 31 = .ok (.iload 5, 2) := by decide +kernel
theorem dR_readBound_33 : decode prog_6_method_16_code 33 = .ok (.iconst (-1), 1) := by decide +kernel
theorem dR_readBound_34 : decode prog_6_method_16_code 34 = .ok (.invokevirtual 111, 3) := by decide +kernel
theorem dR_readBound_37 : decode prog_6_method_16_code 37 = .ok (.iconst 0, 1) := by decide +kernel
theorem dR_readBound_38 : decode prog_6_method_16_code 38 = .ok (.iload_n 3, 1) := by decide +kernel
theorem dR_readBound_39 : decode prog_6_method_16_code 39 = .ok (.invokevirtual 125, 3) := by decide +kernel
theorem dR_readBound_42 : decode prog_6_method_16_code 42 = .ok (.ireturn, 1) := by decide +kernel
def fR_readBound (rc : Int32 → lc_S → Option (Int32 × lc_S)) (a1 : Int32) (a2 : Int32) (a3 : Int32) (a4 : Int32) (z : lc_S) : Option ((Int32) × lc_S) :=
  lc_bnd (rc a4 z) (fun r3 z3 => lc_bnd (fR_forgetNames a3 z3) (fun r10 z10 => if r3 = (-1) then (some ((-1), z10)) else (lc_bnr (lcR z10 4 3) (fun q22 => lc_bnr (lcR z10 4 3) (fun q26 => lc_chk (lc_sh q26 = (0, 1, 0)) (lc_bnd (fP_addForm q26 a1 a2 r3 (-1) z10) (fun r34 z34 => lc_chk (lc_sh q22 = (0, 1, 0)) (lc_bnd (fP_annotate q22 r34 0 a3 z34) (fun r39 z39 => some (r39, z39))))))))))
set_option maxHeartbeats 4000000 in
set_option maxRecDepth 100000 in
theorem cR_readBound {l : Launch} {G : lc_G} {rc : Int32 → lc_S → Option (Int32 × lc_S)} {h : Nat} (hrc : ∀ {d : Int32} {r : Int32} {z z' : lc_S}, rc d z = some (r, z') → lc_M l G yR_readExpression wR_readExpression h [.ref (lc_ad G 4), .int d] z (some (.int r)) z') {a1 : Int32} {a2 : Int32} {a3 : Int32} {a4 : Int32} {r : Int32} {z z' : lc_S} (hf : fR_readBound rc a1 a2 a3 a4 z = some (r, z')) : lc_M l G yR_readBound wR_readBound (h + 1) [.ref (lc_ad G 4), .int a1, .int a2, .int a3, .int a4] z (some (.int r)) z' := by
  refine lc_M_of (cc := prog_6_method_16_code) (maxL := 6) (ret := (some .int)) (own := "LinearCells$Reader") (by decide) rfl (fun w h => List.mem_cons_of_mem _ h) (Nat.le_of_ble_eq_true rfl) rfl ?_
  intro p e s m below meth c hx hb hml hr hlocks hown hts hE ls hl hH
  replace hl : lv_has ls 6 [(0, .ref (lc_ad G 4)), (1, .int a1), (2, .int a2), (3, .int a3), (4, .int a4)] := hl
  rw [fR_readBound] at hf
  refine lv_aload_n hx hb dR_readBound_0 rfl (lv_at hl 0 rfl) ?_
  refine lv_iload hx hb dR_readBound_1 (lv_at hl 4 rfl) ?_
  obtain ⟨r3, z3, h3, hf⟩ := lc_bnd_some hf
  refine lc_calli (va_runV (As := [.int a4]) (rest := []) ⟨hx, hb, hml, hown, hts⟩ (hrc h3) (lc_cwV hts kvR_69 (lc_room (by omega) (by decide))) (lc_preV hE hH lc_h4 rfl _) rfl rfl hl.1 rfl (lv_room (Nat.le_of_ble_eq_true rfl)) dR_readBound_3 ⟨Nat.zero_le _, Nat.zero_le _⟩) hH (fun H locs hH => ?_)
  refine lv_istore hx hb dR_readBound_6 hl (by decide) rfl (fun ls hl => ?_)
  replace hl : lv_has ls 6 [(5, .int r3), (0, .ref (lc_ad G 4)), (1, .int a1), (2, .int a2), (3, .int a3), (4, .int a4)] := hl
  refine lv_aload_n hx hb dR_readBound_8 rfl (lv_at hl 1 rfl) ?_
  refine lv_iload_n hx hb dR_readBound_9 rfl (lv_at hl 4 rfl) ?_
  obtain ⟨r10, z10, h10, hf⟩ := lc_bnd_some hf
  refine lc_callv (va_runV (As := [.int a3]) (rest := []) ⟨hx, hb, hml, hown, hts⟩ (cR_forgetNames l G h10) (lc_cwV hts kvR_121 (lc_room (by omega) (by decide))) (lc_preV hE hH lc_h4 rfl _) rfl rfl hl.1 rfl (lv_room (Nat.le_of_ble_eq_true rfl)) dR_readBound_10 ⟨Nat.zero_le _, Nat.zero_le _⟩) hH (fun H locs hH => ?_)
  refine lv_iload hx hb dR_readBound_13 (lv_at hl 0 rfl) ?_
  refine lv_iconst (v := (-1)) hx hb dR_readBound_15 (by decide) ?_
  refine lv_icmp_ne (tgt := 21) hx hb dR_readBound_16 (by decide) (fun hc => ?_) (fun hc => ?_)
  · replace hf := lc_ite_neg hc hf
    refine lv_aload_n hx hb dR_readBound_21 rfl (lv_at hl 1 rfl) ?_
    obtain ⟨q22, hq22, hf⟩ := lc_bnr_some hf
    refine lc_getr hx hb hts hown hE hH flR_38 lc_h4 rfl hq22 dR_readBound_22 ?_
    refine lv_aload_n hx hb dR_readBound_25 rfl (lv_at hl 1 rfl) ?_
    obtain ⟨q26, hq26, hf⟩ := lc_bnr_some hf
    refine lc_getr hx hb hts hown hE hH flR_38 lc_h4 rfl hq26 dR_readBound_26 ?_
    refine lv_iload_n hx hb dR_readBound_29 rfl (lv_at hl 2 rfl) ?_
    refine lv_iload_n hx hb dR_readBound_30 rfl (lv_at hl 3 rfl) ?_
    refine lv_iload hx hb dR_readBound_31 (lv_at hl 0 rfl) ?_
    refine lv_iconst (v := (-1)) hx hb dR_readBound_33 (by decide) ?_
    obtain ⟨hs34_0, hf⟩ := lc_chk_some hf
    obtain ⟨r34, z34, h34, hf⟩ := lc_bnd_some hf
    refine lc_calli (va_runV (As := [.int a1, .int a2, .int r3, .int (-1)]) (rest := [.ref (lc_ad G q22)]) ⟨hx, hb, hml, hown, hts⟩ (cP_addForm l G h34) (lc_cwV hts kvR_111 (lc_room (by omega) (by decide))) (lc_preV hE hH hs34_0 rfl _) rfl rfl hl.1 rfl (lv_room (Nat.le_of_ble_eq_true rfl)) dR_readBound_34 ⟨Nat.zero_le _, Nat.zero_le _⟩) hH (fun H locs hH => ?_)
    refine lv_iconst (v := 0) hx hb dR_readBound_37 (by decide) ?_
    refine lv_iload_n hx hb dR_readBound_38 rfl (lv_at hl 4 rfl) ?_
    obtain ⟨hs39_0, hf⟩ := lc_chk_some hf
    obtain ⟨r39, z39, h39, hf⟩ := lc_bnd_some hf
    refine lc_calli (va_runV (As := [.int r34, .int 0, .int a3]) (rest := []) ⟨hx, hb, hml, hown, hts⟩ (cP_annotate l G h39) (lc_cwV hts kvR_125 (lc_room (by omega) (by decide))) (lc_preV hE hH hs39_0 rfl _) rfl rfl hl.1 rfl (lv_room (Nat.le_of_ble_eq_true rfl)) dR_readBound_39 ⟨Nat.zero_le _, Nat.zero_le _⟩) hH (fun H locs hH => ?_)
    exact lc_iret hx hb hr hlocks hH hf dR_readBound_42
  · replace hf := lc_ite_pos hc hf
    refine lv_iconst (v := (-1)) hx hb dR_readBound_19 (by decide) ?_
    exact lc_iret hx hb hr hlocks hH hf dR_readBound_20
theorem dR_readLet_0 : decode prog_6_method_14_code 0 = .ok (.aload_n 0, 1) := by decide +kernel
theorem dR_readLet_1 : decode prog_6_method_14_code 1 = .ok (.invokevirtual 48, 3) := by decide +kernel
theorem dR_readLet_4 : decode prog_6_method_14_code 4 = .ok (.istore_n 2, 1) := by decide +kernel
theorem dR_readLet_5 : decode prog_6_method_14_code 5 = .ok (.iload_n 2, 1) := by decide +kernel
theorem dR_readLet_6 : decode prog_6_method_14_code 6 = .ok (.invokestatic 52, 3) := by decide +kernel
theorem dR_readLet_9 : decode prog_6_method_14_code 9 = .ok (.ifCond .ne 5, 3) := by decide +kernel
theorem dR_readLet_12 : decode prog_6_method_14_code 12 = .ok (.iconst (-1), 1) := by decide +kernel
theorem dR_readLet_13 : decode prog_6_method_14_code 13 = .ok (.ireturn, 1) := by decide +kernel
theorem dR_readLet_14 : decode prog_6_method_14_code 14 = .ok (.aload_n 0, 1) := by decide +kernel
theorem dR_readLet_15 : decode prog_6_method_14_code 15 = .ok (.iload_n 1, 1) := by decide +kernel
theorem dR_readLet_16 : decode prog_6_method_14_code 16 = .ok (.invokevirtual 69, 3) := by decide +kernel
theorem dR_readLet_19 : decode prog_6_method_14_code 19 = .ok (.istore_n 3, 1) := by decide +kernel
theorem dR_readLet_20 : decode prog_6_method_14_code 20 = .ok (.iload_n 3, 1) := by decide +kernel
theorem dR_readLet_21 : decode prog_6_method_14_code 21 = .ok (.iconst (-1), 1) := by decide +kernel
theorem dR_readLet_22 : decode prog_6_method_14_code 22 = .ok (.if_icmp .ne 7, 3) := by decide +kernel
theorem dR_readLet_25 : decode prog_6_method_14_code 25 = .ok (.iconst (-1), 1) := by decide +kernel
theorem dR_readLet_26 : decode prog_6_method_14_code 26 = .ok (.goto 11, 3) := by decide +kernel
theorem dR_readLet_29 : decode prog_6_method_14_code 29 = .ok (.aload_n 0, 1) := by decide +kernel
theorem dR_readLet_30 : decode prog_6_method_14_code 30 = .ok (.getfield 38, 3) := by decide +kernel
theorem dR_readLet_33 : decode prog_6_method_14_code 33 = .ok (.iload_n 3, 1) := by decide +kernel
theorem dR_readLet_34 : decode prog_6_method_14_code 34 = .ok (.invokevirtual 115, 3) := by decide +kernel
theorem dR_readLet_37 : decode prog_6_method_14_code 37 = .ok (.istore 4, 2) := by decide +kernel
theorem dR_readLet_39 : decode prog_6_method_14_code 39 = .ok (.iload 4, 2) := by decide +kernel
theorem dR_readLet_41 : decode prog_6_method_14_code 41 = .ok (.iconst (-1), 1) := by decide +kernel
theorem dR_readLet_42 : decode prog_6_method_14_code 42 = .ok (.if_icmp .ne 5, 3) := by decide +kernel
theorem dR_readLet_45 : decode prog_6_method_14_code 45 = .ok (.iconst (-1), 1) := by decide +kernel
theorem dR_readLet_46 : decode prog_6_method_14_code 46 = .ok (.ireturn, 1) := by decide +kernel
theorem dR_readLet_47 : decode prog_6_method_14_code 47 = .ok (.aload_n 0, 1) := by decide +kernel
theorem dR_readLet_48 : decode prog_6_method_14_code 48 = .ok (.iload_n 2, 1) := by decide +kernel
theorem dR_readLet_49 : decode prog_6_method_14_code 49 = .ok (.iload 4, 2) := by decide +kernel
theorem dR_readLet_51 : decode prog_6_method_14_code 51 = .ok (.iconst 0, 1) := by decide +kernel
theorem dR_readLet_52 : decode prog_6_method_14_code 52 = .ok (.invokevirtual 65, 3) := by decide +kernel
theorem dR_readLet_55 : decode prog_6_method_14_code 55 = .ok (.aload_n 0, 1) := by decide +kernel
theorem dR_readLet_56 : decode prog_6_method_14_code 56 = .ok (.bipush 58, 2) := by decide +kernel
theorem dR_readLet_58 : decode prog_6_method_14_code 58 = .ok (.iload_n 3, 1) := by decide +kernel
theorem dR_readLet_59 : decode prog_6_method_14_code 59 = .ok (.iload 4, 2) := by decide +kernel
theorem dR_readLet_61 : decode prog_6_method_14_code 61 = .ok (.iload_n 1, 1) := by decide +kernel
theorem dR_readLet_62 : decode prog_6_method_14_code 62 = .ok (.invokevirtual 118, 3) := by decide +kernel
theorem dR_readLet_65 : decode prog_6_method_14_code 65 = .ok (.ireturn, 1) := by decide +kernel
def fR_readLet_37 (rc : Int32 → lc_S → Option (Int32 × lc_S)) (x1 : Int32) (x2 : Int32) (x3 : Int32) (t0 : Int32) (z : lc_S) : Option ((Int32) × lc_S) :=
  if t0 = (-1) then (some ((-1), z)) else (lc_bnd (fR_addName x2 t0 0 z) (fun r52 z52 => lc_bnd (fR_readBound rc 58 x3 t0 x1 z52) (fun r62 z62 => some (r62, z62))))
def fR_readLet (rc : Int32 → lc_S → Option (Int32 × lc_S)) (a1 : Int32) (z : lc_S) : Option ((Int32) × lc_S) :=
  lc_bnd (fR_nextSign z) (fun r1 z1 => lc_bnd (fR_isLetter r1 z1) (fun r6 z6 => if r6 = 0 then (some ((-1), z6)) else (lc_bnd (rc a1 z6) (fun r16 z16 => if r16 = (-1) then (fR_readLet_37 rc a1 r1 r16 (-1) z16) else (lc_bnr (lcR z16 4 3) (fun q30 => lc_chk (lc_sh q30 = (0, 1, 0)) (lc_bnd (fP_addBinder q30 r16 z16) (fun r34 z34 => fR_readLet_37 rc a1 r1 r16 r34 z34))))))))
set_option maxHeartbeats 4000000 in
set_option maxRecDepth 100000 in
theorem bR_readLet_37 {p : Program} {l : Launch} {e : Env} {s : State} {m : MethodId} {args : Array Value} {below : List Frame} {meth : Method} {c : Code} {G : lc_G} {rc : Int32 → lc_S → Option (Int32 × lc_S)} {h : Nat} (hx : p.tables.exec = Jvm.exec) (hb : c.code = prog_6_method_14_code) (hml : c.maxLocals = 5) (hr : meth.sig.returnType = (some .int)) (hlocks : meth.locks = false) (hown : s.vm.findClass "LinearCells$Reader" = some m.cls) (hts : ∀ w ∈ lc_ALL, w.before args s = true) (hE : lc_E G s) (hrc : ∀ {d : Int32} {r : Int32} {z z' : lc_S}, rc d z = some (r, z') → lc_M l G yR_readExpression wR_readExpression h [.ref (lc_ad G 4), .int d] z (some (.int r)) z') {r : Int32} {z' : lc_S} : ∀ {x1 : Int32} {x2 : Int32} {x3 : Int32} {t0 : Int32} {z : lc_S} {H : Heap} {locs : List Loc} {ls : Array Slot}, fR_readLet_37 rc x1 x2 x3 t0 z = some (r, z') → lv_has ls 5 [(0, .ref (lc_ad G 4)), (1, .int x1), (2, .int x2), (3, .int x3)] → lc_H G z s.heap H locs → W p l e (lc_rm (h + 2)) s m args below meth c H locs 0 0 (MQ below (lc_Q G (some (.int r)) z') args s 0 0 (lc_A G)) (F0 m 37 ls [.int t0]) := by
  intro x1 x2 x3 t0 z H locs ls hf hl hH
  rw [fR_readLet_37] at hf
  refine lv_istore hx hb dR_readLet_37 hl (by decide) rfl (fun ls hl => ?_)
  replace hl : lv_has ls 5 [(4, .int t0), (0, .ref (lc_ad G 4)), (1, .int x1), (2, .int x2), (3, .int x3)] := hl
  refine lv_iload hx hb dR_readLet_39 (lv_at hl 0 rfl) ?_
  refine lv_iconst (v := (-1)) hx hb dR_readLet_41 (by decide) ?_
  refine lv_icmp_ne (tgt := 47) hx hb dR_readLet_42 (by decide) (fun hc => ?_) (fun hc => ?_)
  · replace hf := lc_ite_neg hc hf
    refine lv_aload_n hx hb dR_readLet_47 rfl (lv_at hl 1 rfl) ?_
    refine lv_iload_n hx hb dR_readLet_48 rfl (lv_at hl 3 rfl) ?_
    refine lv_iload hx hb dR_readLet_49 (lv_at hl 0 rfl) ?_
    refine lv_iconst (v := 0) hx hb dR_readLet_51 (by decide) ?_
    obtain ⟨r52, z52, h52, hf⟩ := lc_bnd_some hf
    refine lc_callv (va_runV (As := [.int x2, .int t0, .int 0]) (rest := []) ⟨hx, hb, hml, hown, hts⟩ (cR_addName l G h52) (lc_cwV hts kvR_65 (lc_room (by omega) (by decide))) (lc_preV hE hH lc_h4 rfl _) rfl rfl hl.1 rfl (lv_room (Nat.le_of_ble_eq_true rfl)) dR_readLet_52 ⟨Nat.zero_le _, Nat.zero_le _⟩) hH (fun H locs hH => ?_)
    refine lv_aload_n hx hb dR_readLet_55 rfl (lv_at hl 1 rfl) ?_
    refine lv_bipush (v := 58) hx hb dR_readLet_56 (by decide) ?_
    refine lv_iload_n hx hb dR_readLet_58 rfl (lv_at hl 4 rfl) ?_
    refine lv_iload hx hb dR_readLet_59 (lv_at hl 0 rfl) ?_
    refine lv_iload_n hx hb dR_readLet_61 rfl (lv_at hl 2 rfl) ?_
    obtain ⟨r62, z62, h62, hf⟩ := lc_bnd_some hf
    refine lc_calli (va_runV (As := [.int 58, .int x3, .int t0, .int x1]) (rest := []) ⟨hx, hb, hml, hown, hts⟩ (cR_readBound hrc h62) (lc_cwV hts kvR_118 (lc_room (by omega) (by decide))) (lc_preV hE hH lc_h4 rfl _) rfl rfl hl.1 rfl (lv_room (Nat.le_of_ble_eq_true rfl)) dR_readLet_62 ⟨Nat.zero_le _, Nat.zero_le _⟩) hH (fun H locs hH => ?_)
    exact lc_iret hx hb hr hlocks hH hf dR_readLet_65
  · replace hf := lc_ite_pos hc hf
    refine lv_iconst (v := (-1)) hx hb dR_readLet_45 (by decide) ?_
    exact lc_iret hx hb hr hlocks hH hf dR_readLet_46
set_option maxHeartbeats 4000000 in
set_option maxRecDepth 100000 in
theorem cR_readLet {l : Launch} {G : lc_G} {rc : Int32 → lc_S → Option (Int32 × lc_S)} {h : Nat} (hrc : ∀ {d : Int32} {r : Int32} {z z' : lc_S}, rc d z = some (r, z') → lc_M l G yR_readExpression wR_readExpression h [.ref (lc_ad G 4), .int d] z (some (.int r)) z') {a1 : Int32} {r : Int32} {z z' : lc_S} (hf : fR_readLet rc a1 z = some (r, z')) : lc_M l G yR_readLet wR_readLet (h + 2) [.ref (lc_ad G 4), .int a1] z (some (.int r)) z' := by
  refine lc_M_of (cc := prog_6_method_14_code) (maxL := 5) (ret := (some .int)) (own := "LinearCells$Reader") (by decide) rfl (fun w h => List.mem_cons_of_mem _ h) (Nat.le_of_ble_eq_true rfl) rfl ?_
  intro p e s m below meth c hx hb hml hr hlocks hown hts hE ls hl hH
  replace hl : lv_has ls 5 [(0, .ref (lc_ad G 4)), (1, .int a1)] := hl
  rw [fR_readLet] at hf
  refine lv_aload_n hx hb dR_readLet_0 rfl (lv_at hl 0 rfl) ?_
  obtain ⟨r1, z1, h1, hf⟩ := lc_bnd_some hf
  refine lc_calli (va_runV (As := []) (rest := []) ⟨hx, hb, hml, hown, hts⟩ (cR_nextSign l G h1) (lc_cwV hts kvR_48 (lc_room (by omega) (by decide))) (lc_preV hE hH lc_h4 rfl _) rfl rfl hl.1 rfl (lv_room (Nat.le_of_ble_eq_true rfl)) dR_readLet_1 ⟨Nat.zero_le _, Nat.zero_le _⟩) hH (fun H locs hH => ?_)
  refine lv_istore_n hx hb dR_readLet_4 rfl hl (by decide) rfl (fun ls hl => ?_)
  replace hl : lv_has ls 5 [(2, .int r1), (0, .ref (lc_ad G 4)), (1, .int a1)] := hl
  refine lv_iload_n hx hb dR_readLet_5 rfl (lv_at hl 0 rfl) ?_
  obtain ⟨r6, z6, h6, hf⟩ := lc_bnd_some hf
  refine lc_calli (va_runS (As := [.int r1]) (rest := []) ⟨hx, hb, hml, hown, hts⟩ (cR_isLetter l G h6) (lc_cwS hts ksR_52 (lc_room (by omega) (by decide))) (lc_preS hE hH _) rfl rfl hl.1 rfl (lv_room (Nat.le_of_ble_eq_true rfl)) dR_readLet_6 ⟨Nat.zero_le _, Nat.zero_le _⟩) hH (fun H locs hH => ?_)
  refine lv_if_ne (tgt := 14) hx hb dR_readLet_9 (by decide) (fun hc => ?_) (fun hc => ?_)
  · replace hf := lc_ite_neg hc hf
    refine lv_aload_n hx hb dR_readLet_14 rfl (lv_at hl 1 rfl) ?_
    refine lv_iload_n hx hb dR_readLet_15 rfl (lv_at hl 2 rfl) ?_
    obtain ⟨r16, z16, h16, hf⟩ := lc_bnd_some hf
    refine lc_calli (va_runV (As := [.int a1]) (rest := []) ⟨hx, hb, hml, hown, hts⟩ (hrc h16) (lc_cwV hts kvR_69 (lc_room (by omega) (by decide))) (lc_preV hE hH lc_h4 rfl _) rfl rfl hl.1 rfl (lv_room (Nat.le_of_ble_eq_true rfl)) dR_readLet_16 ⟨Nat.zero_le _, Nat.zero_le _⟩) hH (fun H locs hH => ?_)
    refine lv_istore_n hx hb dR_readLet_19 rfl hl (by decide) rfl (fun ls hl => ?_)
    replace hl : lv_has ls 5 [(3, .int r16), (2, .int r1), (0, .ref (lc_ad G 4)), (1, .int a1)] := hl
    refine lv_iload_n hx hb dR_readLet_20 rfl (lv_at hl 0 rfl) ?_
    refine lv_iconst (v := (-1)) hx hb dR_readLet_21 (by decide) ?_
    refine lv_icmp_ne (tgt := 29) hx hb dR_readLet_22 (by decide) (fun hc => ?_) (fun hc => ?_)
    · replace hf := lc_ite_neg hc hf
      refine lv_aload_n hx hb dR_readLet_29 rfl (lv_at hl 2 rfl) ?_
      obtain ⟨q30, hq30, hf⟩ := lc_bnr_some hf
      refine lc_getr hx hb hts hown hE hH flR_38 lc_h4 rfl hq30 dR_readLet_30 ?_
      refine lv_iload_n hx hb dR_readLet_33 rfl (lv_at hl 0 rfl) ?_
      obtain ⟨hs34_0, hf⟩ := lc_chk_some hf
      obtain ⟨r34, z34, h34, hf⟩ := lc_bnd_some hf
      refine lc_calli (va_runV (As := [.int r16]) (rest := []) ⟨hx, hb, hml, hown, hts⟩ (cP_addBinder l G h34) (lc_cwV hts kvR_115 (lc_room (by omega) (by decide))) (lc_preV hE hH hs34_0 rfl _) rfl rfl hl.1 rfl (lv_room (Nat.le_of_ble_eq_true rfl)) dR_readLet_34 ⟨Nat.zero_le _, Nat.zero_le _⟩) hH (fun H locs hH => ?_)
      exact bR_readLet_37 hx hb hml hr hlocks hown hts hE hrc hf (lv_sub hl [2, 3, 1, 0] rfl) hH
    · replace hf := lc_ite_pos hc hf
      refine lv_iconst (v := (-1)) hx hb dR_readLet_25 (by decide) ?_
      refine lv_goto (tgt := 37) hx hb dR_readLet_26 (by decide) ?_
      exact bR_readLet_37 hx hb hml hr hlocks hown hts hE hrc hf (lv_sub hl [2, 3, 1, 0] rfl) hH
  · replace hf := lc_ite_pos hc hf
    refine lv_iconst (v := (-1)) hx hb dR_readLet_12 (by decide) ?_
    exact lc_iret hx hb hr hlocks hH hf dR_readLet_13
theorem dR_readSplit_0 : decode prog_6_method_15_code 0 = .ok (.aload_n 0, 1) := by decide +kernel
theorem dR_readSplit_1 : decode prog_6_method_15_code 1 = .ok (.invokevirtual 48, 3) := by decide +kernel
theorem dR_readSplit_4 : decode prog_6_method_15_code 4 = .ok (.istore_n 2, 1) := by decide +kernel
theorem dR_readSplit_5 : decode prog_6_method_15_code 5 = .ok (.aload_n 0, 1) := by decide +kernel
theorem dR_readSplit_6 : decode prog_6_method_15_code 6 = .ok (.invokevirtual 48, 3) := by decide +kernel
theorem dR_readSplit_9 : decode prog_6_method_15_code 9 = .ok (.istore_n 3, 1) := by decide +kernel
theorem dR_readSplit_10 : decode prog_6_method_15_code 10 = .ok (.iload_n 2, 1) := by decide +kernel
theorem dR_readSplit_11 : decode prog_6_method_15_code 11 = .ok (.invokestatic 52, 3) := by decide +kernel
theorem dR_readSplit_14 : decode prog_6_method_15_code 14 = .ok (.ifCond .eq 15, 3) := by decide +kernel
theorem dR_readSplit_17 : decode prog_6_method_15_code 17 = .ok (.iload_n 3, 1) := by decide +kernel
theorem dR_readSplit_18 : decode prog_6_method_15_code 18 = .ok (.invokestatic 52, 3) := by decide +kernel
theorem dR_readSplit_21 : decode prog_6_method_15_code 21 = .ok (.ifCond .eq 8, 3) := by decide +kernel
theorem dR_readSplit_24 : decode prog_6_method_15_code 24 = .ok (.iload_n 2, 1) := by decide +kernel
theorem dR_readSplit_25 : decode prog_6_method_15_code 25 = .ok (.iload_n 3, 1) := by decide +kernel
theorem dR_readSplit_26 : decode prog_6_method_15_code 26 = .ok (.if_icmp .ne 5, 3) := by decide +kernel
theorem dR_readSplit_29 : decode prog_6_method_15_code 29 = .ok (.iconst (-1), 1) := by decide +kernel
theorem dR_readSplit_30 : decode prog_6_method_15_code 30 = .ok (.ireturn, 1) := by decide +kernel
theorem dR_readSplit_31 : decode prog_6_method_15_code 31 = .ok (.aload_n 0, 1) := by decide +kernel
theorem dR_readSplit_32 : decode prog_6_method_15_code 32 = .ok (.iload_n 1, 1) := by decide +kernel
theorem dR_readSplit_33 : decode prog_6_method_15_code 33 = .ok (.invokevirtual 69, 3) := by decide +kernel
theorem dR_readSplit_36 : decode prog_6_method_15_code 36 = .ok (.istore 4, 2) := by decide +kernel
theorem dR_readSplit_38 : decode prog_6_method_15_code 38 = .ok (.iload 4, 2) := by decide +kernel
theorem dR_readSplit_40 : decode prog_6_method_15_code 40 = .ok (.iconst (-1), 1) := by decide +kernel
theorem dR_readSplit_41 : decode prog_6_method_15_code 41 = .ok (.if_icmp .ne 7, 3) := by decide +kernel
theorem dR_readSplit_44 : decode prog_6_method_15_code 44 = .ok (.iconst (-1), 1) := by decide +kernel
theorem dR_readSplit_45 : decode prog_6_method_15_code 45 = .ok (.goto 12, 3) := by decide +kernel
theorem dR_readSplit_48 : decode prog_6_method_15_code 48 = .ok (.aload_n 0, 1) := by decide +kernel
theorem dR_readSplit_49 : decode prog_6_method_15_code 49 = .ok (.getfield 38, 3) := by decide +kernel
theorem dR_readSplit_52 : decode prog_6_method_15_code 52 = .ok (.iload 4, 2) := by decide +kernel
theorem dR_readSplit_54 : decode prog_6_method_15_code 54 = .ok (.invokevirtual 115, 3) := by decide +kernel
theorem dR_readSplit_57 : decode prog_6_method_15_code 57 = .ok (.istore 5, 2) := by decide +kernel
theorem dR_readSplit_59 : decode prog_6_method_15_code 59 = .ok (.iload 5, 2) := by decide +kernel
theorem dR_readSplit_61 : decode prog_6_method_15_code 61 = .ok (.iconst (-1), 1) := by decide +kernel
theorem dR_readSplit_62 : decode prog_6_method_15_code 62 = .ok (.if_icmp .ne 5, 3) := by decide +kernel
theorem dR_readSplit_65 : decode prog_6_method_15_code 65 = .ok (.iconst (-1), 1) := by decide +kernel
theorem dR_readSplit_66 : decode prog_6_method_15_code 66 = .ok (.ireturn, 1) := by decide +kernel
theorem dR_readSplit_67 : decode prog_6_method_15_code 67 = .ok (.aload_n 0, 1) := by decide +kernel
theorem dR_readSplit_68 : decode prog_6_method_15_code 68 = .ok (.iload_n 2, 1) := by decide +kernel
theorem dR_readSplit_69 : decode prog_6_method_15_code 69 = .ok (.iload 5, 2) := by decide +kernel
theorem dR_readSplit_71 : decode prog_6_method_15_code 71 = .ok (.iconst 1, 1) := by decide +kernel
theorem dR_readSplit_72 : decode prog_6_method_15_code 72 = .ok (.invokevirtual 65, 3) := by decide +kernel
theorem dR_readSplit_75 : decode prog_6_method_15_code 75 = .ok (.aload_n 0, 1) := by decide +kernel
theorem dR_readSplit_76 : decode prog_6_method_15_code 76 = .ok (.iload_n 3, 1) := by decide +kernel
theorem dR_readSplit_77 : decode prog_6_method_15_code 77 = .ok (.iload 5, 2) := by decide +kernel
theorem dR_readSplit_79 : decode prog_6_method_15_code 79 = .ok (.iconst 2, 1) := by decide +kernel
theorem dR_readSplit_80 : decode prog_6_method_15_code 80 = .ok (.invokevirtual 65, 3) := by decide +kernel
theorem dR_readSplit_83 : decode prog_6_method_15_code 83 = .ok (.aload_n 0, 1) := by decide +kernel
theorem dR_readSplit_84 : decode prog_6_method_15_code 84 = .ok (.bipush 47, 2) := by decide +kernel
theorem dR_readSplit_86 : decode prog_6_method_15_code 86 = .ok (.iload 4, 2) := by decide +kernel
theorem dR_readSplit_88 : decode prog_6_method_15_code 88 = .ok (.iload 5, 2) := by decide +kernel
theorem dR_readSplit_90 : decode prog_6_method_15_code 90 = .ok (.iload_n 1, 1) := by decide +kernel
theorem dR_readSplit_91 : decode prog_6_method_15_code 91 = .ok (.invokevirtual 118, 3) := by decide +kernel
theorem dR_readSplit_94 : decode prog_6_method_15_code 94 = .ok (.ireturn, 1) := by decide +kernel
def fR_readSplit_29 (rc : Int32 → lc_S → Option (Int32 × lc_S)) (z : lc_S) : Option ((Int32) × lc_S) :=
  some ((-1), z)
def fR_readSplit_57 (rc : Int32 → lc_S → Option (Int32 × lc_S)) (x1 : Int32) (x2 : Int32) (x3 : Int32) (x4 : Int32) (t0 : Int32) (z : lc_S) : Option ((Int32) × lc_S) :=
  if t0 = (-1) then (some ((-1), z)) else (lc_bnd (fR_addName x2 t0 1 z) (fun r72 z72 => lc_bnd (fR_addName x3 t0 2 z72) (fun r80 z80 => lc_bnd (fR_readBound rc 47 x4 t0 x1 z80) (fun r91 z91 => some (r91, z91)))))
def fR_readSplit (rc : Int32 → lc_S → Option (Int32 × lc_S)) (a1 : Int32) (z : lc_S) : Option ((Int32) × lc_S) :=
  lc_bnd (fR_nextSign z) (fun r1 z1 => lc_bnd (fR_nextSign z1) (fun r6 z6 => lc_bnd (fR_isLetter r1 z6) (fun r11 z11 => if r11 = 0 then (fR_readSplit_29 rc z11) else (lc_bnd (fR_isLetter r6 z11) (fun r18 z18 => if r18 = 0 then (fR_readSplit_29 rc z18) else (if r1 = r6 then (fR_readSplit_29 rc z18) else (lc_bnd (rc a1 z18) (fun r33 z33 => if r33 = (-1) then (fR_readSplit_57 rc a1 r1 r6 r33 (-1) z33) else (lc_bnr (lcR z33 4 3) (fun q49 => lc_chk (lc_sh q49 = (0, 1, 0)) (lc_bnd (fP_addBinder q49 r33 z33) (fun r54 z54 => fR_readSplit_57 rc a1 r1 r6 r33 r54 z54))))))))))))
set_option maxHeartbeats 4000000 in
set_option maxRecDepth 100000 in
theorem bR_readSplit_29 {p : Program} {l : Launch} {e : Env} {s : State} {m : MethodId} {args : Array Value} {below : List Frame} {meth : Method} {c : Code} {G : lc_G} {rc : Int32 → lc_S → Option (Int32 × lc_S)} {h : Nat} (hx : p.tables.exec = Jvm.exec) (hb : c.code = prog_6_method_15_code) (hml : c.maxLocals = 6) (hr : meth.sig.returnType = (some .int)) (hlocks : meth.locks = false) (hown : s.vm.findClass "LinearCells$Reader" = some m.cls) (hts : ∀ w ∈ lc_ALL, w.before args s = true) (hE : lc_E G s) (hrc : ∀ {d : Int32} {r : Int32} {z z' : lc_S}, rc d z = some (r, z') → lc_M l G yR_readExpression wR_readExpression h [.ref (lc_ad G 4), .int d] z (some (.int r)) z') {r : Int32} {z' : lc_S} : ∀ {z : lc_S} {H : Heap} {locs : List Loc} {ls : Array Slot}, fR_readSplit_29 rc z = some (r, z') → lv_has ls 6 [] → lc_H G z s.heap H locs → W p l e (lc_rm (h + 2)) s m args below meth c H locs 0 0 (MQ below (lc_Q G (some (.int r)) z') args s 0 0 (lc_A G)) (F0 m 29 ls []) := by
  intro z H locs ls hf hl hH
  rw [fR_readSplit_29] at hf
  refine lv_iconst (v := (-1)) hx hb dR_readSplit_29 (by decide) ?_
  exact lc_iret hx hb hr hlocks hH hf dR_readSplit_30
set_option maxHeartbeats 4000000 in
set_option maxRecDepth 100000 in
theorem bR_readSplit_57 {p : Program} {l : Launch} {e : Env} {s : State} {m : MethodId} {args : Array Value} {below : List Frame} {meth : Method} {c : Code} {G : lc_G} {rc : Int32 → lc_S → Option (Int32 × lc_S)} {h : Nat} (hx : p.tables.exec = Jvm.exec) (hb : c.code = prog_6_method_15_code) (hml : c.maxLocals = 6) (hr : meth.sig.returnType = (some .int)) (hlocks : meth.locks = false) (hown : s.vm.findClass "LinearCells$Reader" = some m.cls) (hts : ∀ w ∈ lc_ALL, w.before args s = true) (hE : lc_E G s) (hrc : ∀ {d : Int32} {r : Int32} {z z' : lc_S}, rc d z = some (r, z') → lc_M l G yR_readExpression wR_readExpression h [.ref (lc_ad G 4), .int d] z (some (.int r)) z') {r : Int32} {z' : lc_S} : ∀ {x1 : Int32} {x2 : Int32} {x3 : Int32} {x4 : Int32} {t0 : Int32} {z : lc_S} {H : Heap} {locs : List Loc} {ls : Array Slot}, fR_readSplit_57 rc x1 x2 x3 x4 t0 z = some (r, z') → lv_has ls 6 [(0, .ref (lc_ad G 4)), (1, .int x1), (2, .int x2), (3, .int x3), (4, .int x4)] → lc_H G z s.heap H locs → W p l e (lc_rm (h + 2)) s m args below meth c H locs 0 0 (MQ below (lc_Q G (some (.int r)) z') args s 0 0 (lc_A G)) (F0 m 57 ls [.int t0]) := by
  intro x1 x2 x3 x4 t0 z H locs ls hf hl hH
  rw [fR_readSplit_57] at hf
  refine lv_istore hx hb dR_readSplit_57 hl (by decide) rfl (fun ls hl => ?_)
  replace hl : lv_has ls 6 [(5, .int t0), (0, .ref (lc_ad G 4)), (1, .int x1), (2, .int x2), (3, .int x3), (4, .int x4)] := hl
  refine lv_iload hx hb dR_readSplit_59 (lv_at hl 0 rfl) ?_
  refine lv_iconst (v := (-1)) hx hb dR_readSplit_61 (by decide) ?_
  refine lv_icmp_ne (tgt := 67) hx hb dR_readSplit_62 (by decide) (fun hc => ?_) (fun hc => ?_)
  · replace hf := lc_ite_neg hc hf
    refine lv_aload_n hx hb dR_readSplit_67 rfl (lv_at hl 1 rfl) ?_
    refine lv_iload_n hx hb dR_readSplit_68 rfl (lv_at hl 3 rfl) ?_
    refine lv_iload hx hb dR_readSplit_69 (lv_at hl 0 rfl) ?_
    refine lv_iconst (v := 1) hx hb dR_readSplit_71 (by decide) ?_
    obtain ⟨r72, z72, h72, hf⟩ := lc_bnd_some hf
    refine lc_callv (va_runV (As := [.int x2, .int t0, .int 1]) (rest := []) ⟨hx, hb, hml, hown, hts⟩ (cR_addName l G h72) (lc_cwV hts kvR_65 (lc_room (by omega) (by decide))) (lc_preV hE hH lc_h4 rfl _) rfl rfl hl.1 rfl (lv_room (Nat.le_of_ble_eq_true rfl)) dR_readSplit_72 ⟨Nat.zero_le _, Nat.zero_le _⟩) hH (fun H locs hH => ?_)
    refine lv_aload_n hx hb dR_readSplit_75 rfl (lv_at hl 1 rfl) ?_
    refine lv_iload_n hx hb dR_readSplit_76 rfl (lv_at hl 4 rfl) ?_
    refine lv_iload hx hb dR_readSplit_77 (lv_at hl 0 rfl) ?_
    refine lv_iconst (v := 2) hx hb dR_readSplit_79 (by decide) ?_
    obtain ⟨r80, z80, h80, hf⟩ := lc_bnd_some hf
    refine lc_callv (va_runV (As := [.int x3, .int t0, .int 2]) (rest := []) ⟨hx, hb, hml, hown, hts⟩ (cR_addName l G h80) (lc_cwV hts kvR_65 (lc_room (by omega) (by decide))) (lc_preV hE hH lc_h4 rfl _) rfl rfl hl.1 rfl (lv_room (Nat.le_of_ble_eq_true rfl)) dR_readSplit_80 ⟨Nat.zero_le _, Nat.zero_le _⟩) hH (fun H locs hH => ?_)
    refine lv_aload_n hx hb dR_readSplit_83 rfl (lv_at hl 1 rfl) ?_
    refine lv_bipush (v := 47) hx hb dR_readSplit_84 (by decide) ?_
    refine lv_iload hx hb dR_readSplit_86 (lv_at hl 5 rfl) ?_
    refine lv_iload hx hb dR_readSplit_88 (lv_at hl 0 rfl) ?_
    refine lv_iload_n hx hb dR_readSplit_90 rfl (lv_at hl 2 rfl) ?_
    obtain ⟨r91, z91, h91, hf⟩ := lc_bnd_some hf
    refine lc_calli (va_runV (As := [.int 47, .int x4, .int t0, .int x1]) (rest := []) ⟨hx, hb, hml, hown, hts⟩ (cR_readBound hrc h91) (lc_cwV hts kvR_118 (lc_room (by omega) (by decide))) (lc_preV hE hH lc_h4 rfl _) rfl rfl hl.1 rfl (lv_room (Nat.le_of_ble_eq_true rfl)) dR_readSplit_91 ⟨Nat.zero_le _, Nat.zero_le _⟩) hH (fun H locs hH => ?_)
    exact lc_iret hx hb hr hlocks hH hf dR_readSplit_94
  · replace hf := lc_ite_pos hc hf
    refine lv_iconst (v := (-1)) hx hb dR_readSplit_65 (by decide) ?_
    exact lc_iret hx hb hr hlocks hH hf dR_readSplit_66
set_option maxHeartbeats 4000000 in
set_option maxRecDepth 100000 in
theorem cR_readSplit {l : Launch} {G : lc_G} {rc : Int32 → lc_S → Option (Int32 × lc_S)} {h : Nat} (hrc : ∀ {d : Int32} {r : Int32} {z z' : lc_S}, rc d z = some (r, z') → lc_M l G yR_readExpression wR_readExpression h [.ref (lc_ad G 4), .int d] z (some (.int r)) z') {a1 : Int32} {r : Int32} {z z' : lc_S} (hf : fR_readSplit rc a1 z = some (r, z')) : lc_M l G yR_readSplit wR_readSplit (h + 2) [.ref (lc_ad G 4), .int a1] z (some (.int r)) z' := by
  refine lc_M_of (cc := prog_6_method_15_code) (maxL := 6) (ret := (some .int)) (own := "LinearCells$Reader") (by decide) rfl (fun w h => List.mem_cons_of_mem _ h) (Nat.le_of_ble_eq_true rfl) rfl ?_
  intro p e s m below meth c hx hb hml hr hlocks hown hts hE ls hl hH
  replace hl : lv_has ls 6 [(0, .ref (lc_ad G 4)), (1, .int a1)] := hl
  rw [fR_readSplit] at hf
  refine lv_aload_n hx hb dR_readSplit_0 rfl (lv_at hl 0 rfl) ?_
  obtain ⟨r1, z1, h1, hf⟩ := lc_bnd_some hf
  refine lc_calli (va_runV (As := []) (rest := []) ⟨hx, hb, hml, hown, hts⟩ (cR_nextSign l G h1) (lc_cwV hts kvR_48 (lc_room (by omega) (by decide))) (lc_preV hE hH lc_h4 rfl _) rfl rfl hl.1 rfl (lv_room (Nat.le_of_ble_eq_true rfl)) dR_readSplit_1 ⟨Nat.zero_le _, Nat.zero_le _⟩) hH (fun H locs hH => ?_)
  refine lv_istore_n hx hb dR_readSplit_4 rfl hl (by decide) rfl (fun ls hl => ?_)
  replace hl : lv_has ls 6 [(2, .int r1), (0, .ref (lc_ad G 4)), (1, .int a1)] := hl
  refine lv_aload_n hx hb dR_readSplit_5 rfl (lv_at hl 1 rfl) ?_
  obtain ⟨r6, z6, h6, hf⟩ := lc_bnd_some hf
  refine lc_calli (va_runV (As := []) (rest := []) ⟨hx, hb, hml, hown, hts⟩ (cR_nextSign l G h6) (lc_cwV hts kvR_48 (lc_room (by omega) (by decide))) (lc_preV hE hH lc_h4 rfl _) rfl rfl hl.1 rfl (lv_room (Nat.le_of_ble_eq_true rfl)) dR_readSplit_6 ⟨Nat.zero_le _, Nat.zero_le _⟩) hH (fun H locs hH => ?_)
  refine lv_istore_n hx hb dR_readSplit_9 rfl hl (by decide) rfl (fun ls hl => ?_)
  replace hl : lv_has ls 6 [(3, .int r6), (2, .int r1), (0, .ref (lc_ad G 4)), (1, .int a1)] := hl
  refine lv_iload_n hx hb dR_readSplit_10 rfl (lv_at hl 1 rfl) ?_
  obtain ⟨r11, z11, h11, hf⟩ := lc_bnd_some hf
  refine lc_calli (va_runS (As := [.int r1]) (rest := []) ⟨hx, hb, hml, hown, hts⟩ (cR_isLetter l G h11) (lc_cwS hts ksR_52 (lc_room (by omega) (by decide))) (lc_preS hE hH _) rfl rfl hl.1 rfl (lv_room (Nat.le_of_ble_eq_true rfl)) dR_readSplit_11 ⟨Nat.zero_le _, Nat.zero_le _⟩) hH (fun H locs hH => ?_)
  refine lv_if_eq (tgt := 29) hx hb dR_readSplit_14 (by decide) (fun hc => ?_) (fun hc => ?_)
  · replace hf := lc_ite_pos hc hf
    exact bR_readSplit_29 hx hb hml hr hlocks hown hts hE hrc hf (lv_sub hl [] rfl) hH
  · replace hf := lc_ite_neg hc hf
    refine lv_iload_n hx hb dR_readSplit_17 rfl (lv_at hl 0 rfl) ?_
    obtain ⟨r18, z18, h18, hf⟩ := lc_bnd_some hf
    refine lc_calli (va_runS (As := [.int r6]) (rest := []) ⟨hx, hb, hml, hown, hts⟩ (cR_isLetter l G h18) (lc_cwS hts ksR_52 (lc_room (by omega) (by decide))) (lc_preS hE hH _) rfl rfl hl.1 rfl (lv_room (Nat.le_of_ble_eq_true rfl)) dR_readSplit_18 ⟨Nat.zero_le _, Nat.zero_le _⟩) hH (fun H locs hH => ?_)
    refine lv_if_eq (tgt := 29) hx hb dR_readSplit_21 (by decide) (fun hc => ?_) (fun hc => ?_)
    · replace hf := lc_ite_pos hc hf
      exact bR_readSplit_29 hx hb hml hr hlocks hown hts hE hrc hf (lv_sub hl [] rfl) hH
    · replace hf := lc_ite_neg hc hf
      refine lv_iload_n hx hb dR_readSplit_24 rfl (lv_at hl 1 rfl) ?_
      refine lv_iload_n hx hb dR_readSplit_25 rfl (lv_at hl 0 rfl) ?_
      refine lv_icmp_ne (tgt := 31) hx hb dR_readSplit_26 (by decide) (fun hc => ?_) (fun hc => ?_)
      · replace hf := lc_ite_neg hc hf
        refine lv_aload_n hx hb dR_readSplit_31 rfl (lv_at hl 2 rfl) ?_
        refine lv_iload_n hx hb dR_readSplit_32 rfl (lv_at hl 3 rfl) ?_
        obtain ⟨r33, z33, h33, hf⟩ := lc_bnd_some hf
        refine lc_calli (va_runV (As := [.int a1]) (rest := []) ⟨hx, hb, hml, hown, hts⟩ (hrc h33) (lc_cwV hts kvR_69 (lc_room (by omega) (by decide))) (lc_preV hE hH lc_h4 rfl _) rfl rfl hl.1 rfl (lv_room (Nat.le_of_ble_eq_true rfl)) dR_readSplit_33 ⟨Nat.zero_le _, Nat.zero_le _⟩) hH (fun H locs hH => ?_)
        refine lv_istore hx hb dR_readSplit_36 hl (by decide) rfl (fun ls hl => ?_)
        replace hl : lv_has ls 6 [(4, .int r33), (3, .int r6), (2, .int r1), (0, .ref (lc_ad G 4)), (1, .int a1)] := hl
        refine lv_iload hx hb dR_readSplit_38 (lv_at hl 0 rfl) ?_
        refine lv_iconst (v := (-1)) hx hb dR_readSplit_40 (by decide) ?_
        refine lv_icmp_ne (tgt := 48) hx hb dR_readSplit_41 (by decide) (fun hc => ?_) (fun hc => ?_)
        · replace hf := lc_ite_neg hc hf
          refine lv_aload_n hx hb dR_readSplit_48 rfl (lv_at hl 3 rfl) ?_
          obtain ⟨q49, hq49, hf⟩ := lc_bnr_some hf
          refine lc_getr hx hb hts hown hE hH flR_38 lc_h4 rfl hq49 dR_readSplit_49 ?_
          refine lv_iload hx hb dR_readSplit_52 (lv_at hl 0 rfl) ?_
          obtain ⟨hs54_0, hf⟩ := lc_chk_some hf
          obtain ⟨r54, z54, h54, hf⟩ := lc_bnd_some hf
          refine lc_calli (va_runV (As := [.int r33]) (rest := []) ⟨hx, hb, hml, hown, hts⟩ (cP_addBinder l G h54) (lc_cwV hts kvR_115 (lc_room (by omega) (by decide))) (lc_preV hE hH hs54_0 rfl _) rfl rfl hl.1 rfl (lv_room (Nat.le_of_ble_eq_true rfl)) dR_readSplit_54 ⟨Nat.zero_le _, Nat.zero_le _⟩) hH (fun H locs hH => ?_)
          exact bR_readSplit_57 hx hb hml hr hlocks hown hts hE hrc hf (lv_sub hl [3, 4, 2, 1, 0] rfl) hH
        · replace hf := lc_ite_pos hc hf
          refine lv_iconst (v := (-1)) hx hb dR_readSplit_44 (by decide) ?_
          refine lv_goto (tgt := 57) hx hb dR_readSplit_45 (by decide) ?_
          exact bR_readSplit_57 hx hb hml hr hlocks hown hts hE hrc hf (lv_sub hl [3, 4, 2, 1, 0] rfl) hH
      · replace hf := lc_ite_pos hc hf
        exact bR_readSplit_29 hx hb hml hr hlocks hown hts hE hrc hf (lv_sub hl [] rfl) hH
theorem dR_readCall_0 : decode prog_6_method_17_code 0 = .ok (.aload_n 0, 1) := by decide +kernel
theorem dR_readCall_1 : decode prog_6_method_17_code 1 = .ok (.invokevirtual 48, 3) := by decide +kernel
theorem dR_readCall_4 : decode prog_6_method_17_code 4 = .ok (.istore_n 2, 1) := by decide +kernel
theorem dR_readCall_5 : decode prog_6_method_17_code 5 = .ok (.iload_n 2, 1) := by decide +kernel
theorem dR_readCall_6 : decode prog_6_method_17_code 6 = .ok (.invokestatic 79, 3) := by decide +kernel
theorem dR_readCall_9 : decode prog_6_method_17_code 9 = .ok (.ifCond .eq 11, 3) := by decide +kernel
theorem dR_readCall_12 : decode prog_6_method_17_code 12 = .ok (.aload_n 0, 1) := by decide +kernel
theorem dR_readCall_13 : decode prog_6_method_17_code 13 = .ok (.iload_n 2, 1) := by decide +kernel
theorem dR_readCall_14 : decode prog_6_method_17_code 14 = .ok (.invokevirtual 82, 3) := by decide +kernel
theorem dR_readCall_17 : decode prog_6_method_17_code 17 = .ok (.goto 4, 3) := by decide +kernel
theorem dR_readCall_20 : decode prog_6_method_17_code 20 = .ok (.iconst (-1), 1) := by decide +kernel
theorem dR_readCall_21 : decode prog_6_method_17_code 21 = .ok (.istore_n 3, 1) := by decide +kernel
theorem dR_readCall_22 : decode prog_6_method_17_code 22 = .ok (.iload_n 3, 1) := by decide +kernel
theorem dR_readCall_23 : decode prog_6_method_17_code 23 = .ok (.invokestatic 128, 3) := by decide +kernel
theorem dR_readCall_26 : decode prog_6_method_17_code 26 = .ok (.ifCond .ne 5, 3) := by decide +kernel
theorem dR_readCall_29 : decode prog_6_method_17_code 29 = .ok (.iconst (-1), 1) := by decide +kernel
theorem dR_readCall_30 : decode prog_6_method_17_code 30 = .ok (.ireturn, 1) := by decide +kernel
theorem dR_readCall_31 : decode prog_6_method_17_code 31 = .ok (.aload_n 0, 1) := by decide +kernel
theorem dR_readCall_32 : decode prog_6_method_17_code 32 = .ok (.getfield 38, 3) := by decide +kernel
theorem dR_readCall_35 : decode prog_6_method_17_code 35 = .ok (.dup, 1) := by decide +kernel
theorem dR_readCall_36 : decode prog_6_method_17_code 36 = .ok (.getfield 131, 3) := by decide +kernel
theorem dR_readCall_39 : decode prog_6_method_17_code 39 = .ok (.iconst 1, 1) := by decide +kernel
theorem dR_readCall_40 : decode prog_6_method_17_code 40 = .ok (.iload_n 3, 1) := by decide +kernel
theorem dR_readCall_41 : decode prog_6_method_17_code 41 = .ok (.ishl, 1) := by decide +kernel
theorem dR_readCall_42 : decode prog_6_method_17_code 42 = .ok (.ior, 1) := by decide +kernel
theorem dR_readCall_43 : decode prog_6_method_17_code 43 = .ok (.putfield 131, 3) := by decide +kernel
theorem dR_readCall_46 : decode prog_6_method_17_code 46 = .ok (.aload_n 0, 1) := by decide +kernel
theorem dR_readCall_47 : decode prog_6_method_17_code 47 = .ok (.bipush 64, 2) := by decide +kernel
theorem dR_readCall_49 : decode prog_6_method_17_code 49 = .ok (.iload_n 1, 1) := by decide +kernel
theorem dR_readCall_50 : decode prog_6_method_17_code 50 = .ok (.invokevirtual 93, 3) := by decide +kernel
theorem dR_readCall_53 : decode prog_6_method_17_code 53 = .ok (.istore 4, 2) := by decide +kernel
theorem dR_readCall_55 : decode prog_6_method_17_code 55 = .ok (.aload_n 0, 1) := by decide +kernel
theorem dR_readCall_56 : decode prog_6_method_17_code 56 = .ok (.getfield 38, 3) := by decide +kernel
theorem dR_readCall_59 : decode prog_6_method_17_code 59 = .ok (.iload 4, 2) := by decide +kernel
theorem dR_readCall_61 : decode prog_6_method_17_code 61 = .ok (.iload_n 3, 1) := by decide +kernel
theorem dR_readCall_62 : decode prog_6_method_17_code 62 = .ok (.iconst (-1), 1) := by decide +kernel
theorem dR_readCall_63 : decode prog_6_method_17_code 63 = .ok (.invokevirtual 125, 3) := by decide +kernel
theorem dR_readCall_66 : decode prog_6_method_17_code 66 = .ok (.ireturn, 1) := by decide +kernel
def fR_readCall_21 (rc : Int32 → lc_S → Option (Int32 × lc_S)) (x1 : Int32) (t0 : Int32) (z : lc_S) : Option ((Int32) × lc_S) :=
  lc_bnd (fA_isProcedureNumber t0 z) (fun r23 z23 => if r23 = 0 then (some ((-1), z23)) else (lc_bnr (lcR z23 4 3) (fun q32 => lc_chk (lc_sh q32 = (0, 1, 0)) (lc_bnd (fR_readOne rc 64 x1 (lcUI z23 q32 1 ((lcI z23 q32 1) ||| (1 <<< (t0 &&& 31))))) (fun r50 z50 => lc_bnr (lcR z50 4 3) (fun q56 => lc_chk (lc_sh q56 = (0, 1, 0)) (lc_bnd (fP_annotate q56 r50 t0 (-1) z50) (fun r63 z63 => some (r63, z63)))))))))
def fR_readCall (rc : Int32 → lc_S → Option (Int32 × lc_S)) (a1 : Int32) (z : lc_S) : Option ((Int32) × lc_S) :=
  lc_bnd (fR_nextSign z) (fun r1 z1 => lc_bnd (fR_isDigit r1 z1) (fun r6 z6 => if r6 = 0 then (fR_readCall_21 rc a1 (-1) z6) else (lc_bnd (fR_readNumber r1 z6) (fun r14 z14 => fR_readCall_21 rc a1 r14 z14))))
set_option maxHeartbeats 4000000 in
set_option maxRecDepth 100000 in
theorem bR_readCall_21 {p : Program} {l : Launch} {e : Env} {s : State} {m : MethodId} {args : Array Value} {below : List Frame} {meth : Method} {c : Code} {G : lc_G} {rc : Int32 → lc_S → Option (Int32 × lc_S)} {h : Nat} (hx : p.tables.exec = Jvm.exec) (hb : c.code = prog_6_method_17_code) (hml : c.maxLocals = 5) (hr : meth.sig.returnType = (some .int)) (hlocks : meth.locks = false) (hown : s.vm.findClass "LinearCells$Reader" = some m.cls) (hts : ∀ w ∈ lc_ALL, w.before args s = true) (hE : lc_E G s) (hrc : ∀ {d : Int32} {r : Int32} {z z' : lc_S}, rc d z = some (r, z') → lc_M l G yR_readExpression wR_readExpression h [.ref (lc_ad G 4), .int d] z (some (.int r)) z') {r : Int32} {z' : lc_S} : ∀ {x1 : Int32} {t0 : Int32} {z : lc_S} {H : Heap} {locs : List Loc} {ls : Array Slot}, fR_readCall_21 rc x1 t0 z = some (r, z') → lv_has ls 5 [(0, .ref (lc_ad G 4)), (1, .int x1)] → lc_H G z s.heap H locs → W p l e (lc_rm (h + 2)) s m args below meth c H locs 0 0 (MQ below (lc_Q G (some (.int r)) z') args s 0 0 (lc_A G)) (F0 m 21 ls [.int t0]) := by
  intro x1 t0 z H locs ls hf hl hH
  rw [fR_readCall_21] at hf
  refine lv_istore_n hx hb dR_readCall_21 rfl hl (by decide) rfl (fun ls hl => ?_)
  replace hl : lv_has ls 5 [(3, .int t0), (0, .ref (lc_ad G 4)), (1, .int x1)] := hl
  refine lv_iload_n hx hb dR_readCall_22 rfl (lv_at hl 0 rfl) ?_
  obtain ⟨r23, z23, h23, hf⟩ := lc_bnd_some hf
  refine lc_calli (va_runSN (As := [.int t0]) (rest := []) ⟨hx, hb, hml, hown, hts⟩ (cA_isProcedureNumber l G h23) (lc_cwN hts hE knR_128 (lc_room (by omega) (by decide))) (lc_preS hE hH _) rfl rfl hl.1 rfl (lv_room (Nat.le_of_ble_eq_true rfl)) dR_readCall_23 ⟨Nat.zero_le _, Nat.zero_le _⟩) hH (fun H locs hH => ?_)
  refine lv_if_ne (tgt := 31) hx hb dR_readCall_26 (by decide) (fun hc => ?_) (fun hc => ?_)
  · replace hf := lc_ite_neg hc hf
    refine lv_aload_n hx hb dR_readCall_31 rfl (lv_at hl 1 rfl) ?_
    obtain ⟨q32, hq32, hf⟩ := lc_bnr_some hf
    refine lc_getr hx hb hts hown hE hH flR_38 lc_h4 rfl hq32 dR_readCall_32 ?_
    refine lv_dup hx hb dR_readCall_35 rfl ?_
    obtain ⟨hs36_0, hf⟩ := lc_chk_some hf
    refine lc_geti hx hb hts hown hE hH flR_131 hs36_0 rfl dR_readCall_36 ?_
    refine lv_iconst (v := 1) hx hb dR_readCall_39 (by decide) ?_
    refine lv_iload_n hx hb dR_readCall_40 rfl (lv_at hl 0 rfl) ?_
    refine lv_ishl hx hb dR_readCall_41 ?_
    refine lv_ior hx hb dR_readCall_42 ?_
    refine lc_puti hx hb hts hown hE hH fpR_131 hs36_0 rfl rfl rfl dR_readCall_43 (fun H locs hH => ?_)
    refine lv_aload_n hx hb dR_readCall_46 rfl (lv_at hl 1 rfl) ?_
    refine lv_bipush (v := 64) hx hb dR_readCall_47 (by decide) ?_
    refine lv_iload_n hx hb dR_readCall_49 rfl (lv_at hl 2 rfl) ?_
    obtain ⟨r50, z50, h50, hf⟩ := lc_bnd_some hf
    refine lc_calli (va_runV (As := [.int 64, .int x1]) (rest := []) ⟨hx, hb, hml, hown, hts⟩ (cR_readOne hrc h50) (lc_cwV hts kvR_93 (lc_room (by omega) (by decide))) (lc_preV hE hH lc_h4 rfl _) rfl rfl hl.1 rfl (lv_room (Nat.le_of_ble_eq_true rfl)) dR_readCall_50 ⟨Nat.zero_le _, Nat.zero_le _⟩) hH (fun H locs hH => ?_)
    refine lv_istore hx hb dR_readCall_53 hl (by decide) rfl (fun ls hl => ?_)
    replace hl : lv_has ls 5 [(4, .int r50), (3, .int t0), (0, .ref (lc_ad G 4)), (1, .int x1)] := hl
    refine lv_aload_n hx hb dR_readCall_55 rfl (lv_at hl 2 rfl) ?_
    obtain ⟨q56, hq56, hf⟩ := lc_bnr_some hf
    refine lc_getr hx hb hts hown hE hH flR_38 lc_h4 rfl hq56 dR_readCall_56 ?_
    refine lv_iload hx hb dR_readCall_59 (lv_at hl 0 rfl) ?_
    refine lv_iload_n hx hb dR_readCall_61 rfl (lv_at hl 1 rfl) ?_
    refine lv_iconst (v := (-1)) hx hb dR_readCall_62 (by decide) ?_
    obtain ⟨hs63_0, hf⟩ := lc_chk_some hf
    obtain ⟨r63, z63, h63, hf⟩ := lc_bnd_some hf
    refine lc_calli (va_runV (As := [.int r50, .int t0, .int (-1)]) (rest := []) ⟨hx, hb, hml, hown, hts⟩ (cP_annotate l G h63) (lc_cwV hts kvR_125 (lc_room (by omega) (by decide))) (lc_preV hE hH hs63_0 rfl _) rfl rfl hl.1 rfl (lv_room (Nat.le_of_ble_eq_true rfl)) dR_readCall_63 ⟨Nat.zero_le _, Nat.zero_le _⟩) hH (fun H locs hH => ?_)
    exact lc_iret hx hb hr hlocks hH hf dR_readCall_66
  · replace hf := lc_ite_pos hc hf
    refine lv_iconst (v := (-1)) hx hb dR_readCall_29 (by decide) ?_
    exact lc_iret hx hb hr hlocks hH hf dR_readCall_30
set_option maxHeartbeats 4000000 in
set_option maxRecDepth 100000 in
theorem cR_readCall {l : Launch} {G : lc_G} {rc : Int32 → lc_S → Option (Int32 × lc_S)} {h : Nat} (hrc : ∀ {d : Int32} {r : Int32} {z z' : lc_S}, rc d z = some (r, z') → lc_M l G yR_readExpression wR_readExpression h [.ref (lc_ad G 4), .int d] z (some (.int r)) z') {a1 : Int32} {r : Int32} {z z' : lc_S} (hf : fR_readCall rc a1 z = some (r, z')) : lc_M l G yR_readCall wR_readCall (h + 2) [.ref (lc_ad G 4), .int a1] z (some (.int r)) z' := by
  refine lc_M_of (cc := prog_6_method_17_code) (maxL := 5) (ret := (some .int)) (own := "LinearCells$Reader") (by decide) rfl (fun w h => List.mem_cons_of_mem _ h) (Nat.le_of_ble_eq_true rfl) rfl ?_
  intro p e s m below meth c hx hb hml hr hlocks hown hts hE ls hl hH
  replace hl : lv_has ls 5 [(0, .ref (lc_ad G 4)), (1, .int a1)] := hl
  rw [fR_readCall] at hf
  refine lv_aload_n hx hb dR_readCall_0 rfl (lv_at hl 0 rfl) ?_
  obtain ⟨r1, z1, h1, hf⟩ := lc_bnd_some hf
  refine lc_calli (va_runV (As := []) (rest := []) ⟨hx, hb, hml, hown, hts⟩ (cR_nextSign l G h1) (lc_cwV hts kvR_48 (lc_room (by omega) (by decide))) (lc_preV hE hH lc_h4 rfl _) rfl rfl hl.1 rfl (lv_room (Nat.le_of_ble_eq_true rfl)) dR_readCall_1 ⟨Nat.zero_le _, Nat.zero_le _⟩) hH (fun H locs hH => ?_)
  refine lv_istore_n hx hb dR_readCall_4 rfl hl (by decide) rfl (fun ls hl => ?_)
  replace hl : lv_has ls 5 [(2, .int r1), (0, .ref (lc_ad G 4)), (1, .int a1)] := hl
  refine lv_iload_n hx hb dR_readCall_5 rfl (lv_at hl 0 rfl) ?_
  obtain ⟨r6, z6, h6, hf⟩ := lc_bnd_some hf
  refine lc_calli (va_runS (As := [.int r1]) (rest := []) ⟨hx, hb, hml, hown, hts⟩ (cR_isDigit l G h6) (lc_cwS hts ksR_79 (lc_room (by omega) (by decide))) (lc_preS hE hH _) rfl rfl hl.1 rfl (lv_room (Nat.le_of_ble_eq_true rfl)) dR_readCall_6 ⟨Nat.zero_le _, Nat.zero_le _⟩) hH (fun H locs hH => ?_)
  refine lv_if_eq (tgt := 20) hx hb dR_readCall_9 (by decide) (fun hc => ?_) (fun hc => ?_)
  · replace hf := lc_ite_pos hc hf
    refine lv_iconst (v := (-1)) hx hb dR_readCall_20 (by decide) ?_
    exact bR_readCall_21 hx hb hml hr hlocks hown hts hE hrc hf (lv_sub hl [1, 2] rfl) hH
  · replace hf := lc_ite_neg hc hf
    refine lv_aload_n hx hb dR_readCall_12 rfl (lv_at hl 1 rfl) ?_
    refine lv_iload_n hx hb dR_readCall_13 rfl (lv_at hl 0 rfl) ?_
    obtain ⟨r14, z14, h14, hf⟩ := lc_bnd_some hf
    refine lc_calli (va_runV (As := [.int r1]) (rest := []) ⟨hx, hb, hml, hown, hts⟩ (cR_readNumber l G h14) (lc_cwV hts kvR_82 (lc_room (by omega) (by decide))) (lc_preV hE hH lc_h4 rfl _) rfl rfl hl.1 rfl (lv_room (Nat.le_of_ble_eq_true rfl)) dR_readCall_14 ⟨Nat.zero_le _, Nat.zero_le _⟩) hH (fun H locs hH => ?_)
    refine lv_goto (tgt := 21) hx hb dR_readCall_17 (by decide) ?_
    exact bR_readCall_21 hx hb hml hr hlocks hown hts hE hrc hf (lv_sub hl [1, 2] rfl) hH
theorem dR_readForm_0 : decode prog_6_method_10_code 0 = .ok (.iload_n 1, 1) := by decide +kernel
theorem dR_readForm_1 : decode prog_6_method_10_code 1 = .ok (.lookupswitch 154 #[(42, 122), (43, 122), (44, 122), (45, 122), (47, 142), (58, 136), (60, 122), (63, 129), (64, 148), (100, 115), (103, 115), (110, 115), (112, 122)], 115) := by decide +kernel
theorem dR_readForm_116 : decode prog_6_method_10_code 116 = .ok (.aload_n 0, 1) := by decide +kernel
theorem dR_readForm_117 : decode prog_6_method_10_code 117 = .ok (.iload_n 1, 1) := by decide +kernel
theorem dR_readForm_118 : decode prog_6_method_10_code 118 = .ok (.iload_n 2, 1) := by decide +kernel
theorem dR_readForm_119 : decode prog_6_method_10_code 119 = .ok (.invokevirtual 93, 3) := by decide +kernel
theorem dR_readForm_122 : decode prog_6_method_10_code 122 = .ok (.ireturn, 1) := by decide +kernel
theorem dR_readForm_123 : decode prog_6_method_10_code 123 = .ok (.aload_n 0, 1) := by decide +kernel
theorem dR_readForm_124 : decode prog_6_method_10_code 124 = .ok (.iload_n 1, 1) := by decide +kernel
theorem dR_readForm_125 : decode prog_6_method_10_code 125 = .ok (.iload_n 2, 1) := by decide +kernel
theorem dR_readForm_126 : decode prog_6_method_10_code 126 = .ok (.invokevirtual 96, 3) := by decide +kernel
theorem dR_readForm_129 : decode prog_6_method_10_code 129 = .ok (.ireturn, 1) := by decide +kernel
theorem dR_readForm_130 : decode prog_6_method_10_code 130 = .ok (.aload_n 0, 1) := by decide +kernel
theorem dR_readForm_131 : decode prog_6_method_10_code 131 = .ok (.iload_n 1, 1) := by decide +kernel
theorem dR_readForm_132 : decode prog_6_method_10_code 132 = .ok (.iload_n 2, 1) := by decide +kernel
theorem dR_readForm_133 : decode prog_6_method_10_code 133 = .ok (.invokevirtual 99, 3) := by decide +kernel
theorem dR_readForm_136 : decode prog_6_method_10_code 136 = .ok (.ireturn, 1) := by decide +kernel
theorem dR_readForm_137 : decode prog_6_method_10_code 137 = .ok (.aload_n 0, 1) := by decide +kernel
theorem dR_readForm_138 : decode prog_6_method_10_code 138 = .ok (.iload_n 2, 1) := by decide +kernel
theorem dR_readForm_139 : decode prog_6_method_10_code 139 = .ok (.invokevirtual 102, 3) := by decide +kernel
theorem dR_readForm_142 : decode prog_6_method_10_code 142 = .ok (.ireturn, 1) := by decide +kernel
theorem dR_readForm_143 : decode prog_6_method_10_code 143 = .ok (.aload_n 0, 1) := by decide +kernel
theorem dR_readForm_144 : decode prog_6_method_10_code 144 = .ok (.iload_n 2, 1) := by decide +kernel
theorem dR_readForm_145 : decode prog_6_method_10_code 145 = .ok (.invokevirtual 105, 3) := by decide +kernel
theorem dR_readForm_148 : decode prog_6_method_10_code 148 = .ok (.ireturn, 1) := by decide +kernel
theorem dR_readForm_149 : decode prog_6_method_10_code 149 = .ok (.aload_n 0, 1) := by decide +kernel
theorem dR_readForm_150 : decode prog_6_method_10_code 150 = .ok (.iload_n 2, 1) := by decide +kernel
theorem dR_readForm_151 : decode prog_6_method_10_code 151 = .ok (.invokevirtual 108, 3) := by decide +kernel
theorem dR_readForm_154 : decode prog_6_method_10_code 154 = .ok (.ireturn, 1) := by decide +kernel
theorem dR_readForm_155 : decode prog_6_method_10_code 155 = .ok (.iconst (-1), 1) := by decide +kernel
theorem dR_readForm_156 : decode prog_6_method_10_code 156 = .ok (.ireturn, 1) := by decide +kernel
def fR_readForm_123 (rc : Int32 → lc_S → Option (Int32 × lc_S)) (x1 : Int32) (x2 : Int32) (z : lc_S) : Option ((Int32) × lc_S) :=
  lc_bnd (fR_readTwo rc x1 x2 z) (fun r126 z126 => some (r126, z126))
def fR_readForm_116 (rc : Int32 → lc_S → Option (Int32 × lc_S)) (x1 : Int32) (x2 : Int32) (z : lc_S) : Option ((Int32) × lc_S) :=
  lc_bnd (fR_readOne rc x1 x2 z) (fun r119 z119 => some (r119, z119))
def fR_readForm (rc : Int32 → lc_S → Option (Int32 × lc_S)) (a1 : Int32) (a2 : Int32) (z : lc_S) : Option ((Int32) × lc_S) :=
  if a1 = 42 then (fR_readForm_123 rc a1 a2 z) else (if a1 = 43 then (fR_readForm_123 rc a1 a2 z) else (if a1 = 44 then (fR_readForm_123 rc a1 a2 z) else (if a1 = 45 then (fR_readForm_123 rc a1 a2 z) else (if a1 = 47 then (lc_bnd (fR_readSplit rc a2 z) (fun r145 z145 => some (r145, z145))) else (if a1 = 58 then (lc_bnd (fR_readLet rc a2 z) (fun r139 z139 => some (r139, z139))) else (if a1 = 60 then (fR_readForm_123 rc a1 a2 z) else (if a1 = 63 then (lc_bnd (fR_readThree rc a1 a2 z) (fun r133 z133 => some (r133, z133))) else (if a1 = 64 then (lc_bnd (fR_readCall rc a2 z) (fun r151 z151 => some (r151, z151))) else (if a1 = 100 then (fR_readForm_116 rc a1 a2 z) else (if a1 = 103 then (fR_readForm_116 rc a1 a2 z) else (if a1 = 110 then (fR_readForm_116 rc a1 a2 z) else (if a1 = 112 then (fR_readForm_123 rc a1 a2 z) else (some ((-1), z))))))))))))))
set_option maxHeartbeats 4000000 in
set_option maxRecDepth 100000 in
theorem bR_readForm_123 {p : Program} {l : Launch} {e : Env} {s : State} {m : MethodId} {args : Array Value} {below : List Frame} {meth : Method} {c : Code} {G : lc_G} {rc : Int32 → lc_S → Option (Int32 × lc_S)} {h : Nat} (hx : p.tables.exec = Jvm.exec) (hb : c.code = prog_6_method_10_code) (hml : c.maxLocals = 3) (hr : meth.sig.returnType = (some .int)) (hlocks : meth.locks = false) (hown : s.vm.findClass "LinearCells$Reader" = some m.cls) (hts : ∀ w ∈ lc_ALL, w.before args s = true) (hE : lc_E G s) (hrc : ∀ {d : Int32} {r : Int32} {z z' : lc_S}, rc d z = some (r, z') → lc_M l G yR_readExpression wR_readExpression h [.ref (lc_ad G 4), .int d] z (some (.int r)) z') {r : Int32} {z' : lc_S} : ∀ {x1 : Int32} {x2 : Int32} {z : lc_S} {H : Heap} {locs : List Loc} {ls : Array Slot}, fR_readForm_123 rc x1 x2 z = some (r, z') → lv_has ls 3 [(0, .ref (lc_ad G 4)), (1, .int x1), (2, .int x2)] → lc_H G z s.heap H locs → W p l e (lc_rm (h + 3)) s m args below meth c H locs 0 0 (MQ below (lc_Q G (some (.int r)) z') args s 0 0 (lc_A G)) (F0 m 123 ls []) := by
  intro x1 x2 z H locs ls hf hl hH
  rw [fR_readForm_123] at hf
  refine lv_aload_n hx hb dR_readForm_123 rfl (lv_at hl 0 rfl) ?_
  refine lv_iload_n hx hb dR_readForm_124 rfl (lv_at hl 1 rfl) ?_
  refine lv_iload_n hx hb dR_readForm_125 rfl (lv_at hl 2 rfl) ?_
  obtain ⟨r126, z126, h126, hf⟩ := lc_bnd_some hf
  refine lc_calli (va_runV (As := [.int x1, .int x2]) (rest := []) ⟨hx, hb, hml, hown, hts⟩ (cR_readTwo hrc h126) (lc_cwV hts kvR_96 (lc_room (by omega) (by decide))) (lc_preV hE hH lc_h4 rfl _) rfl rfl hl.1 rfl (lv_room (Nat.le_of_ble_eq_true rfl)) dR_readForm_126 ⟨Nat.zero_le _, Nat.zero_le _⟩) hH (fun H locs hH => ?_)
  exact lc_iret hx hb hr hlocks hH hf dR_readForm_129
set_option maxHeartbeats 4000000 in
set_option maxRecDepth 100000 in
theorem bR_readForm_116 {p : Program} {l : Launch} {e : Env} {s : State} {m : MethodId} {args : Array Value} {below : List Frame} {meth : Method} {c : Code} {G : lc_G} {rc : Int32 → lc_S → Option (Int32 × lc_S)} {h : Nat} (hx : p.tables.exec = Jvm.exec) (hb : c.code = prog_6_method_10_code) (hml : c.maxLocals = 3) (hr : meth.sig.returnType = (some .int)) (hlocks : meth.locks = false) (hown : s.vm.findClass "LinearCells$Reader" = some m.cls) (hts : ∀ w ∈ lc_ALL, w.before args s = true) (hE : lc_E G s) (hrc : ∀ {d : Int32} {r : Int32} {z z' : lc_S}, rc d z = some (r, z') → lc_M l G yR_readExpression wR_readExpression h [.ref (lc_ad G 4), .int d] z (some (.int r)) z') {r : Int32} {z' : lc_S} : ∀ {x1 : Int32} {x2 : Int32} {z : lc_S} {H : Heap} {locs : List Loc} {ls : Array Slot}, fR_readForm_116 rc x1 x2 z = some (r, z') → lv_has ls 3 [(0, .ref (lc_ad G 4)), (1, .int x1), (2, .int x2)] → lc_H G z s.heap H locs → W p l e (lc_rm (h + 3)) s m args below meth c H locs 0 0 (MQ below (lc_Q G (some (.int r)) z') args s 0 0 (lc_A G)) (F0 m 116 ls []) := by
  intro x1 x2 z H locs ls hf hl hH
  rw [fR_readForm_116] at hf
  refine lv_aload_n hx hb dR_readForm_116 rfl (lv_at hl 0 rfl) ?_
  refine lv_iload_n hx hb dR_readForm_117 rfl (lv_at hl 1 rfl) ?_
  refine lv_iload_n hx hb dR_readForm_118 rfl (lv_at hl 2 rfl) ?_
  obtain ⟨r119, z119, h119, hf⟩ := lc_bnd_some hf
  refine lc_calli (va_runV (As := [.int x1, .int x2]) (rest := []) ⟨hx, hb, hml, hown, hts⟩ (cR_readOne hrc h119) (lc_cwV hts kvR_93 (lc_room (by omega) (by decide))) (lc_preV hE hH lc_h4 rfl _) rfl rfl hl.1 rfl (lv_room (Nat.le_of_ble_eq_true rfl)) dR_readForm_119 ⟨Nat.zero_le _, Nat.zero_le _⟩) hH (fun H locs hH => ?_)
  exact lc_iret hx hb hr hlocks hH hf dR_readForm_122
set_option maxHeartbeats 4000000 in
set_option maxRecDepth 100000 in
theorem cR_readForm {l : Launch} {G : lc_G} {rc : Int32 → lc_S → Option (Int32 × lc_S)} {h : Nat} (hrc : ∀ {d : Int32} {r : Int32} {z z' : lc_S}, rc d z = some (r, z') → lc_M l G yR_readExpression wR_readExpression h [.ref (lc_ad G 4), .int d] z (some (.int r)) z') {a1 : Int32} {a2 : Int32} {r : Int32} {z z' : lc_S} (hf : fR_readForm rc a1 a2 z = some (r, z')) : lc_M l G yR_readForm wR_readForm (h + 3) [.ref (lc_ad G 4), .int a1, .int a2] z (some (.int r)) z' := by
  refine lc_M_of (cc := prog_6_method_10_code) (maxL := 3) (ret := (some .int)) (own := "LinearCells$Reader") (by decide) rfl (fun w h => List.mem_cons_of_mem _ h) (Nat.le_of_ble_eq_true rfl) rfl ?_
  intro p e s m below meth c hx hb hml hr hlocks hown hts hE ls hl hH
  replace hl : lv_has ls 3 [(0, .ref (lc_ad G 4)), (1, .int a1), (2, .int a2)] := hl
  rw [fR_readForm] at hf
  refine lv_iload_n hx hb dR_readForm_0 rfl (lv_at hl 1 rfl) ?_
  by_cases hc42 : a1 = 42
  · replace hf := lc_ite_pos hc42 hf
    refine lv_lookup (tgt := 123) (off := 122) hx hb dR_readForm_1 (by decide) (by rw [hc42] <;> rfl) (by decide) ?_
    exact bR_readForm_123 hx hb hml hr hlocks hown hts hE hrc hf (lv_sub hl [0, 1, 2] rfl) hH
  replace hf := lc_ite_neg hc42 hf
  by_cases hc43 : a1 = 43
  · replace hf := lc_ite_pos hc43 hf
    refine lv_lookup (tgt := 123) (off := 122) hx hb dR_readForm_1 (by decide) (by rw [hc43] <;> rfl) (by decide) ?_
    exact bR_readForm_123 hx hb hml hr hlocks hown hts hE hrc hf (lv_sub hl [0, 1, 2] rfl) hH
  replace hf := lc_ite_neg hc43 hf
  by_cases hc44 : a1 = 44
  · replace hf := lc_ite_pos hc44 hf
    refine lv_lookup (tgt := 123) (off := 122) hx hb dR_readForm_1 (by decide) (by rw [hc44] <;> rfl) (by decide) ?_
    exact bR_readForm_123 hx hb hml hr hlocks hown hts hE hrc hf (lv_sub hl [0, 1, 2] rfl) hH
  replace hf := lc_ite_neg hc44 hf
  by_cases hc45 : a1 = 45
  · replace hf := lc_ite_pos hc45 hf
    refine lv_lookup (tgt := 123) (off := 122) hx hb dR_readForm_1 (by decide) (by rw [hc45] <;> rfl) (by decide) ?_
    exact bR_readForm_123 hx hb hml hr hlocks hown hts hE hrc hf (lv_sub hl [0, 1, 2] rfl) hH
  replace hf := lc_ite_neg hc45 hf
  by_cases hc47 : a1 = 47
  · replace hf := lc_ite_pos hc47 hf
    refine lv_lookup (tgt := 143) (off := 142) hx hb dR_readForm_1 (by decide) (by rw [hc47] <;> rfl) (by decide) ?_
    refine lv_aload_n hx hb dR_readForm_143 rfl (lv_at hl 0 rfl) ?_
    refine lv_iload_n hx hb dR_readForm_144 rfl (lv_at hl 2 rfl) ?_
    obtain ⟨r145, z145, h145, hf⟩ := lc_bnd_some hf
    refine lc_calli (va_runV (As := [.int a2]) (rest := []) ⟨hx, hb, hml, hown, hts⟩ (cR_readSplit hrc h145) (lc_cwV hts kvR_105 (lc_room (by omega) (by decide))) (lc_preV hE hH lc_h4 rfl _) rfl rfl hl.1 rfl (lv_room (Nat.le_of_ble_eq_true rfl)) dR_readForm_145 ⟨Nat.zero_le _, Nat.zero_le _⟩) hH (fun H locs hH => ?_)
    exact lc_iret hx hb hr hlocks hH hf dR_readForm_148
  replace hf := lc_ite_neg hc47 hf
  by_cases hc58 : a1 = 58
  · replace hf := lc_ite_pos hc58 hf
    refine lv_lookup (tgt := 137) (off := 136) hx hb dR_readForm_1 (by decide) (by rw [hc58] <;> rfl) (by decide) ?_
    refine lv_aload_n hx hb dR_readForm_137 rfl (lv_at hl 0 rfl) ?_
    refine lv_iload_n hx hb dR_readForm_138 rfl (lv_at hl 2 rfl) ?_
    obtain ⟨r139, z139, h139, hf⟩ := lc_bnd_some hf
    refine lc_calli (va_runV (As := [.int a2]) (rest := []) ⟨hx, hb, hml, hown, hts⟩ (cR_readLet hrc h139) (lc_cwV hts kvR_102 (lc_room (by omega) (by decide))) (lc_preV hE hH lc_h4 rfl _) rfl rfl hl.1 rfl (lv_room (Nat.le_of_ble_eq_true rfl)) dR_readForm_139 ⟨Nat.zero_le _, Nat.zero_le _⟩) hH (fun H locs hH => ?_)
    exact lc_iret hx hb hr hlocks hH hf dR_readForm_142
  replace hf := lc_ite_neg hc58 hf
  by_cases hc60 : a1 = 60
  · replace hf := lc_ite_pos hc60 hf
    refine lv_lookup (tgt := 123) (off := 122) hx hb dR_readForm_1 (by decide) (by rw [hc60] <;> rfl) (by decide) ?_
    exact bR_readForm_123 hx hb hml hr hlocks hown hts hE hrc hf (lv_sub hl [0, 1, 2] rfl) hH
  replace hf := lc_ite_neg hc60 hf
  by_cases hc63 : a1 = 63
  · replace hf := lc_ite_pos hc63 hf
    refine lv_lookup (tgt := 130) (off := 129) hx hb dR_readForm_1 (by decide) (by rw [hc63] <;> rfl) (by decide) ?_
    refine lv_aload_n hx hb dR_readForm_130 rfl (lv_at hl 0 rfl) ?_
    refine lv_iload_n hx hb dR_readForm_131 rfl (lv_at hl 1 rfl) ?_
    refine lv_iload_n hx hb dR_readForm_132 rfl (lv_at hl 2 rfl) ?_
    obtain ⟨r133, z133, h133, hf⟩ := lc_bnd_some hf
    refine lc_calli (va_runV (As := [.int a1, .int a2]) (rest := []) ⟨hx, hb, hml, hown, hts⟩ (cR_readThree hrc h133) (lc_cwV hts kvR_99 (lc_room (by omega) (by decide))) (lc_preV hE hH lc_h4 rfl _) rfl rfl hl.1 rfl (lv_room (Nat.le_of_ble_eq_true rfl)) dR_readForm_133 ⟨Nat.zero_le _, Nat.zero_le _⟩) hH (fun H locs hH => ?_)
    exact lc_iret hx hb hr hlocks hH hf dR_readForm_136
  replace hf := lc_ite_neg hc63 hf
  by_cases hc64 : a1 = 64
  · replace hf := lc_ite_pos hc64 hf
    refine lv_lookup (tgt := 149) (off := 148) hx hb dR_readForm_1 (by decide) (by rw [hc64] <;> rfl) (by decide) ?_
    refine lv_aload_n hx hb dR_readForm_149 rfl (lv_at hl 0 rfl) ?_
    refine lv_iload_n hx hb dR_readForm_150 rfl (lv_at hl 2 rfl) ?_
    obtain ⟨r151, z151, h151, hf⟩ := lc_bnd_some hf
    refine lc_calli (va_runV (As := [.int a2]) (rest := []) ⟨hx, hb, hml, hown, hts⟩ (cR_readCall hrc h151) (lc_cwV hts kvR_108 (lc_room (by omega) (by decide))) (lc_preV hE hH lc_h4 rfl _) rfl rfl hl.1 rfl (lv_room (Nat.le_of_ble_eq_true rfl)) dR_readForm_151 ⟨Nat.zero_le _, Nat.zero_le _⟩) hH (fun H locs hH => ?_)
    exact lc_iret hx hb hr hlocks hH hf dR_readForm_154
  replace hf := lc_ite_neg hc64 hf
  by_cases hc100 : a1 = 100
  · replace hf := lc_ite_pos hc100 hf
    refine lv_lookup (tgt := 116) (off := 115) hx hb dR_readForm_1 (by decide) (by rw [hc100] <;> rfl) (by decide) ?_
    exact bR_readForm_116 hx hb hml hr hlocks hown hts hE hrc hf (lv_sub hl [0, 1, 2] rfl) hH
  replace hf := lc_ite_neg hc100 hf
  by_cases hc103 : a1 = 103
  · replace hf := lc_ite_pos hc103 hf
    refine lv_lookup (tgt := 116) (off := 115) hx hb dR_readForm_1 (by decide) (by rw [hc103] <;> rfl) (by decide) ?_
    exact bR_readForm_116 hx hb hml hr hlocks hown hts hE hrc hf (lv_sub hl [0, 1, 2] rfl) hH
  replace hf := lc_ite_neg hc103 hf
  by_cases hc110 : a1 = 110
  · replace hf := lc_ite_pos hc110 hf
    refine lv_lookup (tgt := 116) (off := 115) hx hb dR_readForm_1 (by decide) (by rw [hc110] <;> rfl) (by decide) ?_
    exact bR_readForm_116 hx hb hml hr hlocks hown hts hE hrc hf (lv_sub hl [0, 1, 2] rfl) hH
  replace hf := lc_ite_neg hc110 hf
  by_cases hc112 : a1 = 112
  · replace hf := lc_ite_pos hc112 hf
    refine lv_lookup (tgt := 123) (off := 122) hx hb dR_readForm_1 (by decide) (by rw [hc112] <;> rfl) (by decide) ?_
    exact bR_readForm_123 hx hb hml hr hlocks hown hts hE hrc hf (lv_sub hl [0, 1, 2] rfl) hH
  replace hf := lc_ite_neg hc112 hf
  refine lv_lookup (tgt := 155) (off := 154) hx hb dR_readForm_1 (by decide) ((lv_osw hc42 (by decide)).trans ((lv_osw hc43 (by decide)).trans ((lv_osw hc44 (by decide)).trans ((lv_osw hc45 (by decide)).trans ((lv_osw hc47 (by decide)).trans ((lv_osw hc58 (by decide)).trans ((lv_osw hc60 (by decide)).trans ((lv_osw hc63 (by decide)).trans ((lv_osw hc64 (by decide)).trans ((lv_osw hc100 (by decide)).trans ((lv_osw hc103 (by decide)).trans ((lv_osw hc110 (by decide)).trans ((lv_osw hc112 (by decide)).trans rfl))))))))))))) (by decide) ?_
  refine lv_iconst (v := (-1)) hx hb dR_readForm_155 (by decide) ?_
  exact lc_iret hx hb hr hlocks hH hf dR_readForm_156
