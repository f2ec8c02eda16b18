theorem dQ_hasIn_0 : decode prog_10_method_53_code 0 = .ok (.lload_n 1, 1) := by decide +kernel
theorem dQ_hasIn_1 : decode prog_10_method_53_code 1 = .ok (.ldc2_w 332, 3) := by decide +kernel
theorem dQ_hasIn_4 : decode prog_10_method_53_code 4 = .ok (.lcmp, 1) := by decide +kernel
theorem dQ_hasIn_5 : decode prog_10_method_53_code 5 = .ok (.ifCond .lt 17, 3) := by decide +kernel
theorem dQ_hasIn_8 : decode prog_10_method_53_code 8 = .ok (.aload_n 0, 1) := by decide +kernel
theorem dQ_hasIn_9 : decode prog_10_method_53_code 9 = .ok (.getfield 129, 3) := by decide +kernel
theorem dQ_hasIn_12 : decode prog_10_method_53_code 12 = .ok (.lload_n 1, 1) := by decide +kernel
theorem dQ_hasIn_13 : decode prog_10_method_53_code 13 = .ok (.ldc2_w 332, 3) := by decide +kernel
theorem dQ_hasIn_16 : decode prog_10_method_53_code 16 = .ok (.lsub, 1) := by decide +kernel
theorem dQ_hasIn_17 : decode prog_10_method_53_code 17 = .ok (.l2i, 1) := by decide +kernel
theorem dQ_hasIn_18 : decode prog_10_method_53_code 18 = .ok (.baload, 1) := by decide +kernel
theorem dQ_hasIn_19 : decode prog_10_method_53_code 19 = .ok (.goto 7, 3) := by decide +kernel
theorem dQ_hasIn_22 : decode prog_10_method_53_code 22 = .ok (.lload_n 1, 1) := by decide +kernel
theorem dQ_hasIn_23 : decode prog_10_method_53_code 23 = .ok (.invokestatic 328, 3) := by decide +kernel
theorem dQ_hasIn_26 : decode prog_10_method_53_code 26 = .ok (.ireturn, 1) := by decide +kernel
def fQ_hasIn (a1 : Int64) (z : lc_S) : Option ((Int32) × lc_S) :=
  if (lg_cmp a1 8589934592) < 0 then (lc_bnd (fQ_isNumber a1 z) (fun r23 z23 => lc_chk (lc_zok r23) (some (r23, z23)))) else (lc_chk (lc_in ((a1 - 8589934592).toInt32) 340) (lc_chk (lc_zok (lcI z 120 ((a1 - 8589934592).toInt32).toNatClampNeg)) (some (lcI z 120 ((a1 - 8589934592).toInt32).toNatClampNeg, z))))
set_option maxHeartbeats 4000000 in
set_option maxRecDepth 100000 in
theorem cQ_hasIn (l : Launch) (G : lc_G) {a1 : Int64} {r : Int32} {z z' : lc_S} (hf : fQ_hasIn a1 z = some (r, z')) : lc_M l G yQ_hasIn wQ_hasIn 1 [.ref (lc_ad G 80), .long a1] z (some (.int r)) z' := by
  refine lc_M_of (cc := prog_10_method_53_code) (maxL := 3) (ret := (some .boolean)) (own := "LinearCellsModel") (by decide) rfl (fun w h => List.mem_cons_of_mem _ h) (Nat.le_of_ble_eq_true rfl) rfl ?_
  intro p e s m below meth c hx hb hml hr hlocks hown hts hE ls hl hH
  replace hl : lv_has ls 3 [(0, .ref (lc_ad G 80)), (1, .long a1)] := hl
  rw [fQ_hasIn] at hf
  refine lv_lload_n hx hb dQ_hasIn_0 rfl (lv_at hl 1 rfl) ?_
  refine lv_ldc2 hx hb hown (hts _ kcQ_332) dQ_hasIn_1 ?_
  refine W.lcmp hx hb dQ_hasIn_4 ?_
  refine lv_if_lt (tgt := 22) hx hb dQ_hasIn_5 (by decide) (fun hc => ?_) (fun hc => ?_)
  · replace hf := lc_ite_pos hc hf
    refine lv_lload_n hx hb dQ_hasIn_22 rfl (lv_at hl 1 rfl) ?_
    obtain ⟨r23, z23, h23, hf⟩ := lc_bnd_some hf
    refine lc_calli (va_runS (As := [.long a1]) (rest := []) ⟨hx, hb, hml, hown, hts⟩ (cQ_isNumber l G h23) (lc_cwS hts ksQ_328 (lc_room (by decide) (by decide))) (lc_preS hE hH _) rfl rfl hl.1 rfl (lv_room (Nat.le_of_ble_eq_true rfl)) dQ_hasIn_23 ⟨Nat.zero_le _, Nat.zero_le _⟩) hH (fun H locs hH => ?_)
    obtain ⟨hz26, hf⟩ := lc_chk_some hf
    exact lc_zret hx hb hr hlocks (lc_zn hz26) hH hf dQ_hasIn_26
  · replace hf := lc_ite_neg hc hf
    refine lv_aload_n hx hb dQ_hasIn_8 rfl (lv_at hl 0 rfl) ?_
    refine lc_getf (d := 40) (q := 120) hx hb hts hown hE hH flQ_129 lc_h80 rfl rfl dQ_hasIn_9 ?_
    refine lv_lload_n hx hb dQ_hasIn_12 rfl (lv_at hl 1 rfl) ?_
    refine lv_ldc2 hx hb hown (hts _ kcQ_332) dQ_hasIn_13 ?_
    refine lv_lsub hx hb dQ_hasIn_16 ?_
    refine lv_l2i hx hb dQ_hasIn_17 rfl ?_
    obtain ⟨hi18, hf⟩ := lc_chk_some hf
    refine lc_zald hx hb hE hH lc_h120 rfl hi18 dQ_hasIn_18 ?_
    refine lv_goto (tgt := 26) hx hb dQ_hasIn_19 (by decide) ?_
    obtain ⟨hz26, hf⟩ := lc_chk_some hf
    exact lc_zret hx hb hr hlocks (lc_zn hz26) hH hf dQ_hasIn_26
theorem dQ_has_0 : decode prog_10_method_52_code 0 = .ok (.iconst 0, 1) := by decide +kernel
theorem dQ_has_1 : decode prog_10_method_52_code 1 = .ok (.istore_n 3, 1) := by decide +kernel
theorem dQ_has_2 : decode prog_10_method_52_code 2 = .ok (.iload_n 3, 1) := by decide +kernel
theorem dQ_has_3 : decode prog_10_method_52_code 3 = .ok (.aload_n 0, 1) := by decide +kernel
theorem dQ_has_4 : decode prog_10_method_52_code 4 = .ok (.getfield 283, 3) := by decide +kernel
theorem dQ_has_7 : decode prog_10_method_52_code 7 = .ok (.if_icmp .ge 46, 3) := by decide +kernel
theorem dQ_has_10 : decode prog_10_method_52_code 10 = .ok (.aload_n 0, 1) := by decide +kernel
theorem dQ_has_11 : decode prog_10_method_52_code 11 = .ok (.getfield 129, 3) := by decide +kernel
theorem dQ_has_14 : decode prog_10_method_52_code 14 = .ok (.iload_n 3, 1) := by decide +kernel
theorem dQ_has_15 : decode prog_10_method_52_code 15 = .ok (.aload_n 0, 1) := by decide +kernel
theorem dQ_has_16 : decode prog_10_method_52_code 16 = .ok (.aload_n 0, 1) := by decide +kernel
theorem dQ_has_17 : decode prog_10_method_52_code 17 = .ok (.getfield 120, 3) := by decide +kernel
theorem dQ_has_20 : decode prog_10_method_52_code 20 = .ok (.iload_n 3, 1) := by decide +kernel
theorem dQ_has_21 : decode prog_10_method_52_code 21 = .ok (.laload, 1) := by decide +kernel
theorem dQ_has_22 : decode prog_10_method_52_code 22 = .ok (.invokevirtual 354, 3) := by decide +kernel
theorem dQ_has_25 : decode prog_10_method_52_code 25 = .ok (.ifCond .ne 16, 3) := by decide +kernel
theorem dQ_has_28 : decode prog_10_method_52_code 28 = .ok (.aload_n 0, 1) := by decide +kernel
theorem dQ_has_29 : decode prog_10_method_52_code 29 = .ok (.aload_n 0, 1) := by decide +kernel
theorem dQ_has_30 : decode prog_10_method_52_code 30 = .ok (.getfield 123, 3) := by decide +kernel
theorem dQ_has_33 : decode prog_10_method_52_code 33 = .ok (.iload_n 3, 1) := by decide +kernel
theorem dQ_has_34 : decode prog_10_method_52_code 34 = .ok (.laload, 1) := by decide +kernel
theorem dQ_has_35 : decode prog_10_method_52_code 35 = .ok (.invokevirtual 354, 3) := by decide +kernel
theorem dQ_has_38 : decode prog_10_method_52_code 38 = .ok (.ifCond .eq 7, 3) := by decide +kernel
theorem dQ_has_41 : decode prog_10_method_52_code 41 = .ok (.iconst 1, 1) := by decide +kernel
theorem dQ_has_42 : decode prog_10_method_52_code 42 = .ok (.goto 4, 3) := by decide +kernel
theorem dQ_has_45 : decode prog_10_method_52_code 45 = .ok (.iconst 0, 1) := by decide +kernel
theorem dQ_has_46 : decode prog_10_method_52_code 46 = .ok (.bastore, 1) := by decide +kernel
theorem dQ_has_47 : decode prog_10_method_52_code 47 = .ok (.iinc 3 1, 3) := by decide +kernel
theorem dQ_has_50 : decode prog_10_method_52_code 50 = .ok (.goto (-48), 3) := by decide +kernel
theorem dQ_has_53 : decode prog_10_method_52_code 53 = .ok (.aload_n 0, 1) := by decide +kernel
theorem dQ_has_54 : decode prog_10_method_52_code 54 = .ok (.lload_n 1, 1) := by decide +kernel
theorem dQ_has_55 : decode prog_10_method_52_code 55 = .ok (.invokevirtual 354, 3) := by decide +kernel
theorem dQ_has_58 : decode prog_10_method_52_code 58 = .ok (.ireturn, 1) := by decide +kernel
def fQ_has_46 (k2 : Int64 → Int32 → lc_S → Option ((Int32) × lc_S)) (x1 : Int64) (x3 : Int32) (t1 : Int32) (t2 : Int32) (z : lc_S) : Option ((Int32) × lc_S) :=
  lc_chk (lc_in t1 340) (lc_chk (vp_nar .boolean t2 = t2) (lc_let (x3 + 1) (fun x47 => k2 x1 x47 (lcUI z 120 t1.toNatClampNeg t2))))
def fQ_has_41 (k2 : Int64 → Int32 → lc_S → Option ((Int32) × lc_S)) (x1 : Int64) (x3 : Int32) (t1 : Int32) (z : lc_S) : Option ((Int32) × lc_S) :=
  fQ_has_46 k2 x1 x3 t1 1 z
def fQ_has_2 : Nat → Int64 → Int32 → lc_S → Option ((Int32) × lc_S)
  | 0, _, _, _ => none
  | n + 1, x1, x3, z => if (lcI z 80 53) ≤ x3 then (lc_bnd (fQ_hasIn x1 z) (fun r55 z55 => lc_chk (lc_zok r55) (some (r55, z55)))) else (lc_chk (lc_in x3 120) (lc_bnd (fQ_hasIn (lcL z 117 x3.toNatClampNeg) z) (fun r22 z22 => if r22 = 0 then (lc_chk (lc_in x3 120) (lc_bnd (fQ_hasIn (lcL z22 118 x3.toNatClampNeg) z22) (fun r35 z35 => if r35 = 0 then (fQ_has_46 (fQ_has_2 n) x1 x3 x3 0 z35) else (fQ_has_41 (fQ_has_2 n) x1 x3 x3 z35)))) else (fQ_has_41 (fQ_has_2 n) x1 x3 x3 z22))))
def fQ_has (a1 : Int64) (z : lc_S) : Option ((Int32) × lc_S) :=
  fQ_has_2 lc_FU a1 0 z
set_option maxHeartbeats 4000000 in
set_option maxRecDepth 100000 in
theorem bQ_has_46 {p : Program} {l : Launch} {e : Env} {s : State} {m : MethodId} {args : Array Value} {below : List Frame} {meth : Method} {c : Code} {G : lc_G} (hx : p.tables.exec = Jvm.exec) (hb : c.code = prog_10_method_52_code) (hml : c.maxLocals = 4) (hr : meth.sig.returnType = (some .boolean)) (hlocks : meth.locks = false) (hown : s.vm.findClass "LinearCellsModel" = some m.cls) (hts : ∀ w ∈ lc_ALL, w.before args s = true) (hE : lc_E G s) {k2 : Int64 → Int32 → lc_S → Option ((Int32) × lc_S)} {r : Int32} {z' : lc_S} (hk2 : ∀ {x1 : Int64} {x3 : Int32} {z : lc_S} {H : Heap} {locs : List Loc} {ls : Array Slot}, k2 x1 x3 z = some (r, z') → lv_has ls 4 [(0, .ref (lc_ad G 80)), (1, .long x1), (3, .int x3)] → lc_H G z s.heap H locs → W p l e (lc_rm 2) s m args below meth c H locs 0 0 (MQ below (lc_Q G (some (.int r)) z') args s 0 0 (lc_A G)) (F0 m 2 ls [])) : ∀ {x1 : Int64} {x3 : Int32} {t1 : Int32} {t2 : Int32} {z : lc_S} {H : Heap} {locs : List Loc} {ls : Array Slot}, fQ_has_46 k2 x1 x3 t1 t2 z = some (r, z') → lv_has ls 4 [(0, .ref (lc_ad G 80)), (1, .long x1), (3, .int x3)] → lc_H G z s.heap H locs → W p l e (lc_rm 2) s m args below meth c H locs 0 0 (MQ below (lc_Q G (some (.int r)) z') args s 0 0 (lc_A G)) (F0 m 46 ls [.int t2, .int t1, .ref (lc_ad G 120)]) := by
  intro x1 x3 t1 t2 z H locs ls hf hl hH
  rw [fQ_has_46] at hf
  obtain ⟨hi46, hf⟩ := lc_chk_some hf
  obtain ⟨hn46, hf⟩ := lc_chk_some hf
  refine lc_zast hx hb hE hH lc_h120 rfl hi46 hn46 dQ_has_46 (fun H locs hH => ?_)
  obtain ⟨x47, e47⟩ : ∃ x : Int32, x = x3 + 1 := ⟨_, rfl⟩
  replace hf := lc_let_of e47 hf
  refine lv_iinc (k := 2) (v := x47) hx hb dQ_has_47 hl rfl ((lc_incv _ (by decide)).trans e47.symm) (by decide) rfl (fun ls hl => ?_)
  replace hl : lv_has ls 4 [(3, .int x47), (0, .ref (lc_ad G 80)), (1, .long x1)] := hl
  refine lv_goto (tgt := 2) hx hb dQ_has_50 (by decide) ?_
  exact hk2 hf (lv_sub hl [1, 2, 0] rfl) hH
set_option maxHeartbeats 4000000 in
set_option maxRecDepth 100000 in
theorem bQ_has_41 {p : Program} {l : Launch} {e : Env} {s : State} {m : MethodId} {args : Array Value} {below : List Frame} {meth : Method} {c : Code} {G : lc_G} (hx : p.tables.exec = Jvm.exec) (hb : c.code = prog_10_method_52_code) (hml : c.maxLocals = 4) (hr : meth.sig.returnType = (some .boolean)) (hlocks : meth.locks = false) (hown : s.vm.findClass "LinearCellsModel" = some m.cls) (hts : ∀ w ∈ lc_ALL, w.before args s = true) (hE : lc_E G s) {k2 : Int64 → Int32 → lc_S → Option ((Int32) × lc_S)} {r : Int32} {z' : lc_S} (hk2 : ∀ {x1 : Int64} {x3 : Int32} {z : lc_S} {H : Heap} {locs : List Loc} {ls : Array Slot}, k2 x1 x3 z = some (r, z') → lv_has ls 4 [(0, .ref (lc_ad G 80)), (1, .long x1), (3, .int x3)] → lc_H G z s.heap H locs → W p l e (lc_rm 2) s m args below meth c H locs 0 0 (MQ below (lc_Q G (some (.int r)) z') args s 0 0 (lc_A G)) (F0 m 2 ls [])) : ∀ {x1 : Int64} {x3 : Int32} {t1 : Int32} {z : lc_S} {H : Heap} {locs : List Loc} {ls : Array Slot}, fQ_has_41 k2 x1 x3 t1 z = some (r, z') → lv_has ls 4 [(0, .ref (lc_ad G 80)), (1, .long x1), (3, .int x3)] → lc_H G z s.heap H locs → W p l e (lc_rm 2) s m args below meth c H locs 0 0 (MQ below (lc_Q G (some (.int r)) z') args s 0 0 (lc_A G)) (F0 m 41 ls [.int t1, .ref (lc_ad G 120)]) := by
  intro x1 x3 t1 z H locs ls hf hl hH
  rw [fQ_has_41] at hf
  refine lv_iconst (v := 1) hx hb dQ_has_41 (by decide) ?_
  refine lv_goto (tgt := 46) hx hb dQ_has_42 (by decide) ?_
  exact bQ_has_46 hx hb hml hr hlocks hown hts hE (fun hf hl hH => hk2 hf hl hH) hf (lv_sub hl [0, 1, 2] rfl) hH
set_option maxHeartbeats 4000000 in
set_option maxRecDepth 100000 in
theorem bQ_has_2 {p : Program} {l : Launch} {e : Env} {s : State} {m : MethodId} {args : Array Value} {below : List Frame} {meth : Method} {c : Code} {G : lc_G} (hx : p.tables.exec = Jvm.exec) (hb : c.code = prog_10_method_52_code) (hml : c.maxLocals = 4) (hr : meth.sig.returnType = (some .boolean)) (hlocks : meth.locks = false) (hown : s.vm.findClass "LinearCellsModel" = some m.cls) (hts : ∀ w ∈ lc_ALL, w.before args s = true) (hE : lc_E G s) {r : Int32} {z' : lc_S} : ∀ (n : Nat) {x1 : Int64} {x3 : Int32} {z : lc_S} {H : Heap} {locs : List Loc} {ls : Array Slot}, fQ_has_2 n x1 x3 z = some (r, z') → lv_has ls 4 [(0, .ref (lc_ad G 80)), (1, .long x1), (3, .int x3)] → lc_H G z s.heap H locs → W p l e (lc_rm 2) s m args below meth c H locs 0 0 (MQ below (lc_Q G (some (.int r)) z') args s 0 0 (lc_A G)) (F0 m 2 ls []) := by
  intro n
  induction n with
  | zero =>
    intro x1 x3 z H locs ls hf hl hH
    exact absurd (show (none : Option ((Int32) × lc_S)) = some (r, z') from hf) (fun h => by cases h)
  | succ n ih =>
    intro x1 x3 z H locs ls hf hl hH
    rw [fQ_has_2] at hf
    refine lv_iload_n hx hb dQ_has_2 rfl (lv_at hl 2 rfl) ?_
    refine lv_aload_n hx hb dQ_has_3 rfl (lv_at hl 0 rfl) ?_
    refine lc_geti hx hb hts hown hE hH flQ_283 lc_h80 rfl dQ_has_4 ?_
    refine lv_icmp_ge (tgt := 53) hx hb dQ_has_7 (by decide) (fun hc => ?_) (fun hc => ?_)
    · replace hf := lc_ite_pos hc hf
      refine lv_aload_n hx hb dQ_has_53 rfl (lv_at hl 0 rfl) ?_
      refine lv_lload_n hx hb dQ_has_54 rfl (lv_at hl 1 rfl) ?_
      obtain ⟨r55, z55, h55, hf⟩ := lc_bnd_some hf
      refine lc_calli (va_runV (As := [.long x1]) (rest := []) ⟨hx, hb, hml, hown, hts⟩ (cQ_hasIn l G h55) (lc_cwV hts kvQ_354 (lc_room (by decide) (by decide))) (lc_preV hE hH lc_h80 rfl _) rfl rfl hl.1 rfl (lv_room (Nat.le_of_ble_eq_true rfl)) dQ_has_55 ⟨Nat.zero_le _, Nat.zero_le _⟩) hH (fun H locs hH => ?_)
      obtain ⟨hz58, hf⟩ := lc_chk_some hf
      exact lc_zret hx hb hr hlocks (lc_zn hz58) hH hf dQ_has_58
    · replace hf := lc_ite_neg hc hf
      refine lv_aload_n hx hb dQ_has_10 rfl (lv_at hl 0 rfl) ?_
      refine lc_getf (d := 40) (q := 120) hx hb hts hown hE hH flQ_129 lc_h80 rfl rfl dQ_has_11 ?_
      refine lv_iload_n hx hb dQ_has_14 rfl (lv_at hl 2 rfl) ?_
      refine lv_aload_n hx hb dQ_has_15 rfl (lv_at hl 0 rfl) ?_
      refine lv_aload_n hx hb dQ_has_16 rfl (lv_at hl 0 rfl) ?_
      refine lc_getf (d := 37) (q := 117) hx hb hts hown hE hH flQ_120 lc_h80 rfl rfl dQ_has_17 ?_
      refine lv_iload_n hx hb dQ_has_20 rfl (lv_at hl 2 rfl) ?_
      obtain ⟨hi21, hf⟩ := lc_chk_some hf
      refine lc_lald hx hb hE hH lc_h117 rfl hi21 dQ_has_21 ?_
      obtain ⟨r22, z22, h22, hf⟩ := lc_bnd_some hf
      refine lc_calli (va_runV (As := [.long (lcL z 117 x3.toNatClampNeg)]) (rest := [.int x3, .ref (lc_ad G 120)]) ⟨hx, hb, hml, hown, hts⟩ (cQ_hasIn l G h22) (lc_cwV hts kvQ_354 (lc_room (by decide) (by decide))) (lc_preV hE hH lc_h80 rfl _) rfl rfl hl.1 rfl (lv_room (Nat.le_of_ble_eq_true rfl)) dQ_has_22 ⟨Nat.zero_le _, Nat.zero_le _⟩) hH (fun H locs hH => ?_)
      refine lv_if_ne (tgt := 41) hx hb dQ_has_25 (by decide) (fun hc => ?_) (fun hc => ?_)
      · replace hf := lc_ite_neg hc hf
        exact bQ_has_41 hx hb hml hr hlocks hown hts hE (fun hf hl hH => ih hf hl hH) hf (lv_sub hl [0, 1, 2] rfl) hH
      · replace hf := lc_ite_pos hc hf
        refine lv_aload_n hx hb dQ_has_28 rfl (lv_at hl 0 rfl) ?_
        refine lv_aload_n hx hb dQ_has_29 rfl (lv_at hl 0 rfl) ?_
        refine lc_getf (d := 38) (q := 118) hx hb hts hown hE hH flQ_123 lc_h80 rfl rfl dQ_has_30 ?_
        refine lv_iload_n hx hb dQ_has_33 rfl (lv_at hl 2 rfl) ?_
        obtain ⟨hi34, hf⟩ := lc_chk_some hf
        refine lc_lald hx hb hE hH lc_h118 rfl hi34 dQ_has_34 ?_
        obtain ⟨r35, z35, h35, hf⟩ := lc_bnd_some hf
        refine lc_calli (va_runV (As := [.long (lcL z22 118 x3.toNatClampNeg)]) (rest := [.int x3, .ref (lc_ad G 120)]) ⟨hx, hb, hml, hown, hts⟩ (cQ_hasIn l G h35) (lc_cwV hts kvQ_354 (lc_room (by decide) (by decide))) (lc_preV hE hH lc_h80 rfl _) rfl rfl hl.1 rfl (lv_room (Nat.le_of_ble_eq_true rfl)) dQ_has_35 ⟨Nat.zero_le _, Nat.zero_le _⟩) hH (fun H locs hH => ?_)
        refine lv_if_eq (tgt := 45) hx hb dQ_has_38 (by decide) (fun hc => ?_) (fun hc => ?_)
        · replace hf := lc_ite_pos hc hf
          refine lv_iconst (v := 0) hx hb dQ_has_45 (by decide) ?_
          exact bQ_has_46 hx hb hml hr hlocks hown hts hE (fun hf hl hH => ih hf hl hH) hf (lv_sub hl [0, 1, 2] rfl) hH
        · replace hf := lc_ite_neg hc hf
          exact bQ_has_41 hx hb hml hr hlocks hown hts hE (fun hf hl hH => ih hf hl hH) hf (lv_sub hl [0, 1, 2] rfl) hH
set_option maxHeartbeats 4000000 in
set_option maxRecDepth 100000 in
theorem cQ_has (l : Launch) (G : lc_G) {a1 : Int64} {r : Int32} {z z' : lc_S} (hf : fQ_has a1 z = some (r, z')) : lc_M l G yQ_has wQ_has 2 [.ref (lc_ad G 80), .long a1] z (some (.int r)) z' := by
  refine lc_M_of (cc := prog_10_method_52_code) (maxL := 4) (ret := (some .boolean)) (own := "LinearCellsModel") (by decide) rfl (fun w h => List.mem_cons_of_mem _ h) (Nat.le_of_ble_eq_true rfl) rfl ?_
  intro p e s m below meth c hx hb hml hr hlocks hown hts hE ls hl hH
  replace hl : lv_has ls 4 [(0, .ref (lc_ad G 80)), (1, .long a1)] := hl
  rw [fQ_has] at hf
  refine lv_iconst (v := 0) hx hb dQ_has_0 (by decide) ?_
  refine lv_istore_n hx hb dQ_has_1 rfl hl (by decide) rfl (fun ls hl => ?_)
  replace hl : lv_has ls 4 [(3, .int 0), (0, .ref (lc_ad G 80)), (1, .long a1)] := hl
  exact bQ_has_2 hx hb hml hr hlocks hown hts hE _ hf (lv_sub hl [1, 2, 0] rfl) hH
theorem dQ_firstNumber_0 : decode prog_10_method_51_code 0 = .ok (.aload_n 0, 1) := by decide +kernel
theorem dQ_firstNumber_1 : decode prog_10_method_51_code 1 = .ok (.iconst 0, 1) := by decide +kernel
theorem dQ_firstNumber_2 : decode prog_10_method_51_code 2 = .ok (.invokevirtual 347, 3) := by decide +kernel
theorem dQ_firstNumber_5 : decode prog_10_method_51_code 5 = .ok (.istore_n 1, 1) := by decide +kernel
theorem dQ_firstNumber_6 : decode prog_10_method_51_code 6 = .ok (.aload_n 0, 1) := by decide +kernel
theorem dQ_firstNumber_7 : decode prog_10_method_51_code 7 = .ok (.getfield 301, 3) := by decide +kernel
theorem dQ_firstNumber_10 : decode prog_10_method_51_code 10 = .ok (.lstore_n 2, 1) := by decide +kernel
theorem dQ_firstNumber_11 : decode prog_10_method_51_code 11 = .ok (.iconst 0, 1) := by decide +kernel
theorem dQ_firstNumber_12 : decode prog_10_method_51_code 12 = .ok (.istore 4, 2) := by decide +kernel
theorem dQ_firstNumber_14 : decode prog_10_method_51_code 14 = .ok (.lload_n 2, 1) := by decide +kernel
theorem dQ_firstNumber_15 : decode prog_10_method_51_code 15 = .ok (.ldc2_w 332, 3) := by decide +kernel
theorem dQ_firstNumber_18 : decode prog_10_method_51_code 18 = .ok (.lcmp, 1) := by decide +kernel
theorem dQ_firstNumber_19 : decode prog_10_method_51_code 19 = .ok (.ifCond .lt 81, 3) := by decide +kernel
theorem dQ_firstNumber_22 : decode prog_10_method_51_code 22 = .ok (.iload 4, 2) := by decide +kernel
theorem dQ_firstNumber_24 : decode prog_10_method_51_code 24 = .ok (.ifCond .ne 76, 3) := by decide +kernel
theorem dQ_firstNumber_27 : decode prog_10_method_51_code 27 = .ok (.lload_n 2, 1) := by decide +kernel
theorem dQ_firstNumber_28 : decode prog_10_method_51_code 28 = .ok (.ldc2_w 332, 3) := by decide +kernel
theorem dQ_firstNumber_31 : decode prog_10_method_51_code 31 = .ok (.lsub, 1) := by decide +kernel
theorem dQ_firstNumber_32 : decode prog_10_method_51_code 32 = .ok (.l2i, 1) := by decide +kernel
theorem dQ_firstNumber_33 : decode prog_10_method_51_code 33 = .ok (.istore 5, 2) := by decide +kernel
theorem dQ_firstNumber_35 : decode prog_10_method_51_code 35 = .ok (.aload_n 0, 1) := by decide +kernel
theorem dQ_firstNumber_36 : decode prog_10_method_51_code 36 = .ok (.aload_n 0, 1) := by decide +kernel
theorem dQ_firstNumber_37 : decode prog_10_method_51_code 37 = .ok (.getfield 120, 3) := by decide +kernel
theorem dQ_firstNumber_40 : decode prog_10_method_51_code 40 = .ok (.iload 5, 2) := by decide +kernel
theorem dQ_firstNumber_42 : decode prog_10_method_51_code 42 = .ok (.laload, 1) := by decide +kernel
theorem dQ_firstNumber_43 : decode prog_10_method_51_code 43 = .ok (.invokevirtual 351, 3) := by decide +kernel
theorem dQ_firstNumber_46 : decode prog_10_method_51_code 46 = .ok (.istore 6, 2) := by decide +kernel
theorem dQ_firstNumber_48 : decode prog_10_method_51_code 48 = .ok (.iload 6, 2) := by decide +kernel
theorem dQ_firstNumber_50 : decode prog_10_method_51_code 50 = .ok (.ifCond .ne 21, 3) := by decide +kernel
theorem dQ_firstNumber_53 : decode prog_10_method_51_code 53 = .ok (.aload_n 0, 1) := by decide +kernel
theorem dQ_firstNumber_54 : decode prog_10_method_51_code 54 = .ok (.aload_n 0, 1) := by decide +kernel
theorem dQ_firstNumber_55 : decode prog_10_method_51_code 55 = .ok (.getfield 123, 3) := by decide +kernel
theorem dQ_firstNumber_58 : decode prog_10_method_51_code 58 = .ok (.iload 5, 2) := by decide +kernel
theorem dQ_firstNumber_60 : decode prog_10_method_51_code 60 = .ok (.laload, 1) := by decide +kernel
theorem dQ_firstNumber_61 : decode prog_10_method_51_code 61 = .ok (.invokevirtual 351, 3) := by decide +kernel
theorem dQ_firstNumber_64 : decode prog_10_method_51_code 64 = .ok (.ifCond .ne 7, 3) := by decide +kernel
theorem dQ_firstNumber_67 : decode prog_10_method_51_code 67 = .ok (.iconst 1, 1) := by decide +kernel
theorem dQ_firstNumber_68 : decode prog_10_method_51_code 68 = .ok (.goto 4, 3) := by decide +kernel
theorem dQ_firstNumber_71 : decode prog_10_method_51_code 71 = .ok (.iconst 0, 1) := by decide +kernel
theorem dQ_firstNumber_72 : decode prog_10_method_51_code 72 = .ok (.istore 4, 2) := by decide +kernel
theorem dQ_firstNumber_74 : decode prog_10_method_51_code 74 = .ok (.iload 6, 2) := by decide +kernel
theorem dQ_firstNumber_76 : decode prog_10_method_51_code 76 = .ok (.ifCond .eq 13, 3) := by decide +kernel
theorem dQ_firstNumber_79 : decode prog_10_method_51_code 79 = .ok (.aload_n 0, 1) := by decide +kernel
theorem dQ_firstNumber_80 : decode prog_10_method_51_code 80 = .ok (.getfield 120, 3) := by decide +kernel
theorem dQ_firstNumber_83 : decode prog_10_method_51_code 83 = .ok (.iload 5, 2) := by decide +kernel
theorem dQ_firstNumber_85 : decode prog_10_method_51_code 85 = .ok (.laload, 1) := by decide +kernel
theorem dQ_firstNumber_86 : decode prog_10_method_51_code 86 = .ok (.goto 10, 3) := by decide +kernel
theorem dQ_firstNumber_89 : decode prog_10_method_51_code 89 = .ok (.aload_n 0, 1) := by decide +kernel
theorem dQ_firstNumber_90 : decode prog_10_method_51_code 90 = .ok (.getfield 123, 3) := by decide +kernel
theorem dQ_firstNumber_93 : decode prog_10_method_51_code 93 = .ok (.iload 5, 2) := by decide +kernel
theorem dQ_firstNumber_95 : decode prog_10_method_51_code 95 = .ok (.laload, 1) := by decide +kernel
theorem dQ_firstNumber_96 : decode prog_10_method_51_code 96 = .ok (.lstore_n 2, 1) := by decide +kernel
theorem dQ_firstNumber_97 : decode prog_10_method_51_code 97 = .ok (.goto (-83), 3) := by decide +kernel
theorem dQ_firstNumber_100 : decode prog_10_method_51_code 100 = .ok (.iload 4, 2) := by decide +kernel
theorem dQ_firstNumber_102 : decode prog_10_method_51_code 102 = .ok (.ifCond .ne 10, 3) := by decide +kernel
theorem dQ_firstNumber_105 : decode prog_10_method_51_code 105 = .ok (.lload_n 2, 1) := by decide +kernel
theorem dQ_firstNumber_106 : decode prog_10_method_51_code 106 = .ok (.invokestatic 328, 3) := by decide +kernel
theorem dQ_firstNumber_109 : decode prog_10_method_51_code 109 = .ok (.ifCond .ne 7, 3) := by decide +kernel
theorem dQ_firstNumber_112 : decode prog_10_method_51_code 112 = .ok (.iconst 0, 1) := by decide +kernel
theorem dQ_firstNumber_113 : decode prog_10_method_51_code 113 = .ok (.goto 5, 3) := by decide +kernel
theorem dQ_firstNumber_116 : decode prog_10_method_51_code 116 = .ok (.lload_n 2, 1) := by decide +kernel
theorem dQ_firstNumber_117 : decode prog_10_method_51_code 117 = .ok (.l2i, 1) := by decide +kernel
theorem dQ_firstNumber_118 : decode prog_10_method_51_code 118 = .ok (.ireturn, 1) := by decide +kernel
def fQ_firstNumber_96 (k14 : Int64 → Int32 → lc_S → Option ((Int32) × lc_S)) (x4 : Int32) (t0 : Int64) (z : lc_S) : Option ((Int32) × lc_S) :=
  k14 t0 x4 z
def fQ_firstNumber_72 (k14 : Int64 → Int32 → lc_S → Option ((Int32) × lc_S)) (x5 : Int32) (x6 : Int32) (t0 : Int32) (z : lc_S) : Option ((Int32) × lc_S) :=
  if x6 = 0 then (lc_chk (lc_in x5 120) (fQ_firstNumber_96 k14 t0 (lcL z 118 x5.toNatClampNeg) z)) else (lc_chk (lc_in x5 120) (fQ_firstNumber_96 k14 t0 (lcL z 117 x5.toNatClampNeg) z))
def fQ_firstNumber_71 (k14 : Int64 → Int32 → lc_S → Option ((Int32) × lc_S)) (x5 : Int32) (x6 : Int32) (z : lc_S) : Option ((Int32) × lc_S) :=
  fQ_firstNumber_72 k14 x5 x6 0 z
def fQ_firstNumber_112 (z : lc_S) : Option ((Int32) × lc_S) :=
  some (0, z)
def fQ_firstNumber_100 (x2 : Int64) (x4 : Int32) (z : lc_S) : Option ((Int32) × lc_S) :=
  if x4 = 0 then (lc_bnd (fQ_isNumber x2 z) (fun r106 z106 => if r106 = 0 then (fQ_firstNumber_112 z106) else (some (x2.toInt32, z106)))) else (fQ_firstNumber_112 z)
def fQ_firstNumber_14 : Nat → Int64 → Int32 → lc_S → Option ((Int32) × lc_S)
  | 0, _, _, _ => none
  | n + 1, x2, x4, z => if (lg_cmp x2 8589934592) < 0 then (fQ_firstNumber_100 x2 x4 z) else (if x4 = 0 then (lc_let ((x2 - 8589934592).toInt32) (fun x33 => lc_chk (lc_in x33 120) (lc_bnd (fQ_has (lcL z 117 x33.toNatClampNeg) z) (fun r43 z43 => if r43 = 0 then (lc_chk (lc_in x33 120) (lc_bnd (fQ_has (lcL z43 118 x33.toNatClampNeg) z43) (fun r61 z61 => if r61 = 0 then (fQ_firstNumber_72 (fQ_firstNumber_14 n) x33 r43 1 z61) else (fQ_firstNumber_71 (fQ_firstNumber_14 n) x33 r43 z61)))) else (fQ_firstNumber_71 (fQ_firstNumber_14 n) x33 r43 z43))))) else (fQ_firstNumber_100 x2 x4 z))
def fQ_firstNumber (z : lc_S) : Option ((Int32) × lc_S) :=
  lc_bnd (fQ_count 0 z) (fun r2 z2 => lc_let (lcL z2 80 47) (fun x10 => fQ_firstNumber_14 lc_FU x10 0 z2))
set_option maxHeartbeats 4000000 in
set_option maxRecDepth 100000 in
theorem bQ_firstNumber_96 {p : Program} {l : Launch} {e : Env} {s : State} {m : MethodId} {args : Array Value} {below : List Frame} {meth : Method} {c : Code} {G : lc_G} (hx : p.tables.exec = Jvm.exec) (hb : c.code = prog_10_method_51_code) (hml : c.maxLocals = 7) (hr : meth.sig.returnType = (some .int)) (hlocks : meth.locks = false) (hown : s.vm.findClass "LinearCellsModel" = some m.cls) (hts : ∀ w ∈ lc_ALL, w.before args s = true) (hE : lc_E G s) {k14 : Int64 → Int32 → lc_S → Option ((Int32) × lc_S)} {r : Int32} {z' : lc_S} (hk14 : ∀ {x2 : Int64} {x4 : Int32} {z : lc_S} {H : Heap} {locs : List Loc} {ls : Array Slot}, k14 x2 x4 z = some (r, z') → lv_has ls 7 [(0, .ref (lc_ad G 80)), (2, .long x2), (4, .int x4)] → lc_H G z s.heap H locs → W p l e (lc_rm 3) s m args below meth c H locs 0 0 (MQ below (lc_Q G (some (.int r)) z') args s 0 0 (lc_A G)) (F0 m 14 ls [])) : ∀ {x4 : Int32} {t0 : Int64} {z : lc_S} {H : Heap} {locs : List Loc} {ls : Array Slot}, fQ_firstNumber_96 k14 x4 t0 z = some (r, z') → lv_has ls 7 [(0, .ref (lc_ad G 80)), (4, .int x4)] → lc_H G z s.heap H locs → W p l e (lc_rm 3) s m args below meth c H locs 0 0 (MQ below (lc_Q G (some (.int r)) z') args s 0 0 (lc_A G)) (F0 m 96 ls [.long t0]) := by
  intro x4 t0 z H locs ls hf hl hH
  rw [fQ_firstNumber_96] at hf
  refine lv_lstore_n hx hb dQ_firstNumber_96 rfl hl (by decide) rfl (fun ls hl => ?_)
  replace hl : lv_has ls 7 [(2, .long t0), (0, .ref (lc_ad G 80)), (4, .int x4)] := hl
  refine lv_goto (tgt := 14) hx hb dQ_firstNumber_97 (by decide) ?_
  exact hk14 hf (lv_sub hl [1, 0, 2] rfl) hH
set_option maxHeartbeats 4000000 in
set_option maxRecDepth 100000 in
theorem bQ_firstNumber_72 {p : Program} {l : Launch} {e : Env} {s : State} {m : MethodId} {args : Array Value} {below : List Frame} {meth : Method} {c : Code} {G : lc_G} (hx : p.tables.exec = Jvm.exec) (hb : c.code = prog_10_method_51_code) (hml : c.maxLocals = 7) (hr : meth.sig.returnType = (some .int)) (hlocks : meth.locks = false) (hown : s.vm.findClass "LinearCellsModel" = some m.cls) (hts : ∀ w ∈ lc_ALL, w.before args s = true) (hE : lc_E G s) {k14 : Int64 → Int32 → lc_S → Option ((Int32) × lc_S)} {r : Int32} {z' : lc_S} (hk14 : ∀ {x2 : Int64} {x4 : Int32} {z : lc_S} {H : Heap} {locs : List Loc} {ls : Array Slot}, k14 x2 x4 z = some (r, z') → lv_has ls 7 [(0, .ref (lc_ad G 80)), (2, .long x2), (4, .int x4)] → lc_H G z s.heap H locs → W p l e (lc_rm 3) s m args below meth c H locs 0 0 (MQ below (lc_Q G (some (.int r)) z') args s 0 0 (lc_A G)) (F0 m 14 ls [])) : ∀ {x5 : Int32} {x6 : Int32} {t0 : Int32} {z : lc_S} {H : Heap} {locs : List Loc} {ls : Array Slot}, fQ_firstNumber_72 k14 x5 x6 t0 z = some (r, z') → lv_has ls 7 [(0, .ref (lc_ad G 80)), (5, .int x5), (6, .int x6)] → lc_H G z s.heap H locs → W p l e (lc_rm 3) s m args below meth c H locs 0 0 (MQ below (lc_Q G (some (.int r)) z') args s 0 0 (lc_A G)) (F0 m 72 ls [.int t0]) := by
  intro x5 x6 t0 z H locs ls hf hl hH
  rw [fQ_firstNumber_72] at hf
  refine lv_istore hx hb dQ_firstNumber_72 hl (by decide) rfl (fun ls hl => ?_)
  replace hl : lv_has ls 7 [(4, .int t0), (0, .ref (lc_ad G 80)), (5, .int x5), (6, .int x6)] := hl
  refine lv_iload hx hb dQ_firstNumber_74 (lv_at hl 3 rfl) ?_
  refine lv_if_eq (tgt := 89) hx hb dQ_firstNumber_76 (by decide) (fun hc => ?_) (fun hc => ?_)
  · replace hf := lc_ite_pos hc hf
    refine lv_aload_n hx hb dQ_firstNumber_89 rfl (lv_at hl 1 rfl) ?_
    refine lc_getf (d := 38) (q := 118) hx hb hts hown hE hH flQ_123 lc_h80 rfl rfl dQ_firstNumber_90 ?_
    refine lv_iload hx hb dQ_firstNumber_93 (lv_at hl 2 rfl) ?_
    obtain ⟨hi95, hf⟩ := lc_chk_some hf
    refine lc_lald hx hb hE hH lc_h118 rfl hi95 dQ_firstNumber_95 ?_
    exact bQ_firstNumber_96 hx hb hml hr hlocks hown hts hE (fun hf hl hH => hk14 hf hl hH) hf (lv_sub hl [1, 0] rfl) hH
  · replace hf := lc_ite_neg hc hf
    refine lv_aload_n hx hb dQ_firstNumber_79 rfl (lv_at hl 1 rfl) ?_
    refine lc_getf (d := 37) (q := 117) hx hb hts hown hE hH flQ_120 lc_h80 rfl rfl dQ_firstNumber_80 ?_
    refine lv_iload hx hb dQ_firstNumber_83 (lv_at hl 2 rfl) ?_
    obtain ⟨hi85, hf⟩ := lc_chk_some hf
    refine lc_lald hx hb hE hH lc_h117 rfl hi85 dQ_firstNumber_85 ?_
    refine lv_goto (tgt := 96) hx hb dQ_firstNumber_86 (by decide) ?_
    exact bQ_firstNumber_96 hx hb hml hr hlocks hown hts hE (fun hf hl hH => hk14 hf hl hH) hf (lv_sub hl [1, 0] rfl) hH
set_option maxHeartbeats 4000000 in
set_option maxRecDepth 100000 in
theorem bQ_firstNumber_71 {p : Program} {l : Launch} {e : Env} {s : State} {m : MethodId} {args : Array Value} {below : List Frame} {meth : Method} {c : Code} {G : lc_G} (hx : p.tables.exec = Jvm.exec) (hb : c.code = prog_10_method_51_code) (hml : c.maxLocals = 7) (hr : meth.sig.returnType = (some .int)) (hlocks : meth.locks = false) (hown : s.vm.findClass "LinearCellsModel" = some m.cls) (hts : ∀ w ∈ lc_ALL, w.before args s = true) (hE : lc_E G s) {k14 : Int64 → Int32 → lc_S → Option ((Int32) × lc_S)} {r : Int32} {z' : lc_S} (hk14 : ∀ {x2 : Int64} {x4 : Int32} {z : lc_S} {H : Heap} {locs : List Loc} {ls : Array Slot}, k14 x2 x4 z = some (r, z') → lv_has ls 7 [(0, .ref (lc_ad G 80)), (2, .long x2), (4, .int x4)] → lc_H G z s.heap H locs → W p l e (lc_rm 3) s m args below meth c H locs 0 0 (MQ below (lc_Q G (some (.int r)) z') args s 0 0 (lc_A G)) (F0 m 14 ls [])) : ∀ {x5 : Int32} {x6 : Int32} {z : lc_S} {H : Heap} {locs : List Loc} {ls : Array Slot}, fQ_firstNumber_71 k14 x5 x6 z = some (r, z') → lv_has ls 7 [(0, .ref (lc_ad G 80)), (5, .int x5), (6, .int x6)] → lc_H G z s.heap H locs → W p l e (lc_rm 3) s m args below meth c H locs 0 0 (MQ below (lc_Q G (some (.int r)) z') args s 0 0 (lc_A G)) (F0 m 71 ls []) := by
  intro x5 x6 z H locs ls hf hl hH
  rw [fQ_firstNumber_71] at hf
  refine lv_iconst (v := 0) hx hb dQ_firstNumber_71 (by decide) ?_
  exact bQ_firstNumber_72 hx hb hml hr hlocks hown hts hE (fun hf hl hH => hk14 hf hl hH) hf (lv_sub hl [0, 1, 2] rfl) hH
set_option maxHeartbeats 4000000 in
set_option maxRecDepth 100000 in
theorem bQ_firstNumber_112 {p : Program} {l : Launch} {e : Env} {s : State} {m : MethodId} {args : Array Value} {below : List Frame} {meth : Method} {c : Code} {G : lc_G} (hx : p.tables.exec = Jvm.exec) (hb : c.code = prog_10_method_51_code) (hml : c.maxLocals = 7) (hr : meth.sig.returnType = (some .int)) (hlocks : meth.locks = false) (hown : s.vm.findClass "LinearCellsModel" = some m.cls) (hts : ∀ w ∈ lc_ALL, w.before args s = true) (hE : lc_E G s) {r : Int32} {z' : lc_S} : ∀ {z : lc_S} {H : Heap} {locs : List Loc} {ls : Array Slot}, fQ_firstNumber_112 z = some (r, z') → lv_has ls 7 [] → lc_H G z s.heap H locs → W p l e (lc_rm 3) s m args below meth c H locs 0 0 (MQ below (lc_Q G (some (.int r)) z') args s 0 0 (lc_A G)) (F0 m 112 ls []) := by
  intro z H locs ls hf hl hH
  rw [fQ_firstNumber_112] at hf
  refine lv_iconst (v := 0) hx hb dQ_firstNumber_112 (by decide) ?_
  refine lv_goto (tgt := 118) hx hb dQ_firstNumber_113 (by decide) ?_
  exact lc_iret hx hb hr hlocks hH hf dQ_firstNumber_118
set_option maxHeartbeats 4000000 in
set_option maxRecDepth 100000 in
theorem bQ_firstNumber_100 {p : Program} {l : Launch} {e : Env} {s : State} {m : MethodId} {args : Array Value} {below : List Frame} {meth : Method} {c : Code} {G : lc_G} (hx : p.tables.exec = Jvm.exec) (hb : c.code = prog_10_method_51_code) (hml : c.maxLocals = 7) (hr : meth.sig.returnType = (some .int)) (hlocks : meth.locks = false) (hown : s.vm.findClass "LinearCellsModel" = some m.cls) (hts : ∀ w ∈ lc_ALL, w.before args s = true) (hE : lc_E G s) {r : Int32} {z' : lc_S} : ∀ {x2 : Int64} {x4 : Int32} {z : lc_S} {H : Heap} {locs : List Loc} {ls : Array Slot}, fQ_firstNumber_100 x2 x4 z = some (r, z') → lv_has ls 7 [(2, .long x2), (4, .int x4)] → lc_H G z s.heap H locs → W p l e (lc_rm 3) s m args below meth c H locs 0 0 (MQ below (lc_Q G (some (.int r)) z') args s 0 0 (lc_A G)) (F0 m 100 ls []) := by
  intro x2 x4 z H locs ls hf hl hH
  rw [fQ_firstNumber_100] at hf
  refine lv_iload hx hb dQ_firstNumber_100 (lv_at hl 1 rfl) ?_
  refine lv_if_ne (tgt := 112) hx hb dQ_firstNumber_102 (by decide) (fun hc => ?_) (fun hc => ?_)
  · replace hf := lc_ite_neg hc hf
    exact bQ_firstNumber_112 hx hb hml hr hlocks hown hts hE hf (lv_sub hl [] rfl) hH
  · replace hf := lc_ite_pos hc hf
    refine lv_lload_n hx hb dQ_firstNumber_105 rfl (lv_at hl 0 rfl) ?_
    obtain ⟨r106, z106, h106, hf⟩ := lc_bnd_some hf
    refine lc_calli (va_runS (As := [.long x2]) (rest := []) ⟨hx, hb, hml, hown, hts⟩ (cQ_isNumber l G h106) (lc_cwS hts ksQ_328 (lc_room (by decide) (by decide))) (lc_preS hE hH _) rfl rfl hl.1 rfl (lv_room (Nat.le_of_ble_eq_true rfl)) dQ_firstNumber_106 ⟨Nat.zero_le _, Nat.zero_le _⟩) hH (fun H locs hH => ?_)
    refine lv_if_ne (tgt := 116) hx hb dQ_firstNumber_109 (by decide) (fun hc => ?_) (fun hc => ?_)
    · replace hf := lc_ite_neg hc hf
      refine lv_lload_n hx hb dQ_firstNumber_116 rfl (lv_at hl 0 rfl) ?_
      refine lv_l2i hx hb dQ_firstNumber_117 rfl ?_
      exact lc_iret hx hb hr hlocks hH hf dQ_firstNumber_118
    · replace hf := lc_ite_pos hc hf
      exact bQ_firstNumber_112 hx hb hml hr hlocks hown hts hE hf (lv_sub hl [] rfl) hH
set_option maxHeartbeats 4000000 in
set_option maxRecDepth 100000 in
theorem bQ_firstNumber_14 {p : Program} {l : Launch} {e : Env} {s : State} {m : MethodId} {args : Array Value} {below : List Frame} {meth : Method} {c : Code} {G : lc_G} (hx : p.tables.exec = Jvm.exec) (hb : c.code = prog_10_method_51_code) (hml : c.maxLocals = 7) (hr : meth.sig.returnType = (some .int)) (hlocks : meth.locks = false) (hown : s.vm.findClass "LinearCellsModel" = some m.cls) (hts : ∀ w ∈ lc_ALL, w.before args s = true) (hE : lc_E G s) {r : Int32} {z' : lc_S} : ∀ (n : Nat) {x2 : Int64} {x4 : Int32} {z : lc_S} {H : Heap} {locs : List Loc} {ls : Array Slot}, fQ_firstNumber_14 n x2 x4 z = some (r, z') → lv_has ls 7 [(0, .ref (lc_ad G 80)), (2, .long x2), (4, .int x4)] → lc_H G z s.heap H locs → W p l e (lc_rm 3) s m args below meth c H locs 0 0 (MQ below (lc_Q G (some (.int r)) z') args s 0 0 (lc_A G)) (F0 m 14 ls []) := by
  intro n
  induction n with
  | zero =>
    intro x2 x4 z H locs ls hf hl hH
    exact absurd (show (none : Option ((Int32) × lc_S)) = some (r, z') from hf) (fun h => by cases h)
  | succ n ih =>
    intro x2 x4 z H locs ls hf hl hH
    rw [fQ_firstNumber_14] at hf
    refine lv_lload_n hx hb dQ_firstNumber_14 rfl (lv_at hl 1 rfl) ?_
    refine lv_ldc2 hx hb hown (hts _ kcQ_332) dQ_firstNumber_15 ?_
    refine W.lcmp hx hb dQ_firstNumber_18 ?_
    refine lv_if_lt (tgt := 100) hx hb dQ_firstNumber_19 (by decide) (fun hc => ?_) (fun hc => ?_)
    · replace hf := lc_ite_pos hc hf
      exact bQ_firstNumber_100 hx hb hml hr hlocks hown hts hE hf (lv_sub hl [1, 2] rfl) hH
    · replace hf := lc_ite_neg hc hf
      refine lv_iload hx hb dQ_firstNumber_22 (lv_at hl 2 rfl) ?_
      refine lv_if_ne (tgt := 100) hx hb dQ_firstNumber_24 (by decide) (fun hc => ?_) (fun hc => ?_)
      · replace hf := lc_ite_neg hc hf
        exact bQ_firstNumber_100 hx hb hml hr hlocks hown hts hE hf (lv_sub hl [1, 2] rfl) hH
      · replace hf := lc_ite_pos hc hf
        refine lv_lload_n hx hb dQ_firstNumber_27 rfl (lv_at hl 1 rfl) ?_
        refine lv_ldc2 hx hb hown (hts _ kcQ_332) dQ_firstNumber_28 ?_
        refine lv_lsub hx hb dQ_firstNumber_31 ?_
        refine lv_l2i hx hb dQ_firstNumber_32 rfl ?_
        refine lv_topi (fun x33 e33 => ?_)
        replace hf := lc_let_of e33 hf
        refine lv_istore hx hb dQ_firstNumber_33 hl (by decide) rfl (fun ls hl => ?_)
        replace hl : lv_has ls 7 [(5, .int x33), (0, .ref (lc_ad G 80)), (2, .long x2), (4, .int x4)] := hl
        refine lv_aload_n hx hb dQ_firstNumber_35 rfl (lv_at hl 1 rfl) ?_
        refine lv_aload_n hx hb dQ_firstNumber_36 rfl (lv_at hl 1 rfl) ?_
        refine lc_getf (d := 37) (q := 117) hx hb hts hown hE hH flQ_120 lc_h80 rfl rfl dQ_firstNumber_37 ?_
        refine lv_iload hx hb dQ_firstNumber_40 (lv_at hl 0 rfl) ?_
        obtain ⟨hi42, hf⟩ := lc_chk_some hf
        refine lc_lald hx hb hE hH lc_h117 rfl hi42 dQ_firstNumber_42 ?_
        obtain ⟨r43, z43, h43, hf⟩ := lc_bnd_some hf
        refine lc_calli (va_runV (As := [.long (lcL z 117 x33.toNatClampNeg)]) (rest := []) ⟨hx, hb, hml, hown, hts⟩ (cQ_has l G h43) (lc_cwV hts kvQ_351 (lc_room (by decide) (by decide))) (lc_preV hE hH lc_h80 rfl _) rfl rfl hl.1 rfl (lv_room (Nat.le_of_ble_eq_true rfl)) dQ_firstNumber_43 ⟨Nat.zero_le _, Nat.zero_le _⟩) hH (fun H locs hH => ?_)
        refine lv_istore hx hb dQ_firstNumber_46 hl (by decide) rfl (fun ls hl => ?_)
        replace hl : lv_has ls 7 [(6, .int r43), (5, .int x33), (0, .ref (lc_ad G 80)), (2, .long x2), (4, .int x4)] := hl
        refine lv_iload hx hb dQ_firstNumber_48 (lv_at hl 0 rfl) ?_
        refine lv_if_ne (tgt := 71) hx hb dQ_firstNumber_50 (by decide) (fun hc => ?_) (fun hc => ?_)
        · replace hf := lc_ite_neg hc hf
          exact bQ_firstNumber_71 hx hb hml hr hlocks hown hts hE (fun hf hl hH => ih hf hl hH) hf (lv_sub hl [2, 1, 0] rfl) hH
        · replace hf := lc_ite_pos hc hf
          refine lv_aload_n hx hb dQ_firstNumber_53 rfl (lv_at hl 2 rfl) ?_
          refine lv_aload_n hx hb dQ_firstNumber_54 rfl (lv_at hl 2 rfl) ?_
          refine lc_getf (d := 38) (q := 118) hx hb hts hown hE hH flQ_123 lc_h80 rfl rfl dQ_firstNumber_55 ?_
          refine lv_iload hx hb dQ_firstNumber_58 (lv_at hl 1 rfl) ?_
          obtain ⟨hi60, hf⟩ := lc_chk_some hf
          refine lc_lald hx hb hE hH lc_h118 rfl hi60 dQ_firstNumber_60 ?_
          obtain ⟨r61, z61, h61, hf⟩ := lc_bnd_some hf
          refine lc_calli (va_runV (As := [.long (lcL z43 118 x33.toNatClampNeg)]) (rest := []) ⟨hx, hb, hml, hown, hts⟩ (cQ_has l G h61) (lc_cwV hts kvQ_351 (lc_room (by decide) (by decide))) (lc_preV hE hH lc_h80 rfl _) rfl rfl hl.1 rfl (lv_room (Nat.le_of_ble_eq_true rfl)) dQ_firstNumber_61 ⟨Nat.zero_le _, Nat.zero_le _⟩) hH (fun H locs hH => ?_)
          refine lv_if_ne (tgt := 71) hx hb dQ_firstNumber_64 (by decide) (fun hc => ?_) (fun hc => ?_)
          · replace hf := lc_ite_neg hc hf
            exact bQ_firstNumber_71 hx hb hml hr hlocks hown hts hE (fun hf hl hH => ih hf hl hH) hf (lv_sub hl [2, 1, 0] rfl) hH
          · replace hf := lc_ite_pos hc hf
            refine lv_iconst (v := 1) hx hb dQ_firstNumber_67 (by decide) ?_
            refine lv_goto (tgt := 72) hx hb dQ_firstNumber_68 (by decide) ?_
            exact bQ_firstNumber_72 hx hb hml hr hlocks hown hts hE (fun hf hl hH => ih hf hl hH) hf (lv_sub hl [2, 1, 0] rfl) hH
set_option maxHeartbeats 4000000 in
set_option maxRecDepth 100000 in
theorem cQ_firstNumber (l : Launch) (G : lc_G) {r : Int32} {z z' : lc_S} (hf : fQ_firstNumber z = some (r, z')) : lc_M l G yQ_firstNumber wQ_firstNumber 3 [.ref (lc_ad G 80)] z (some (.int r)) z' := by
  refine lc_M_of (cc := prog_10_method_51_code) (maxL := 7) (ret := (some .int)) (own := "LinearCellsModel") (by decide) rfl (fun w h => List.mem_cons_of_mem _ h) (Nat.le_of_ble_eq_true rfl) rfl ?_
  intro p e s m below meth c hx hb hml hr hlocks hown hts hE ls hl hH
  replace hl : lv_has ls 7 [(0, .ref (lc_ad G 80))] := hl
  rw [fQ_firstNumber] at hf
  refine lv_aload_n hx hb dQ_firstNumber_0 rfl (lv_at hl 0 rfl) ?_
  refine lv_iconst (v := 0) hx hb dQ_firstNumber_1 (by decide) ?_
  obtain ⟨r2, z2, h2, hf⟩ := lc_bnd_some hf
  refine lc_calli (va_runV (As := [.int 0]) (rest := []) ⟨hx, hb, hml, hown, hts⟩ (cQ_count l G h2) (lc_cwV hts kvQ_347 (lc_room (by decide) (by decide))) (lc_preV hE hH lc_h80 rfl _) rfl rfl hl.1 rfl (lv_room (Nat.le_of_ble_eq_true rfl)) dQ_firstNumber_2 ⟨Nat.zero_le _, Nat.zero_le _⟩) hH (fun H locs hH => ?_)
  refine lv_istore_n hx hb dQ_firstNumber_5 rfl hl (by decide) rfl (fun ls hl => ?_)
  replace hl : lv_has ls 7 [(1, .int r2), (0, .ref (lc_ad G 80))] := hl
  refine lv_aload_n hx hb dQ_firstNumber_6 rfl (lv_at hl 1 rfl) ?_
  refine lc_getl hx hb hts hown hE hH flQ_301 lc_h80 rfl dQ_firstNumber_7 ?_
  refine lv_topl (fun x10 e10 => ?_)
  replace hf := lc_let_of e10 hf
  refine lv_lstore_n hx hb dQ_firstNumber_10 rfl hl (by decide) rfl (fun ls hl => ?_)
  replace hl : lv_has ls 7 [(2, .long x10), (1, .int r2), (0, .ref (lc_ad G 80))] := hl
  refine lv_iconst (v := 0) hx hb dQ_firstNumber_11 (by decide) ?_
  refine lv_istore hx hb dQ_firstNumber_12 hl (by decide) rfl (fun ls hl => ?_)
  replace hl : lv_has ls 7 [(4, .int 0), (2, .long x10), (1, .int r2), (0, .ref (lc_ad G 80))] := hl
  exact bQ_firstNumber_14 hx hb hml hr hlocks hown hts hE _ hf (lv_sub hl [3, 1, 0] rfl) hH
theorem dQ_value_0 : decode prog_10_method_54_code 0 = .ok (.aload_n 0, 1) := by decide +kernel
theorem dQ_value_1 : decode prog_10_method_54_code 1 = .ok (.iload_n 1, 1) := by decide +kernel
theorem dQ_value_2 : decode prog_10_method_54_code 2 = .ok (.ifCond .lt 8, 3) := by decide +kernel
theorem dQ_value_5 : decode prog_10_method_54_code 5 = .ok (.iload_n 1, 1) := by decide +kernel
theorem dQ_value_6 : decode prog_10_method_54_code 6 = .ok (.iconst 3, 1) := by decide +kernel
theorem dQ_value_7 : decode prog_10_method_54_code 7 = .ok (.if_icmp .le 7, 3) := by decide +kernel
theorem dQ_value_10 : decode prog_10_method_54_code 10 = .ok (.iconst 1, 1) := by decide +kernel
theorem dQ_value_11 : decode prog_10_method_54_code 11 = .ok (.goto 4, 3) := by decide +kernel
theorem dQ_value_14 : decode prog_10_method_54_code 14 = .ok (.iconst 0, 1) := by decide +kernel
theorem dQ_value_15 : decode prog_10_method_54_code 15 = .ok (.putfield 135, 3) := by decide +kernel
theorem dQ_value_18 : decode prog_10_method_54_code 18 = .ok (.aload_n 0, 1) := by decide +kernel
theorem dQ_value_19 : decode prog_10_method_54_code 19 = .ok (.getfield 135, 3) := by decide +kernel
theorem dQ_value_22 : decode prog_10_method_54_code 22 = .ok (.ifCond .gt 10, 3) := by decide +kernel
theorem dQ_value_25 : decode prog_10_method_54_code 25 = .ok (.aload_n 0, 1) := by decide +kernel
theorem dQ_value_26 : decode prog_10_method_54_code 26 = .ok (.invokevirtual 357, 3) := by decide +kernel
theorem dQ_value_29 : decode prog_10_method_54_code 29 = .ok (.ifCond .ne 5, 3) := by decide +kernel
theorem dQ_value_32 : decode prog_10_method_54_code 32 = .ok (.iconst 0, 1) := by decide +kernel
theorem dQ_value_33 : decode prog_10_method_54_code 33 = .ok (.ireturn, 1) := by decide +kernel
theorem dQ_value_34 : decode prog_10_method_54_code 34 = .ok (.iload_n 1, 1) := by decide +kernel
theorem dQ_value_35 : decode prog_10_method_54_code 35 = .ok (.tableswitch 85 0 2 #[25, 55, 79], 25) := by decide +kernel
theorem dQ_value_60 : decode prog_10_method_54_code 60 = .ok (.aload_n 0, 1) := by decide +kernel
theorem dQ_value_61 : decode prog_10_method_54_code 61 = .ok (.getfield 301, 3) := by decide +kernel
theorem dQ_value_64 : decode prog_10_method_54_code 64 = .ok (.invokestatic 328, 3) := by decide +kernel
theorem dQ_value_67 : decode prog_10_method_54_code 67 = .ok (.ifCond .eq 7, 3) := by decide +kernel
theorem dQ_value_70 : decode prog_10_method_54_code 70 = .ok (.iconst 1, 1) := by decide +kernel
theorem dQ_value_71 : decode prog_10_method_54_code 71 = .ok (.goto 18, 3) := by decide +kernel
theorem dQ_value_74 : decode prog_10_method_54_code 74 = .ok (.aload_n 0, 1) := by decide +kernel
theorem dQ_value_75 : decode prog_10_method_54_code 75 = .ok (.getfield 301, 3) := by decide +kernel
theorem dQ_value_78 : decode prog_10_method_54_code 78 = .ok (.invokestatic 340, 3) := by decide +kernel
theorem dQ_value_81 : decode prog_10_method_54_code 81 = .ok (.ifCond .eq 7, 3) := by decide +kernel
theorem dQ_value_84 : decode prog_10_method_54_code 84 = .ok (.iconst 2, 1) := by decide +kernel
theorem dQ_value_85 : decode prog_10_method_54_code 85 = .ok (.goto 4, 3) := by decide +kernel
theorem dQ_value_88 : decode prog_10_method_54_code 88 = .ok (.iconst 3, 1) := by decide +kernel
theorem dQ_value_89 : decode prog_10_method_54_code 89 = .ok (.ireturn, 1) := by decide +kernel
theorem dQ_value_90 : decode prog_10_method_54_code 90 = .ok (.aload_n 0, 1) := by decide +kernel
theorem dQ_value_91 : decode prog_10_method_54_code 91 = .ok (.getfield 301, 3) := by decide +kernel
theorem dQ_value_94 : decode prog_10_method_54_code 94 = .ok (.ldc2_w 332, 3) := by decide +kernel
theorem dQ_value_97 : decode prog_10_method_54_code 97 = .ok (.lcmp, 1) := by decide +kernel
theorem dQ_value_98 : decode prog_10_method_54_code 98 = .ok (.ifCond .ge 11, 3) := by decide +kernel
theorem dQ_value_101 : decode prog_10_method_54_code 101 = .ok (.aload_n 0, 1) := by decide +kernel
theorem dQ_value_102 : decode prog_10_method_54_code 102 = .ok (.getfield 301, 3) := by decide +kernel
theorem dQ_value_105 : decode prog_10_method_54_code 105 = .ok (.l2i, 1) := by decide +kernel
theorem dQ_value_106 : decode prog_10_method_54_code 106 = .ok (.goto 7, 3) := by decide +kernel
theorem dQ_value_109 : decode prog_10_method_54_code 109 = .ok (.aload_n 0, 1) := by decide +kernel
theorem dQ_value_110 : decode prog_10_method_54_code 110 = .ok (.invokevirtual 361, 3) := by decide +kernel
theorem dQ_value_113 : decode prog_10_method_54_code 113 = .ok (.ireturn, 1) := by decide +kernel
theorem dQ_value_114 : decode prog_10_method_54_code 114 = .ok (.aload_n 0, 1) := by decide +kernel
theorem dQ_value_115 : decode prog_10_method_54_code 115 = .ok (.iconst 1, 1) := by decide +kernel
theorem dQ_value_116 : decode prog_10_method_54_code 116 = .ok (.invokevirtual 347, 3) := by decide +kernel
theorem dQ_value_119 : decode prog_10_method_54_code 119 = .ok (.ireturn, 1) := by decide +kernel
theorem dQ_value_120 : decode prog_10_method_54_code 120 = .ok (.aload_n 0, 1) := by decide +kernel
theorem dQ_value_121 : decode prog_10_method_54_code 121 = .ok (.iconst 0, 1) := by decide +kernel
theorem dQ_value_122 : decode prog_10_method_54_code 122 = .ok (.invokevirtual 347, 3) := by decide +kernel
theorem dQ_value_125 : decode prog_10_method_54_code 125 = .ok (.ireturn, 1) := by decide +kernel
def fQ_value_32 (z : lc_S) : Option ((Int32) × lc_S) :=
  some (0, z)
def fQ_value_15 (x1 : Int32) (t1 : Int32) (z : lc_S) : Option ((Int32) × lc_S) :=
  if 0 < (lcI (lcUI z 80 0 t1) 80 0) then (fQ_value_32 (lcUI z 80 0 t1)) else (lc_bnd (fQ_hasValue (lcUI z 80 0 t1)) (fun r26 z26 => if r26 = 0 then (fQ_value_32 z26) else (if x1 = 0 then (lc_bnd (fQ_isNumber (lcL z26 80 47) z26) (fun r64 z64 => if r64 = 0 then (lc_bnd (fQ_isCell (lcL z64 80 47) z64) (fun r78 z78 => if r78 = 0 then (some (3, z78)) else (some (2, z78)))) else (some (1, z64)))) else (if x1 = 1 then (if 0 ≤ (lg_cmp (lcL z26 80 47) 8589934592) then (lc_bnd (fQ_firstNumber z26) (fun r110 z110 => some (r110, z110))) else (some ((lcL z26 80 47).toInt32, z26))) else (if x1 = 2 then (lc_bnd (fQ_count 1 z26) (fun r116 z116 => some (r116, z116))) else (lc_bnd (fQ_count 0 z26) (fun r122 z122 => some (r122, z122))))))))
def fQ_value_10 (x1 : Int32) (z : lc_S) : Option ((Int32) × lc_S) :=
  fQ_value_15 x1 1 z
def fQ_value (a1 : Int32) (z : lc_S) : Option ((Int32) × lc_S) :=
  if a1 < 0 then (fQ_value_10 a1 z) else (if a1 ≤ 3 then (fQ_value_15 a1 0 z) else (fQ_value_10 a1 z))
set_option maxHeartbeats 4000000 in
set_option maxRecDepth 100000 in
theorem bQ_value_32 {p : Program} {l : Launch} {e : Env} {s : State} {m : MethodId} {args : Array Value} {below : List Frame} {meth : Method} {c : Code} {G : lc_G} (hx : p.tables.exec = Jvm.exec) (hb : c.code = prog_10_method_54_code) (hml : c.maxLocals = 2) (hr : meth.sig.returnType = (some .int)) (hlocks : meth.locks = false) (hown : s.vm.findClass "LinearCellsModel" = some m.cls) (hts : ∀ w ∈ lc_ALL, w.before args s = true) (hE : lc_E G s) {r : Int32} {z' : lc_S} : ∀ {z : lc_S} {H : Heap} {locs : List Loc} {ls : Array Slot}, fQ_value_32 z = some (r, z') → lv_has ls 2 [] → lc_H G z s.heap H locs → W p l e (lc_rm 4) s m args below meth c H locs 0 0 (MQ below (lc_Q G (some (.int r)) z') args s 0 0 (lc_A G)) (F0 m 32 ls []) := by
  intro z H locs ls hf hl hH
  rw [fQ_value_32] at hf
  refine lv_iconst (v := 0) hx hb dQ_value_32 (by decide) ?_
  exact lc_iret hx hb hr hlocks hH hf dQ_value_33
set_option maxHeartbeats 4000000 in
set_option maxRecDepth 100000 in
theorem bQ_value_15 {p : Program} {l : Launch} {e : Env} {s : State} {m : MethodId} {args : Array Value} {below : List Frame} {meth : Method} {c : Code} {G : lc_G} (hx : p.tables.exec = Jvm.exec) (hb : c.code = prog_10_method_54_code) (hml : c.maxLocals = 2) (hr : meth.sig.returnType = (some .int)) (hlocks : meth.locks = false) (hown : s.vm.findClass "LinearCellsModel" = some m.cls) (hts : ∀ w ∈ lc_ALL, w.before args s = true) (hE : lc_E G s) {r : Int32} {z' : lc_S} : ∀ {x1 : Int32} {t1 : Int32} {z : lc_S} {H : Heap} {locs : List Loc} {ls : Array Slot}, fQ_value_15 x1 t1 z = some (r, z') → lv_has ls 2 [(0, .ref (lc_ad G 80)), (1, .int x1)] → lc_H G z s.heap H locs → W p l e (lc_rm 4) s m args below meth c H locs 0 0 (MQ below (lc_Q G (some (.int r)) z') args s 0 0 (lc_A G)) (F0 m 15 ls [.int t1, .ref (lc_ad G 80)]) := by
  intro x1 t1 z H locs ls hf hl hH
  rw [fQ_value_15] at hf
  refine lc_puti hx hb hts hown hE hH fpQ_135 lc_h80 rfl rfl rfl dQ_value_15 (fun H locs hH => ?_)
  refine lv_aload_n hx hb dQ_value_18 rfl (lv_at hl 0 rfl) ?_
  refine lc_geti hx hb hts hown hE hH flQ_135 lc_h80 rfl dQ_value_19 ?_
  refine lv_if_gt (tgt := 32) hx hb dQ_value_22 (by decide) (fun hc => ?_) (fun hc => ?_)
  · replace hf := lc_ite_pos hc hf
    exact bQ_value_32 hx hb hml hr hlocks hown hts hE hf (lv_sub hl [] rfl) hH
  · replace hf := lc_ite_neg hc hf
    refine lv_aload_n hx hb dQ_value_25 rfl (lv_at hl 0 rfl) ?_
    obtain ⟨r26, z26, h26, hf⟩ := lc_bnd_some hf
    refine lc_calli (va_runV (As := []) (rest := []) ⟨hx, hb, hml, hown, hts⟩ (cQ_hasValue l G h26) (lc_cwV hts kvQ_357 (lc_room (by decide) (by decide))) (lc_preV hE hH lc_h80 rfl _) rfl rfl hl.1 rfl (lv_room (Nat.le_of_ble_eq_true rfl)) dQ_value_26 ⟨Nat.zero_le _, Nat.zero_le _⟩) hH (fun H locs hH => ?_)
    refine lv_if_ne (tgt := 34) hx hb dQ_value_29 (by decide) (fun hc => ?_) (fun hc => ?_)
    · replace hf := lc_ite_neg hc hf
      refine lv_iload_n hx hb dQ_value_34 rfl (lv_at hl 1 rfl) ?_
      by_cases hc0 : x1 = 0
      · replace hf := lc_ite_pos hc0 hf
        refine lv_tableIn (tgt := 60) hx hb dQ_value_35 (by rw [hc0]; decide) (by rw [hc0]; decide) (by rw [hc0] <;> rfl) (by decide) ?_
        refine lv_aload_n hx hb dQ_value_60 rfl (lv_at hl 0 rfl) ?_
        refine lc_getl hx hb hts hown hE hH flQ_301 lc_h80 rfl dQ_value_61 ?_
        obtain ⟨r64, z64, h64, hf⟩ := lc_bnd_some hf
        refine lc_calli (va_runS (As := [.long (lcL z26 80 47)]) (rest := []) ⟨hx, hb, hml, hown, hts⟩ (cQ_isNumber l G h64) (lc_cwS hts ksQ_328 (lc_room (by decide) (by decide))) (lc_preS hE hH _) rfl rfl hl.1 rfl (lv_room (Nat.le_of_ble_eq_true rfl)) dQ_value_64 ⟨Nat.zero_le _, Nat.zero_le _⟩) hH (fun H locs hH => ?_)
        refine lv_if_eq (tgt := 74) hx hb dQ_value_67 (by decide) (fun hc => ?_) (fun hc => ?_)
        · replace hf := lc_ite_pos hc hf
          refine lv_aload_n hx hb dQ_value_74 rfl (lv_at hl 0 rfl) ?_
          refine lc_getl hx hb hts hown hE hH flQ_301 lc_h80 rfl dQ_value_75 ?_
          obtain ⟨r78, z78, h78, hf⟩ := lc_bnd_some hf
          refine lc_calli (va_runS (As := [.long (lcL z64 80 47)]) (rest := []) ⟨hx, hb, hml, hown, hts⟩ (cQ_isCell l G h78) (lc_cwS hts ksQ_340 (lc_room (by decide) (by decide))) (lc_preS hE hH _) rfl rfl hl.1 rfl (lv_room (Nat.le_of_ble_eq_true rfl)) dQ_value_78 ⟨Nat.zero_le _, Nat.zero_le _⟩) hH (fun H locs hH => ?_)
          refine lv_if_eq (tgt := 88) hx hb dQ_value_81 (by decide) (fun hc => ?_) (fun hc => ?_)
          · replace hf := lc_ite_pos hc hf
            refine lv_iconst (v := 3) hx hb dQ_value_88 (by decide) ?_
            exact lc_iret hx hb hr hlocks hH hf dQ_value_89
          · replace hf := lc_ite_neg hc hf
            refine lv_iconst (v := 2) hx hb dQ_value_84 (by decide) ?_
            refine lv_goto (tgt := 89) hx hb dQ_value_85 (by decide) ?_
            exact lc_iret hx hb hr hlocks hH hf dQ_value_89
        · replace hf := lc_ite_neg hc hf
          refine lv_iconst (v := 1) hx hb dQ_value_70 (by decide) ?_
          refine lv_goto (tgt := 89) hx hb dQ_value_71 (by decide) ?_
          exact lc_iret hx hb hr hlocks hH hf dQ_value_89
      replace hf := lc_ite_neg hc0 hf
      by_cases hc1 : x1 = 1
      · replace hf := lc_ite_pos hc1 hf
        refine lv_tableIn (tgt := 90) hx hb dQ_value_35 (by rw [hc1]; decide) (by rw [hc1]; decide) (by rw [hc1] <;> rfl) (by decide) ?_
        refine lv_aload_n hx hb dQ_value_90 rfl (lv_at hl 0 rfl) ?_
        refine lc_getl hx hb hts hown hE hH flQ_301 lc_h80 rfl dQ_value_91 ?_
        refine lv_ldc2 hx hb hown (hts _ kcQ_332) dQ_value_94 ?_
        refine W.lcmp hx hb dQ_value_97 ?_
        refine lv_if_ge (tgt := 109) hx hb dQ_value_98 (by decide) (fun hc => ?_) (fun hc => ?_)
        · replace hf := lc_ite_pos hc hf
          refine lv_aload_n hx hb dQ_value_109 rfl (lv_at hl 0 rfl) ?_
          obtain ⟨r110, z110, h110, hf⟩ := lc_bnd_some hf
          refine lc_calli (va_runV (As := []) (rest := []) ⟨hx, hb, hml, hown, hts⟩ (cQ_firstNumber l G h110) (lc_cwV hts kvQ_361 (lc_room (by decide) (by decide))) (lc_preV hE hH lc_h80 rfl _) rfl rfl hl.1 rfl (lv_room (Nat.le_of_ble_eq_true rfl)) dQ_value_110 ⟨Nat.zero_le _, Nat.zero_le _⟩) hH (fun H locs hH => ?_)
          exact lc_iret hx hb hr hlocks hH hf dQ_value_113
        · replace hf := lc_ite_neg hc hf
          refine lv_aload_n hx hb dQ_value_101 rfl (lv_at hl 0 rfl) ?_
          refine lc_getl hx hb hts hown hE hH flQ_301 lc_h80 rfl dQ_value_102 ?_
          refine lv_l2i hx hb dQ_value_105 rfl ?_
          refine lv_goto (tgt := 113) hx hb dQ_value_106 (by decide) ?_
          exact lc_iret hx hb hr hlocks hH hf dQ_value_113
      replace hf := lc_ite_neg hc1 hf
      by_cases hc2 : x1 = 2
      · replace hf := lc_ite_pos hc2 hf
        refine lv_tableIn (tgt := 114) hx hb dQ_value_35 (by rw [hc2]; decide) (by rw [hc2]; decide) (by rw [hc2] <;> rfl) (by decide) ?_
        refine lv_aload_n hx hb dQ_value_114 rfl (lv_at hl 0 rfl) ?_
        refine lv_iconst (v := 1) hx hb dQ_value_115 (by decide) ?_
        obtain ⟨r116, z116, h116, hf⟩ := lc_bnd_some hf
        refine lc_calli (va_runV (As := [.int 1]) (rest := []) ⟨hx, hb, hml, hown, hts⟩ (cQ_count l G h116) (lc_cwV hts kvQ_347 (lc_room (by decide) (by decide))) (lc_preV hE hH lc_h80 rfl _) rfl rfl hl.1 rfl (lv_room (Nat.le_of_ble_eq_true rfl)) dQ_value_116 ⟨Nat.zero_le _, Nat.zero_le _⟩) hH (fun H locs hH => ?_)
        exact lc_iret hx hb hr hlocks hH hf dQ_value_119
      replace hf := lc_ite_neg hc2 hf
      have nhc0 := lv_neT (a := 0) hc0 (by decide)
      have nhc1 := lv_neT (a := 1) hc1 (by decide)
      have nhc2 := lv_neT (a := 2) hc2 (by decide)
      refine lv_tableOut (tgt := 120) hx hb dQ_value_35 (by omega) (by decide) ?_
      refine lv_aload_n hx hb dQ_value_120 rfl (lv_at hl 0 rfl) ?_
      refine lv_iconst (v := 0) hx hb dQ_value_121 (by decide) ?_
      obtain ⟨r122, z122, h122, hf⟩ := lc_bnd_some hf
      refine lc_calli (va_runV (As := [.int 0]) (rest := []) ⟨hx, hb, hml, hown, hts⟩ (cQ_count l G h122) (lc_cwV hts kvQ_347 (lc_room (by decide) (by decide))) (lc_preV hE hH lc_h80 rfl _) rfl rfl hl.1 rfl (lv_room (Nat.le_of_ble_eq_true rfl)) dQ_value_122 ⟨Nat.zero_le _, Nat.zero_le _⟩) hH (fun H locs hH => ?_)
      exact lc_iret hx hb hr hlocks hH hf dQ_value_125
    · replace hf := lc_ite_pos hc hf
      exact bQ_value_32 hx hb hml hr hlocks hown hts hE hf (lv_sub hl [] rfl) hH
set_option maxHeartbeats 4000000 in
set_option maxRecDepth 100000 in
theorem bQ_value_10 {p : Program} {l : Launch} {e : Env} {s : State} {m : MethodId} {args : Array Value} {below : List Frame} {meth : Method} {c : Code} {G : lc_G} (hx : p.tables.exec = Jvm.exec) (hb : c.code = prog_10_method_54_code) (hml : c.maxLocals = 2) (hr : meth.sig.returnType = (some .int)) (hlocks : meth.locks = false) (hown : s.vm.findClass "LinearCellsModel" = some m.cls) (hts : ∀ w ∈ lc_ALL, w.before args s = true) (hE : lc_E G s) {r : Int32} {z' : lc_S} : ∀ {x1 : Int32} {z : lc_S} {H : Heap} {locs : List Loc} {ls : Array Slot}, fQ_value_10 x1 z = some (r, z') → lv_has ls 2 [(0, .ref (lc_ad G 80)), (1, .int x1)] → lc_H G z s.heap H locs → W p l e (lc_rm 4) s m args below meth c H locs 0 0 (MQ below (lc_Q G (some (.int r)) z') args s 0 0 (lc_A G)) (F0 m 10 ls [.ref (lc_ad G 80)]) := by
  intro x1 z H locs ls hf hl hH
  rw [fQ_value_10] at hf
  refine lv_iconst (v := 1) hx hb dQ_value_10 (by decide) ?_
  refine lv_goto (tgt := 15) hx hb dQ_value_11 (by decide) ?_
  exact bQ_value_15 hx hb hml hr hlocks hown hts hE hf (lv_sub hl [0, 1] rfl) hH
set_option maxHeartbeats 4000000 in
set_option maxRecDepth 100000 in
theorem cQ_value (l : Launch) (G : lc_G) {a1 : Int32} {r : Int32} {z z' : lc_S} (hf : fQ_value a1 z = some (r, z')) : lc_M l G yQ_value wQ_value 4 [.ref (lc_ad G 80), .int a1] z (some (.int r)) z' := by
  refine lc_M_of (cc := prog_10_method_54_code) (maxL := 2) (ret := (some .int)) (own := "LinearCellsModel") (by decide) rfl (fun w h => List.mem_cons_of_mem _ h) (Nat.le_of_ble_eq_true rfl) rfl ?_
  intro p e s m below meth c hx hb hml hr hlocks hown hts hE ls hl hH
  replace hl : lv_has ls 2 [(0, .ref (lc_ad G 80)), (1, .int a1)] := hl
  rw [fQ_value] at hf
  refine lv_aload_n hx hb dQ_value_0 rfl (lv_at hl 0 rfl) ?_
  refine lv_iload_n hx hb dQ_value_1 rfl (lv_at hl 1 rfl) ?_
  refine lv_if_lt (tgt := 10) hx hb dQ_value_2 (by decide) (fun hc => ?_) (fun hc => ?_)
  · replace hf := lc_ite_pos hc hf
    exact bQ_value_10 hx hb hml hr hlocks hown hts hE hf (lv_sub hl [0, 1] rfl) hH
  · replace hf := lc_ite_neg hc hf
    refine lv_iload_n hx hb dQ_value_5 rfl (lv_at hl 1 rfl) ?_
    refine lv_iconst (v := 3) hx hb dQ_value_6 (by decide) ?_
    refine lv_icmp_le (tgt := 14) hx hb dQ_value_7 (by decide) (fun hc => ?_) (fun hc => ?_)
    · replace hf := lc_ite_pos hc hf
      refine lv_iconst (v := 0) hx hb dQ_value_14 (by decide) ?_
      exact bQ_value_15 hx hb hml hr hlocks hown hts hE hf (lv_sub hl [0, 1] rfl) hH
    · replace hf := lc_ite_neg hc hf
      exact bQ_value_10 hx hb hml hr hlocks hown hts hE hf (lv_sub hl [0, 1] rfl) hH
theorem dQ_heap_0 : decode prog_10_method_55_code 0 = .ok (.aload_n 0, 1) := by decide +kernel
theorem dQ_heap_1 : decode prog_10_method_55_code 1 = .ok (.iload_n 1, 1) := by decide +kernel
theorem dQ_heap_2 : decode prog_10_method_55_code 2 = .ok (.ifCond .lt 8, 3) := by decide +kernel
theorem dQ_heap_5 : decode prog_10_method_55_code 5 = .ok (.iload_n 1, 1) := by decide +kernel
theorem dQ_heap_6 : decode prog_10_method_55_code 6 = .ok (.iconst 4, 1) := by decide +kernel
theorem dQ_heap_7 : decode prog_10_method_55_code 7 = .ok (.if_icmp .le 7, 3) := by decide +kernel
theorem dQ_heap_10 : decode prog_10_method_55_code 10 = .ok (.iconst 1, 1) := by decide +kernel
theorem dQ_heap_11 : decode prog_10_method_55_code 11 = .ok (.goto 4, 3) := by decide +kernel
theorem dQ_heap_14 : decode prog_10_method_55_code 14 = .ok (.iconst 0, 1) := by decide +kernel
theorem dQ_heap_15 : decode prog_10_method_55_code 15 = .ok (.putfield 135, 3) := by decide +kernel
theorem dQ_heap_18 : decode prog_10_method_55_code 18 = .ok (.aload_n 0, 1) := by decide +kernel
theorem dQ_heap_19 : decode prog_10_method_55_code 19 = .ok (.getfield 135, 3) := by decide +kernel
theorem dQ_heap_22 : decode prog_10_method_55_code 22 = .ok (.ifCond .le 5, 3) := by decide +kernel
theorem dQ_heap_25 : decode prog_10_method_55_code 25 = .ok (.iconst 0, 1) := by decide +kernel
theorem dQ_heap_26 : decode prog_10_method_55_code 26 = .ok (.ireturn, 1) := by decide +kernel
theorem dQ_heap_27 : decode prog_10_method_55_code 27 = .ok (.iconst 0, 1) := by decide +kernel
theorem dQ_heap_28 : decode prog_10_method_55_code 28 = .ok (.istore_n 2, 1) := by decide +kernel
theorem dQ_heap_29 : decode prog_10_method_55_code 29 = .ok (.iconst 0, 1) := by decide +kernel
theorem dQ_heap_30 : decode prog_10_method_55_code 30 = .ok (.istore_n 3, 1) := by decide +kernel
theorem dQ_heap_31 : decode prog_10_method_55_code 31 = .ok (.iload_n 3, 1) := by decide +kernel
theorem dQ_heap_32 : decode prog_10_method_55_code 32 = .ok (.bipush 12, 2) := by decide +kernel
theorem dQ_heap_34 : decode prog_10_method_55_code 34 = .ok (.if_icmp .ge 26, 3) := by decide +kernel
theorem dQ_heap_37 : decode prog_10_method_55_code 37 = .ok (.iload_n 2, 1) := by decide +kernel
theorem dQ_heap_38 : decode prog_10_method_55_code 38 = .ok (.aload_n 0, 1) := by decide +kernel
theorem dQ_heap_39 : decode prog_10_method_55_code 39 = .ok (.getfield 114, 3) := by decide +kernel
theorem dQ_heap_42 : decode prog_10_method_55_code 42 = .ok (.iload_n 3, 1) := by decide +kernel
theorem dQ_heap_43 : decode prog_10_method_55_code 43 = .ok (.baload, 1) := by decide +kernel
theorem dQ_heap_44 : decode prog_10_method_55_code 44 = .ok (.ifCond .eq 7, 3) := by decide +kernel
theorem dQ_heap_47 : decode prog_10_method_55_code 47 = .ok (.iconst 1, 1) := by decide +kernel
theorem dQ_heap_48 : decode prog_10_method_55_code 48 = .ok (.goto 4, 3) := by decide +kernel
theorem dQ_heap_51 : decode prog_10_method_55_code 51 = .ok (.iconst 0, 1) := by decide +kernel
theorem dQ_heap_52 : decode prog_10_method_55_code 52 = .ok (.iadd, 1) := by decide +kernel
theorem dQ_heap_53 : decode prog_10_method_55_code 53 = .ok (.istore_n 2, 1) := by decide +kernel
theorem dQ_heap_54 : decode prog_10_method_55_code 54 = .ok (.iinc 3 1, 3) := by decide +kernel
theorem dQ_heap_57 : decode prog_10_method_55_code 57 = .ok (.goto (-26), 3) := by decide +kernel
theorem dQ_heap_60 : decode prog_10_method_55_code 60 = .ok (.iload_n 1, 1) := by decide +kernel
theorem dQ_heap_61 : decode prog_10_method_55_code 61 = .ok (.ifCond .ne 7, 3) := by decide +kernel
theorem dQ_heap_64 : decode prog_10_method_55_code 64 = .ok (.iload_n 2, 1) := by decide +kernel
theorem dQ_heap_65 : decode prog_10_method_55_code 65 = .ok (.goto 43, 3) := by decide +kernel
theorem dQ_heap_68 : decode prog_10_method_55_code 68 = .ok (.iload_n 1, 1) := by decide +kernel
theorem dQ_heap_69 : decode prog_10_method_55_code 69 = .ok (.iconst 1, 1) := by decide +kernel
theorem dQ_heap_70 : decode prog_10_method_55_code 70 = .ok (.if_icmp .ne 10, 3) := by decide +kernel
theorem dQ_heap_73 : decode prog_10_method_55_code 73 = .ok (.aload_n 0, 1) := by decide +kernel
theorem dQ_heap_74 : decode prog_10_method_55_code 74 = .ok (.getfield 277, 3) := by decide +kernel
theorem dQ_heap_77 : decode prog_10_method_55_code 77 = .ok (.goto 31, 3) := by decide +kernel
theorem dQ_heap_80 : decode prog_10_method_55_code 80 = .ok (.iload_n 1, 1) := by decide +kernel
theorem dQ_heap_81 : decode prog_10_method_55_code 81 = .ok (.iconst 2, 1) := by decide +kernel
theorem dQ_heap_82 : decode prog_10_method_55_code 82 = .ok (.if_icmp .ne 10, 3) := by decide +kernel
theorem dQ_heap_85 : decode prog_10_method_55_code 85 = .ok (.aload_n 0, 1) := by decide +kernel
theorem dQ_heap_86 : decode prog_10_method_55_code 86 = .ok (.getfield 280, 3) := by decide +kernel
theorem dQ_heap_89 : decode prog_10_method_55_code 89 = .ok (.goto 19, 3) := by decide +kernel
theorem dQ_heap_92 : decode prog_10_method_55_code 92 = .ok (.iload_n 1, 1) := by decide +kernel
theorem dQ_heap_93 : decode prog_10_method_55_code 93 = .ok (.iconst 3, 1) := by decide +kernel
theorem dQ_heap_94 : decode prog_10_method_55_code 94 = .ok (.if_icmp .ne 10, 3) := by decide +kernel
theorem dQ_heap_97 : decode prog_10_method_55_code 97 = .ok (.aload_n 0, 1) := by decide +kernel
theorem dQ_heap_98 : decode prog_10_method_55_code 98 = .ok (.getfield 283, 3) := by decide +kernel
theorem dQ_heap_101 : decode prog_10_method_55_code 101 = .ok (.goto 7, 3) := by decide +kernel
theorem dQ_heap_104 : decode prog_10_method_55_code 104 = .ok (.aload_n 0, 1) := by decide +kernel
theorem dQ_heap_105 : decode prog_10_method_55_code 105 = .ok (.getfield 262, 3) := by decide +kernel
theorem dQ_heap_108 : decode prog_10_method_55_code 108 = .ok (.ireturn, 1) := by decide +kernel
def fQ_heap_52 (k31 : Int32 → Int32 → Int32 → lc_S → Option ((Int32) × lc_S)) (x1 : Int32) (x3 : Int32) (t0 : Int32) (t1 : Int32) (z : lc_S) : Option ((Int32) × lc_S) :=
  lc_let (t0 + t1) (fun x53 => lc_let (x3 + 1) (fun x54 => k31 x1 x53 x54 z))
def fQ_heap_31 : Nat → Int32 → Int32 → Int32 → lc_S → Option ((Int32) × lc_S)
  | 0, _, _, _, _ => none
  | n + 1, x1, x2, x3, z => if 12 ≤ x3 then (if x1 = 0 then (some (x2, z)) else (if x1 = 1 then (some (lcI z 80 49, z)) else (if x1 = 2 then (some (lcI z 80 50, z)) else (if x1 = 3 then (some (lcI z 80 53, z)) else (some (lcI z 80 48, z)))))) else (lc_chk (lc_in x3 12) (if (lcI z 115 x3.toNatClampNeg) = 0 then (fQ_heap_52 (fQ_heap_31 n) x1 x3 x2 0 z) else (fQ_heap_52 (fQ_heap_31 n) x1 x3 x2 1 z)))
def fQ_heap_15 (x1 : Int32) (t1 : Int32) (z : lc_S) : Option ((Int32) × lc_S) :=
  if (lcI (lcUI z 80 0 t1) 80 0) ≤ 0 then (fQ_heap_31 lc_FU x1 0 0 (lcUI z 80 0 t1)) else (some (0, lcUI z 80 0 t1))
def fQ_heap_10 (x1 : Int32) (z : lc_S) : Option ((Int32) × lc_S) :=
  fQ_heap_15 x1 1 z
def fQ_heap (a1 : Int32) (z : lc_S) : Option ((Int32) × lc_S) :=
  if a1 < 0 then (fQ_heap_10 a1 z) else (if a1 ≤ 4 then (fQ_heap_15 a1 0 z) else (fQ_heap_10 a1 z))
set_option maxHeartbeats 4000000 in
set_option maxRecDepth 100000 in
theorem bQ_heap_52 {p : Program} {l : Launch} {e : Env} {s : State} {m : MethodId} {args : Array Value} {below : List Frame} {meth : Method} {c : Code} {G : lc_G} (hx : p.tables.exec = Jvm.exec) (hb : c.code = prog_10_method_55_code) (hml : c.maxLocals = 4) (hr : meth.sig.returnType = (some .int)) (hlocks : meth.locks = false) (hown : s.vm.findClass "LinearCellsModel" = some m.cls) (hts : ∀ w ∈ lc_ALL, w.before args s = true) (hE : lc_E G s) {k31 : Int32 → Int32 → Int32 → lc_S → Option ((Int32) × lc_S)} {r : Int32} {z' : lc_S} (hk31 : ∀ {x1 : Int32} {x2 : Int32} {x3 : Int32} {z : lc_S} {H : Heap} {locs : List Loc} {ls : Array Slot}, k31 x1 x2 x3 z = some (r, z') → lv_has ls 4 [(0, .ref (lc_ad G 80)), (1, .int x1), (2, .int x2), (3, .int x3)] → lc_H G z s.heap H locs → W p l e (lc_rm 0) s m args below meth c H locs 0 0 (MQ below (lc_Q G (some (.int r)) z') args s 0 0 (lc_A G)) (F0 m 31 ls [])) : ∀ {x1 : Int32} {x3 : Int32} {t0 : Int32} {t1 : Int32} {z : lc_S} {H : Heap} {locs : List Loc} {ls : Array Slot}, fQ_heap_52 k31 x1 x3 t0 t1 z = some (r, z') → lv_has ls 4 [(0, .ref (lc_ad G 80)), (1, .int x1), (3, .int x3)] → lc_H G z s.heap H locs → W p l e (lc_rm 0) s m args below meth c H locs 0 0 (MQ below (lc_Q G (some (.int r)) z') args s 0 0 (lc_A G)) (F0 m 52 ls [.int t1, .int t0]) := by
  intro x1 x3 t0 t1 z H locs ls hf hl hH
  rw [fQ_heap_52] at hf
  refine lv_iadd hx hb dQ_heap_52 ?_
  refine lv_topi (fun x53 e53 => ?_)
  replace hf := lc_let_of e53 hf
  refine lv_istore_n hx hb dQ_heap_53 rfl hl (by decide) rfl (fun ls hl => ?_)
  replace hl : lv_has ls 4 [(2, .int x53), (0, .ref (lc_ad G 80)), (1, .int x1), (3, .int x3)] := hl
  obtain ⟨x54, e54⟩ : ∃ x : Int32, x = x3 + 1 := ⟨_, rfl⟩
  replace hf := lc_let_of e54 hf
  refine lv_iinc (k := 3) (v := x54) hx hb dQ_heap_54 hl rfl ((lc_incv _ (by decide)).trans e54.symm) (by decide) rfl (fun ls hl => ?_)
  replace hl : lv_has ls 4 [(3, .int x54), (2, .int x53), (0, .ref (lc_ad G 80)), (1, .int x1)] := hl
  refine lv_goto (tgt := 31) hx hb dQ_heap_57 (by decide) ?_
  exact hk31 hf (lv_sub hl [2, 3, 1, 0] rfl) hH
set_option maxHeartbeats 4000000 in
set_option maxRecDepth 100000 in
theorem bQ_heap_31 {p : Program} {l : Launch} {e : Env} {s : State} {m : MethodId} {args : Array Value} {below : List Frame} {meth : Method} {c : Code} {G : lc_G} (hx : p.tables.exec = Jvm.exec) (hb : c.code = prog_10_method_55_code) (hml : c.maxLocals = 4) (hr : meth.sig.returnType = (some .int)) (hlocks : meth.locks = false) (hown : s.vm.findClass "LinearCellsModel" = some m.cls) (hts : ∀ w ∈ lc_ALL, w.before args s = true) (hE : lc_E G s) {r : Int32} {z' : lc_S} : ∀ (n : Nat) {x1 : Int32} {x2 : Int32} {x3 : Int32} {z : lc_S} {H : Heap} {locs : List Loc} {ls : Array Slot}, fQ_heap_31 n x1 x2 x3 z = some (r, z') → lv_has ls 4 [(0, .ref (lc_ad G 80)), (1, .int x1), (2, .int x2), (3, .int x3)] → lc_H G z s.heap H locs → W p l e (lc_rm 0) s m args below meth c H locs 0 0 (MQ below (lc_Q G (some (.int r)) z') args s 0 0 (lc_A G)) (F0 m 31 ls []) := by
  intro n
  induction n with
  | zero =>
    intro x1 x2 x3 z H locs ls hf hl hH
    exact absurd (show (none : Option ((Int32) × lc_S)) = some (r, z') from hf) (fun h => by cases h)
  | succ n ih =>
    intro x1 x2 x3 z H locs ls hf hl hH
    rw [fQ_heap_31] at hf
    refine lv_iload_n hx hb dQ_heap_31 rfl (lv_at hl 3 rfl) ?_
    refine lv_bipush (v := 12) hx hb dQ_heap_32 (by decide) ?_
    refine lv_icmp_ge (tgt := 60) hx hb dQ_heap_34 (by decide) (fun hc => ?_) (fun hc => ?_)
    · replace hf := lc_ite_pos hc hf
      refine lv_iload_n hx hb dQ_heap_60 rfl (lv_at hl 1 rfl) ?_
      refine lv_if_ne (tgt := 68) hx hb dQ_heap_61 (by decide) (fun hc => ?_) (fun hc => ?_)
      · replace hf := lc_ite_neg hc hf
        refine lv_iload_n hx hb dQ_heap_68 rfl (lv_at hl 1 rfl) ?_
        refine lv_iconst (v := 1) hx hb dQ_heap_69 (by decide) ?_
        refine lv_icmp_ne (tgt := 80) hx hb dQ_heap_70 (by decide) (fun hc => ?_) (fun hc => ?_)
        · replace hf := lc_ite_neg hc hf
          refine lv_iload_n hx hb dQ_heap_80 rfl (lv_at hl 1 rfl) ?_
          refine lv_iconst (v := 2) hx hb dQ_heap_81 (by decide) ?_
          refine lv_icmp_ne (tgt := 92) hx hb dQ_heap_82 (by decide) (fun hc => ?_) (fun hc => ?_)
          · replace hf := lc_ite_neg hc hf
            refine lv_iload_n hx hb dQ_heap_92 rfl (lv_at hl 1 rfl) ?_
            refine lv_iconst (v := 3) hx hb dQ_heap_93 (by decide) ?_
            refine lv_icmp_ne (tgt := 104) hx hb dQ_heap_94 (by decide) (fun hc => ?_) (fun hc => ?_)
            · replace hf := lc_ite_neg hc hf
              refine lv_aload_n hx hb dQ_heap_104 rfl (lv_at hl 0 rfl) ?_
              refine lc_geti hx hb hts hown hE hH flQ_262 lc_h80 rfl dQ_heap_105 ?_
              exact lc_iret hx hb hr hlocks hH hf dQ_heap_108
            · replace hf := lc_ite_pos hc hf
              refine lv_aload_n hx hb dQ_heap_97 rfl (lv_at hl 0 rfl) ?_
              refine lc_geti hx hb hts hown hE hH flQ_283 lc_h80 rfl dQ_heap_98 ?_
              refine lv_goto (tgt := 108) hx hb dQ_heap_101 (by decide) ?_
              exact lc_iret hx hb hr hlocks hH hf dQ_heap_108
          · replace hf := lc_ite_pos hc hf
            refine lv_aload_n hx hb dQ_heap_85 rfl (lv_at hl 0 rfl) ?_
            refine lc_geti hx hb hts hown hE hH flQ_280 lc_h80 rfl dQ_heap_86 ?_
            refine lv_goto (tgt := 108) hx hb dQ_heap_89 (by decide) ?_
            exact lc_iret hx hb hr hlocks hH hf dQ_heap_108
        · replace hf := lc_ite_pos hc hf
          refine lv_aload_n hx hb dQ_heap_73 rfl (lv_at hl 0 rfl) ?_
          refine lc_geti hx hb hts hown hE hH flQ_277 lc_h80 rfl dQ_heap_74 ?_
          refine lv_goto (tgt := 108) hx hb dQ_heap_77 (by decide) ?_
          exact lc_iret hx hb hr hlocks hH hf dQ_heap_108
      · replace hf := lc_ite_pos hc hf
        refine lv_iload_n hx hb dQ_heap_64 rfl (lv_at hl 2 rfl) ?_
        refine lv_goto (tgt := 108) hx hb dQ_heap_65 (by decide) ?_
        exact lc_iret hx hb hr hlocks hH hf dQ_heap_108
    · replace hf := lc_ite_neg hc hf
      refine lv_iload_n hx hb dQ_heap_37 rfl (lv_at hl 2 rfl) ?_
      refine lv_aload_n hx hb dQ_heap_38 rfl (lv_at hl 0 rfl) ?_
      refine lc_getf (d := 35) (q := 115) hx hb hts hown hE hH flQ_114 lc_h80 rfl rfl dQ_heap_39 ?_
      refine lv_iload_n hx hb dQ_heap_42 rfl (lv_at hl 3 rfl) ?_
      obtain ⟨hi43, hf⟩ := lc_chk_some hf
      refine lc_zald hx hb hE hH lc_h115 rfl hi43 dQ_heap_43 ?_
      refine lv_if_eq (tgt := 51) hx hb dQ_heap_44 (by decide) (fun hc => ?_) (fun hc => ?_)
      · replace hf := lc_ite_pos hc hf
        refine lv_iconst (v := 0) hx hb dQ_heap_51 (by decide) ?_
        exact bQ_heap_52 hx hb hml hr hlocks hown hts hE (fun hf hl hH => ih hf hl hH) hf (lv_sub hl [0, 1, 3] rfl) hH
      · replace hf := lc_ite_neg hc hf
        refine lv_iconst (v := 1) hx hb dQ_heap_47 (by decide) ?_
        refine lv_goto (tgt := 52) hx hb dQ_heap_48 (by decide) ?_
        exact bQ_heap_52 hx hb hml hr hlocks hown hts hE (fun hf hl hH => ih hf hl hH) hf (lv_sub hl [0, 1, 3] rfl) hH
set_option maxHeartbeats 4000000 in
set_option maxRecDepth 100000 in
theorem bQ_heap_15 {p : Program} {l : Launch} {e : Env} {s : State} {m : MethodId} {args : Array Value} {below : List Frame} {meth : Method} {c : Code} {G : lc_G} (hx : p.tables.exec = Jvm.exec) (hb : c.code = prog_10_method_55_code) (hml : c.maxLocals = 4) (hr : meth.sig.returnType = (some .int)) (hlocks : meth.locks = false) (hown : s.vm.findClass "LinearCellsModel" = some m.cls) (hts : ∀ w ∈ lc_ALL, w.before args s = true) (hE : lc_E G s) {r : Int32} {z' : lc_S} : ∀ {x1 : Int32} {t1 : Int32} {z : lc_S} {H : Heap} {locs : List Loc} {ls : Array Slot}, fQ_heap_15 x1 t1 z = some (r, z') → lv_has ls 4 [(0, .ref (lc_ad G 80)), (1, .int x1)] → lc_H G z s.heap H locs → W p l e (lc_rm 0) s m args below meth c H locs 0 0 (MQ below (lc_Q G (some (.int r)) z') args s 0 0 (lc_A G)) (F0 m 15 ls [.int t1, .ref (lc_ad G 80)]) := by
  intro x1 t1 z H locs ls hf hl hH
  rw [fQ_heap_15] at hf
  refine lc_puti hx hb hts hown hE hH fpQ_135 lc_h80 rfl rfl rfl dQ_heap_15 (fun H locs hH => ?_)
  refine lv_aload_n hx hb dQ_heap_18 rfl (lv_at hl 0 rfl) ?_
  refine lc_geti hx hb hts hown hE hH flQ_135 lc_h80 rfl dQ_heap_19 ?_
  refine lv_if_le (tgt := 27) hx hb dQ_heap_22 (by decide) (fun hc => ?_) (fun hc => ?_)
  · replace hf := lc_ite_pos hc hf
    refine lv_iconst (v := 0) hx hb dQ_heap_27 (by decide) ?_
    refine lv_istore_n hx hb dQ_heap_28 rfl hl (by decide) rfl (fun ls hl => ?_)
    replace hl : lv_has ls 4 [(2, .int 0), (0, .ref (lc_ad G 80)), (1, .int x1)] := hl
    refine lv_iconst (v := 0) hx hb dQ_heap_29 (by decide) ?_
    refine lv_istore_n hx hb dQ_heap_30 rfl hl (by decide) rfl (fun ls hl => ?_)
    replace hl : lv_has ls 4 [(3, .int 0), (2, .int 0), (0, .ref (lc_ad G 80)), (1, .int x1)] := hl
    exact bQ_heap_31 hx hb hml hr hlocks hown hts hE _ hf (lv_sub hl [2, 3, 1, 0] rfl) hH
  · replace hf := lc_ite_neg hc hf
    refine lv_iconst (v := 0) hx hb dQ_heap_25 (by decide) ?_
    exact lc_iret hx hb hr hlocks hH hf dQ_heap_26
set_option maxHeartbeats 4000000 in
set_option maxRecDepth 100000 in
theorem bQ_heap_10 {p : Program} {l : Launch} {e : Env} {s : State} {m : MethodId} {args : Array Value} {below : List Frame} {meth : Method} {c : Code} {G : lc_G} (hx : p.tables.exec = Jvm.exec) (hb : c.code = prog_10_method_55_code) (hml : c.maxLocals = 4) (hr : meth.sig.returnType = (some .int)) (hlocks : meth.locks = false) (hown : s.vm.findClass "LinearCellsModel" = some m.cls) (hts : ∀ w ∈ lc_ALL, w.before args s = true) (hE : lc_E G s) {r : Int32} {z' : lc_S} : ∀ {x1 : Int32} {z : lc_S} {H : Heap} {locs : List Loc} {ls : Array Slot}, fQ_heap_10 x1 z = some (r, z') → lv_has ls 4 [(0, .ref (lc_ad G 80)), (1, .int x1)] → lc_H G z s.heap H locs → W p l e (lc_rm 0) s m args below meth c H locs 0 0 (MQ below (lc_Q G (some (.int r)) z') args s 0 0 (lc_A G)) (F0 m 10 ls [.ref (lc_ad G 80)]) := by
  intro x1 z H locs ls hf hl hH
  rw [fQ_heap_10] at hf
  refine lv_iconst (v := 1) hx hb dQ_heap_10 (by decide) ?_
  refine lv_goto (tgt := 15) hx hb dQ_heap_11 (by decide) ?_
  exact bQ_heap_15 hx hb hml hr hlocks hown hts hE hf (lv_sub hl [0, 1] rfl) hH
set_option maxHeartbeats 4000000 in
set_option maxRecDepth 100000 in
theorem cQ_heap (l : Launch) (G : lc_G) {a1 : Int32} {r : Int32} {z z' : lc_S} (hf : fQ_heap a1 z = some (r, z')) : lc_M l G yQ_heap wQ_heap 0 [.ref (lc_ad G 80), .int a1] z (some (.int r)) z' := by
  refine lc_M_of (cc := prog_10_method_55_code) (maxL := 4) (ret := (some .int)) (own := "LinearCellsModel") (by decide) rfl (fun w h => List.mem_cons_of_mem _ h) (Nat.le_of_ble_eq_true rfl) rfl ?_
  intro p e s m below meth c hx hb hml hr hlocks hown hts hE ls hl hH
  replace hl : lv_has ls 4 [(0, .ref (lc_ad G 80)), (1, .int a1)] := hl
  rw [fQ_heap] at hf
  refine lv_aload_n hx hb dQ_heap_0 rfl (lv_at hl 0 rfl) ?_
  refine lv_iload_n hx hb dQ_heap_1 rfl (lv_at hl 1 rfl) ?_
  refine lv_if_lt (tgt := 10) hx hb dQ_heap_2 (by decide) (fun hc => ?_) (fun hc => ?_)
  · replace hf := lc_ite_pos hc hf
    exact bQ_heap_10 hx hb hml hr hlocks hown hts hE hf (lv_sub hl [0, 1] rfl) hH
  · replace hf := lc_ite_neg hc hf
    refine lv_iload_n hx hb dQ_heap_5 rfl (lv_at hl 1 rfl) ?_
    refine lv_iconst (v := 4) hx hb dQ_heap_6 (by decide) ?_
    refine lv_icmp_le (tgt := 14) hx hb dQ_heap_7 (by decide) (fun hc => ?_) (fun hc => ?_)
    · replace hf := lc_ite_pos hc hf
      refine lv_iconst (v := 0) hx hb dQ_heap_14 (by decide) ?_
      exact bQ_heap_15 hx hb hml hr hlocks hown hts hE hf (lv_sub hl [0, 1] rfl) hH
    · replace hf := lc_ite_neg hc hf
      exact bQ_heap_10 hx hb hml hr hlocks hown hts hE hf (lv_sub hl [0, 1] rfl) hH
theorem dQ_cell_0 : decode prog_10_method_56_code 0 = .ok (.aload_n 0, 1) := by decide +kernel
theorem dQ_cell_1 : decode prog_10_method_56_code 1 = .ok (.iload_n 1, 1) := by decide +kernel
theorem dQ_cell_2 : decode prog_10_method_56_code 2 = .ok (.ifCond .lt 18, 3) := by decide +kernel
theorem dQ_cell_5 : decode prog_10_method_56_code 5 = .ok (.iload_n 1, 1) := by decide +kernel
theorem dQ_cell_6 : decode prog_10_method_56_code 6 = .ok (.bipush 11, 2) := by decide +kernel
theorem dQ_cell_8 : decode prog_10_method_56_code 8 = .ok (.if_icmp .gt 12, 3) := by decide +kernel
theorem dQ_cell_11 : decode prog_10_method_56_code 11 = .ok (.aload_n 0, 1) := by decide +kernel
theorem dQ_cell_12 : decode prog_10_method_56_code 12 = .ok (.getfield 114, 3) := by decide +kernel
theorem dQ_cell_15 : decode prog_10_method_56_code 15 = .ok (.iload_n 1, 1) := by decide +kernel
theorem dQ_cell_16 : decode prog_10_method_56_code 16 = .ok (.baload, 1) := by decide +kernel
theorem dQ_cell_17 : decode prog_10_method_56_code 17 = .ok (.ifCond .ne 7, 3) := by decide +kernel
theorem dQ_cell_20 : decode prog_10_method_56_code 20 = .ok (.iconst 1, 1) := by decide +kernel
theorem dQ_cell_21 : decode prog_10_method_56_code 21 = .ok (.goto 4, 3) := by decide +kernel
theorem dQ_cell_24 : decode prog_10_method_56_code 24 = .ok (.iconst 0, 1) := by decide +kernel
theorem dQ_cell_25 : decode prog_10_method_56_code 25 = .ok (.putfield 135, 3) := by decide +kernel
theorem dQ_cell_28 : decode prog_10_method_56_code 28 = .ok (.aload_n 0, 1) := by decide +kernel
theorem dQ_cell_29 : decode prog_10_method_56_code 29 = .ok (.getfield 135, 3) := by decide +kernel
theorem dQ_cell_32 : decode prog_10_method_56_code 32 = .ok (.ifCond .le 7, 3) := by decide +kernel
theorem dQ_cell_35 : decode prog_10_method_56_code 35 = .ok (.iconst 0, 1) := by decide +kernel
theorem dQ_cell_36 : decode prog_10_method_56_code 36 = .ok (.goto 9, 3) := by decide +kernel
theorem dQ_cell_39 : decode prog_10_method_56_code 39 = .ok (.aload_n 0, 1) := by decide +kernel
theorem dQ_cell_40 : decode prog_10_method_56_code 40 = .ok (.getfield 117, 3) := by decide +kernel
theorem dQ_cell_43 : decode prog_10_method_56_code 43 = .ok (.iload_n 1, 1) := by decide +kernel
theorem dQ_cell_44 : decode prog_10_method_56_code 44 = .ok (.iaload, 1) := by decide +kernel
theorem dQ_cell_45 : decode prog_10_method_56_code 45 = .ok (.ireturn, 1) := by decide +kernel
def fQ_cell_25 (x1 : Int32) (t1 : Int32) (z : lc_S) : Option ((Int32) × lc_S) :=
  if (lcI (lcUI z 80 0 t1) 80 0) ≤ 0 then (lc_chk (lc_in x1 12) (some (lcI (lcUI z 80 0 t1) 116 x1.toNatClampNeg, lcUI z 80 0 t1))) else (some (0, lcUI z 80 0 t1))
def fQ_cell_20 (x1 : Int32) (z : lc_S) : Option ((Int32) × lc_S) :=
  fQ_cell_25 x1 1 z
def fQ_cell (a1 : Int32) (z : lc_S) : Option ((Int32) × lc_S) :=
  if a1 < 0 then (fQ_cell_20 a1 z) else (if 11 < a1 then (fQ_cell_20 a1 z) else (lc_chk (lc_in a1 12) (if (lcI z 115 a1.toNatClampNeg) = 0 then (fQ_cell_20 a1 z) else (fQ_cell_25 a1 0 z))))
set_option maxHeartbeats 4000000 in
set_option maxRecDepth 100000 in
theorem bQ_cell_25 {p : Program} {l : Launch} {e : Env} {s : State} {m : MethodId} {args : Array Value} {below : List Frame} {meth : Method} {c : Code} {G : lc_G} (hx : p.tables.exec = Jvm.exec) (hb : c.code = prog_10_method_56_code) (hml : c.maxLocals = 2) (hr : meth.sig.returnType = (some .int)) (hlocks : meth.locks = false) (hown : s.vm.findClass "LinearCellsModel" = some m.cls) (hts : ∀ w ∈ lc_ALL, w.before args s = true) (hE : lc_E G s) {r : Int32} {z' : lc_S} : ∀ {x1 : Int32} {t1 : Int32} {z : lc_S} {H : Heap} {locs : List Loc} {ls : Array Slot}, fQ_cell_25 x1 t1 z = some (r, z') → lv_has ls 2 [(0, .ref (lc_ad G 80)), (1, .int x1)] → lc_H G z s.heap H locs → W p l e (lc_rm 0) s m args below meth c H locs 0 0 (MQ below (lc_Q G (some (.int r)) z') args s 0 0 (lc_A G)) (F0 m 25 ls [.int t1, .ref (lc_ad G 80)]) := by
  intro x1 t1 z H locs ls hf hl hH
  rw [fQ_cell_25] at hf
  refine lc_puti hx hb hts hown hE hH fpQ_135 lc_h80 rfl rfl rfl dQ_cell_25 (fun H locs hH => ?_)
  refine lv_aload_n hx hb dQ_cell_28 rfl (lv_at hl 0 rfl) ?_
  refine lc_geti hx hb hts hown hE hH flQ_135 lc_h80 rfl dQ_cell_29 ?_
  refine lv_if_le (tgt := 39) hx hb dQ_cell_32 (by decide) (fun hc => ?_) (fun hc => ?_)
  · replace hf := lc_ite_pos hc hf
    refine lv_aload_n hx hb dQ_cell_39 rfl (lv_at hl 0 rfl) ?_
    refine lc_getf (d := 36) (q := 116) hx hb hts hown hE hH flQ_117 lc_h80 rfl rfl dQ_cell_40 ?_
    refine lv_iload_n hx hb dQ_cell_43 rfl (lv_at hl 1 rfl) ?_
    obtain ⟨hi44, hf⟩ := lc_chk_some hf
    refine lc_iald hx hb hE hH lc_h116 rfl hi44 dQ_cell_44 ?_
    exact lc_iret hx hb hr hlocks hH hf dQ_cell_45
  · replace hf := lc_ite_neg hc hf
    refine lv_iconst (v := 0) hx hb dQ_cell_35 (by decide) ?_
    refine lv_goto (tgt := 45) hx hb dQ_cell_36 (by decide) ?_
    exact lc_iret hx hb hr hlocks hH hf dQ_cell_45
set_option maxHeartbeats 4000000 in
set_option maxRecDepth 100000 in
theorem bQ_cell_20 {p : Program} {l : Launch} {e : Env} {s : State} {m : MethodId} {args : Array Value} {below : List Frame} {meth : Method} {c : Code} {G : lc_G} (hx : p.tables.exec = Jvm.exec) (hb : c.code = prog_10_method_56_code) (hml : c.maxLocals = 2) (hr : meth.sig.returnType = (some .int)) (hlocks : meth.locks = false) (hown : s.vm.findClass "LinearCellsModel" = some m.cls) (hts : ∀ w ∈ lc_ALL, w.before args s = true) (hE : lc_E G s) {r : Int32} {z' : lc_S} : ∀ {x1 : Int32} {z : lc_S} {H : Heap} {locs : List Loc} {ls : Array Slot}, fQ_cell_20 x1 z = some (r, z') → lv_has ls 2 [(0, .ref (lc_ad G 80)), (1, .int x1)] → lc_H G z s.heap H locs → W p l e (lc_rm 0) s m args below meth c H locs 0 0 (MQ below (lc_Q G (some (.int r)) z') args s 0 0 (lc_A G)) (F0 m 20 ls [.ref (lc_ad G 80)]) := by
  intro x1 z H locs ls hf hl hH
  rw [fQ_cell_20] at hf
  refine lv_iconst (v := 1) hx hb dQ_cell_20 (by decide) ?_
  refine lv_goto (tgt := 25) hx hb dQ_cell_21 (by decide) ?_
  exact bQ_cell_25 hx hb hml hr hlocks hown hts hE hf (lv_sub hl [0, 1] rfl) hH
set_option maxHeartbeats 4000000 in
set_option maxRecDepth 100000 in
theorem cQ_cell (l : Launch) (G : lc_G) {a1 : Int32} {r : Int32} {z z' : lc_S} (hf : fQ_cell a1 z = some (r, z')) : lc_M l G yQ_cell wQ_cell 0 [.ref (lc_ad G 80), .int a1] z (some (.int r)) z' := by
  refine lc_M_of (cc := prog_10_method_56_code) (maxL := 2) (ret := (some .int)) (own := "LinearCellsModel") (by decide) rfl (fun w h => List.mem_cons_of_mem _ h) (Nat.le_of_ble_eq_true rfl) rfl ?_
  intro p e s m below meth c hx hb hml hr hlocks hown hts hE ls hl hH
  replace hl : lv_has ls 2 [(0, .ref (lc_ad G 80)), (1, .int a1)] := hl
  rw [fQ_cell] at hf
  refine lv_aload_n hx hb dQ_cell_0 rfl (lv_at hl 0 rfl) ?_
  refine lv_iload_n hx hb dQ_cell_1 rfl (lv_at hl 1 rfl) ?_
  refine lv_if_lt (tgt := 20) hx hb dQ_cell_2 (by decide) (fun hc => ?_) (fun hc => ?_)
  · replace hf := lc_ite_pos hc hf
    exact bQ_cell_20 hx hb hml hr hlocks hown hts hE hf (lv_sub hl [0, 1] rfl) hH
  · replace hf := lc_ite_neg hc hf
    refine lv_iload_n hx hb dQ_cell_5 rfl (lv_at hl 1 rfl) ?_
    refine lv_bipush (v := 11) hx hb dQ_cell_6 (by decide) ?_
    refine lv_icmp_gt (tgt := 20) hx hb dQ_cell_8 (by decide) (fun hc => ?_) (fun hc => ?_)
    · replace hf := lc_ite_pos hc hf
      exact bQ_cell_20 hx hb hml hr hlocks hown hts hE hf (lv_sub hl [0, 1] rfl) hH
    · replace hf := lc_ite_neg hc hf
      refine lv_aload_n hx hb dQ_cell_11 rfl (lv_at hl 0 rfl) ?_
      refine lc_getf (d := 35) (q := 115) hx hb hts hown hE hH flQ_114 lc_h80 rfl rfl dQ_cell_12 ?_
      refine lv_iload_n hx hb dQ_cell_15 rfl (lv_at hl 1 rfl) ?_
      obtain ⟨hi16, hf⟩ := lc_chk_some hf
      refine lc_zald hx hb hE hH lc_h115 rfl hi16 dQ_cell_16 ?_
      refine lv_if_ne (tgt := 24) hx hb dQ_cell_17 (by decide) (fun hc => ?_) (fun hc => ?_)
      · replace hf := lc_ite_neg hc hf
        refine lv_iconst (v := 0) hx hb dQ_cell_24 (by decide) ?_
        exact bQ_cell_25 hx hb hml hr hlocks hown hts hE hf (lv_sub hl [0, 1] rfl) hH
      · replace hf := lc_ite_pos hc hf
        exact bQ_cell_20 hx hb hml hr hlocks hown hts hE hf (lv_sub hl [0, 1] rfl) hH
