theorem dQ_peek_0 : decode prog_10_method_5_code 0 = .ok (.aload_n 0, 1) := by decide +kernel
theorem dQ_peek_1 : decode prog_10_method_5_code 1 = .ok (.getfield 148, 3) := by decide +kernel
theorem dQ_peek_4 : decode prog_10_method_5_code 4 = .ok (.aload_n 0, 1) := by decide +kernel
theorem dQ_peek_5 : decode prog_10_method_5_code 5 = .ok (.getfield 145, 3) := by decide +kernel
theorem dQ_peek_8 : decode prog_10_method_5_code 8 = .ok (.if_icmp .ge 30, 3) := by decide +kernel
theorem dQ_peek_11 : decode prog_10_method_5_code 11 = .ok (.aload_n 0, 1) := by decide +kernel
theorem dQ_peek_12 : decode prog_10_method_5_code 12 = .ok (.getfield 7, 3) := by decide +kernel
theorem dQ_peek_15 : decode prog_10_method_5_code 15 = .ok (.aload_n 0, 1) := by decide +kernel
theorem dQ_peek_16 : decode prog_10_method_5_code 16 = .ok (.getfield 148, 3) := by decide +kernel
theorem dQ_peek_19 : decode prog_10_method_5_code 19 = .ok (.iaload, 1) := by decide +kernel
theorem dQ_peek_20 : decode prog_10_method_5_code 20 = .ok (.bipush 32, 2) := by decide +kernel
theorem dQ_peek_22 : decode prog_10_method_5_code 22 = .ok (.if_icmp .ne 16, 3) := by decide +kernel
theorem dQ_peek_25 : decode prog_10_method_5_code 25 = .ok (.aload_n 0, 1) := by decide +kernel
theorem dQ_peek_26 : decode prog_10_method_5_code 26 = .ok (.dup, 1) := by decide +kernel
theorem dQ_peek_27 : decode prog_10_method_5_code 27 = .ok (.getfield 148, 3) := by decide +kernel
theorem dQ_peek_30 : decode prog_10_method_5_code 30 = .ok (.iconst 1, 1) := by decide +kernel
theorem dQ_peek_31 : decode prog_10_method_5_code 31 = .ok (.iadd, 1) := by decide +kernel
theorem dQ_peek_32 : decode prog_10_method_5_code 32 = .ok (.putfield 148, 3) := by decide +kernel
theorem dQ_peek_35 : decode prog_10_method_5_code 35 = .ok (.goto (-35), 3) := by decide +kernel
theorem dQ_peek_38 : decode prog_10_method_5_code 38 = .ok (.aload_n 0, 1) := by decide +kernel
theorem dQ_peek_39 : decode prog_10_method_5_code 39 = .ok (.getfield 148, 3) := by decide +kernel
theorem dQ_peek_42 : decode prog_10_method_5_code 42 = .ok (.aload_n 0, 1) := by decide +kernel
theorem dQ_peek_43 : decode prog_10_method_5_code 43 = .ok (.getfield 145, 3) := by decide +kernel
theorem dQ_peek_46 : decode prog_10_method_5_code 46 = .ok (.if_icmp .ge 15, 3) := by decide +kernel
theorem dQ_peek_49 : decode prog_10_method_5_code 49 = .ok (.aload_n 0, 1) := by decide +kernel
theorem dQ_peek_50 : decode prog_10_method_5_code 50 = .ok (.getfield 7, 3) := by decide +kernel
theorem dQ_peek_53 : decode prog_10_method_5_code 53 = .ok (.aload_n 0, 1) := by decide +kernel
theorem dQ_peek_54 : decode prog_10_method_5_code 54 = .ok (.getfield 148, 3) := by decide +kernel
theorem dQ_peek_57 : decode prog_10_method_5_code 57 = .ok (.iaload, 1) := by decide +kernel
theorem dQ_peek_58 : decode prog_10_method_5_code 58 = .ok (.goto 4, 3) := by decide +kernel
theorem dQ_peek_61 : decode prog_10_method_5_code 61 = .ok (.iconst 0, 1) := by decide +kernel
theorem dQ_peek_62 : decode prog_10_method_5_code 62 = .ok (.ireturn, 1) := by decide +kernel
def fQ_peek_38 (z : lc_S) : Option ((Int32) × lc_S) :=
  if (lcI z 80 1) ≤ (lcI z 80 13) then (some (0, z)) else (lc_chk (lc_in (lcI z 80 13) 120) (some (lcI z 81 (lcI z 80 13).toNatClampNeg, z)))
def fQ_peek_0 : Nat → lc_S → Option ((Int32) × lc_S)
  | 0, _ => none
  | n + 1, z => if (lcI z 80 1) ≤ (lcI z 80 13) then (fQ_peek_38 z) else (lc_chk (lc_in (lcI z 80 13) 120) (if (lcI z 81 (lcI z 80 13).toNatClampNeg) = 32 then (fQ_peek_0 n (lcUI z 80 13 ((lcI z 80 13) + 1))) else (fQ_peek_38 z)))
def fQ_peek (z : lc_S) : Option ((Int32) × lc_S) :=
  fQ_peek_0 lc_FU z
set_option maxHeartbeats 4000000 in
set_option maxRecDepth 100000 in
theorem bQ_peek_38 {p : Program} {l : Launch} {e : Env} {s : State} {m : MethodId} {args : Array Value} {below : List Frame} {meth : Method} {c : Code} {G : lc_G} (hx : p.tables.exec = Jvm.exec) (hb : c.code = prog_10_method_5_code) (hml : c.maxLocals = 1) (hr : meth.sig.returnType = (some .int)) (hlocks : meth.locks = false) (hown : s.vm.findClass "LinearCellsModel" = some m.cls) (hts : ∀ w ∈ lc_ALL, w.before args s = true) (hE : lc_E G s) {r : Int32} {z' : lc_S} : ∀ {z : lc_S} {H : Heap} {locs : List Loc} {ls : Array Slot}, fQ_peek_38 z = some (r, z') → lv_has ls 1 [(0, .ref (lc_ad G 80))] → lc_H G z s.heap H locs → W p l e (lc_rm 0) s m args below meth c H locs 0 0 (MQ below (lc_Q G (some (.int r)) z') args s 0 0 (lc_A G)) (F0 m 38 ls []) := by
  intro z H locs ls hf hl hH
  rw [fQ_peek_38] at hf
  refine lv_aload_n hx hb dQ_peek_38 rfl (lv_at hl 0 rfl) ?_
  refine lc_geti hx hb hts hown hE hH flQ_148 lc_h80 rfl dQ_peek_39 ?_
  refine lv_aload_n hx hb dQ_peek_42 rfl (lv_at hl 0 rfl) ?_
  refine lc_geti hx hb hts hown hE hH flQ_145 lc_h80 rfl dQ_peek_43 ?_
  refine lv_icmp_ge (tgt := 61) hx hb dQ_peek_46 (by decide) (fun hc => ?_) (fun hc => ?_)
  · replace hf := lc_ite_pos hc hf
    refine lv_iconst (v := 0) hx hb dQ_peek_61 (by decide) ?_
    exact lc_iret hx hb hr hlocks hH hf dQ_peek_62
  · replace hf := lc_ite_neg hc hf
    refine lv_aload_n hx hb dQ_peek_49 rfl (lv_at hl 0 rfl) ?_
    refine lc_getf (d := 1) (q := 81) hx hb hts hown hE hH flQ_7 lc_h80 rfl rfl dQ_peek_50 ?_
    refine lv_aload_n hx hb dQ_peek_53 rfl (lv_at hl 0 rfl) ?_
    refine lc_geti hx hb hts hown hE hH flQ_148 lc_h80 rfl dQ_peek_54 ?_
    obtain ⟨hi57, hf⟩ := lc_chk_some hf
    refine lc_iald hx hb hE hH lc_h81 rfl hi57 dQ_peek_57 ?_
    refine lv_goto (tgt := 62) hx hb dQ_peek_58 (by decide) ?_
    exact lc_iret hx hb hr hlocks hH hf dQ_peek_62
set_option maxHeartbeats 4000000 in
set_option maxRecDepth 100000 in
theorem bQ_peek_0 {p : Program} {l : Launch} {e : Env} {s : State} {m : MethodId} {args : Array Value} {below : List Frame} {meth : Method} {c : Code} {G : lc_G} (hx : p.tables.exec = Jvm.exec) (hb : c.code = prog_10_method_5_code) (hml : c.maxLocals = 1) (hr : meth.sig.returnType = (some .int)) (hlocks : meth.locks = false) (hown : s.vm.findClass "LinearCellsModel" = some m.cls) (hts : ∀ w ∈ lc_ALL, w.before args s = true) (hE : lc_E G s) {r : Int32} {z' : lc_S} : ∀ (n : Nat) {z : lc_S} {H : Heap} {locs : List Loc} {ls : Array Slot}, fQ_peek_0 n z = some (r, z') → lv_has ls 1 [(0, .ref (lc_ad G 80))] → lc_H G z s.heap H locs → W p l e (lc_rm 0) s m args below meth c H locs 0 0 (MQ below (lc_Q G (some (.int r)) z') args s 0 0 (lc_A G)) (F0 m 0 ls []) := by
  intro n
  induction n with
  | zero =>
    intro z H locs ls hf hl hH
    exact absurd (show (none : Option ((Int32) × lc_S)) = some (r, z') from hf) (fun h => by cases h)
  | succ n ih =>
    intro z H locs ls hf hl hH
    rw [fQ_peek_0] at hf
    refine lv_aload_n hx hb dQ_peek_0 rfl (lv_at hl 0 rfl) ?_
    refine lc_geti hx hb hts hown hE hH flQ_148 lc_h80 rfl dQ_peek_1 ?_
    refine lv_aload_n hx hb dQ_peek_4 rfl (lv_at hl 0 rfl) ?_
    refine lc_geti hx hb hts hown hE hH flQ_145 lc_h80 rfl dQ_peek_5 ?_
    refine lv_icmp_ge (tgt := 38) hx hb dQ_peek_8 (by decide) (fun hc => ?_) (fun hc => ?_)
    · replace hf := lc_ite_pos hc hf
      exact bQ_peek_38 hx hb hml hr hlocks hown hts hE hf (lv_sub hl [0] rfl) hH
    · replace hf := lc_ite_neg hc hf
      refine lv_aload_n hx hb dQ_peek_11 rfl (lv_at hl 0 rfl) ?_
      refine lc_getf (d := 1) (q := 81) hx hb hts hown hE hH flQ_7 lc_h80 rfl rfl dQ_peek_12 ?_
      refine lv_aload_n hx hb dQ_peek_15 rfl (lv_at hl 0 rfl) ?_
      refine lc_geti hx hb hts hown hE hH flQ_148 lc_h80 rfl dQ_peek_16 ?_
      obtain ⟨hi19, hf⟩ := lc_chk_some hf
      refine lc_iald hx hb hE hH lc_h81 rfl hi19 dQ_peek_19 ?_
      refine lv_bipush (v := 32) hx hb dQ_peek_20 (by decide) ?_
      refine lv_icmp_ne (tgt := 38) hx hb dQ_peek_22 (by decide) (fun hc => ?_) (fun hc => ?_)
      · replace hf := lc_ite_neg hc hf
        exact bQ_peek_38 hx hb hml hr hlocks hown hts hE hf (lv_sub hl [0] rfl) hH
      · replace hf := lc_ite_pos hc hf
        refine lv_aload_n hx hb dQ_peek_25 rfl (lv_at hl 0 rfl) ?_
        refine lv_dup hx hb dQ_peek_26 rfl ?_
        refine lc_geti hx hb hts hown hE hH flQ_148 lc_h80 rfl dQ_peek_27 ?_
        refine lv_iconst (v := 1) hx hb dQ_peek_30 (by decide) ?_
        refine lv_iadd hx hb dQ_peek_31 ?_
        refine lc_puti hx hb hts hown hE hH fpQ_148 lc_h80 rfl rfl rfl dQ_peek_32 (fun H locs hH => ?_)
        refine lv_goto (tgt := 0) hx hb dQ_peek_35 (by decide) ?_
        exact ih hf (lv_sub hl [0] rfl) hH
set_option maxHeartbeats 4000000 in
set_option maxRecDepth 100000 in
theorem cQ_peek (l : Launch) (G : lc_G) {r : Int32} {z z' : lc_S} (hf : fQ_peek z = some (r, z')) : lc_M l G yQ_peek wQ_peek 0 [.ref (lc_ad G 80)] z (some (.int r)) z' := by
  refine lc_M_of (cc := prog_10_method_5_code) (maxL := 1) (ret := (some .int)) (own := "LinearCellsModel") (by decide) rfl (fun w h => List.mem_cons_of_mem _ h) (Nat.le_of_ble_eq_true rfl) rfl ?_
  intro p e s m below meth c hx hb hml hr hlocks hown hts hE ls hl hH
  replace hl : lv_has ls 1 [(0, .ref (lc_ad G 80))] := hl
  rw [fQ_peek] at hf
  exact bQ_peek_0 hx hb hml hr hlocks hown hts hE _ hf (lv_sub hl [0] rfl) hH
theorem dQ_next_0 : decode prog_10_method_6_code 0 = .ok (.aload_n 0, 1) := by decide +kernel
theorem dQ_next_1 : decode prog_10_method_6_code 1 = .ok (.invokevirtual 151, 3) := by decide +kernel
theorem dQ_next_4 : decode prog_10_method_6_code 4 = .ok (.istore_n 1, 1) := by decide +kernel
theorem dQ_next_5 : decode prog_10_method_6_code 5 = .ok (.aload_n 0, 1) := by decide +kernel
theorem dQ_next_6 : decode prog_10_method_6_code 6 = .ok (.dup, 1) := by decide +kernel
theorem dQ_next_7 : decode prog_10_method_6_code 7 = .ok (.getfield 148, 3) := by decide +kernel
theorem dQ_next_10 : decode prog_10_method_6_code 10 = .ok (.iconst 1, 1) := by decide +kernel
theorem dQ_next_11 : decode prog_10_method_6_code 11 = .ok (.iadd, 1) := by decide +kernel
theorem dQ_next_12 : decode prog_10_method_6_code 12 = .ok (.putfield 148, 3) := by decide +kernel
theorem dQ_next_15 : decode prog_10_method_6_code 15 = .ok (.iload_n 1, 1) := by decide +kernel
theorem dQ_next_16 : decode prog_10_method_6_code 16 = .ok (.ireturn, 1) := by decide +kernel
def fQ_next (z : lc_S) : Option ((Int32) × lc_S) :=
  lc_bnd (fQ_peek z) (fun r1 z1 => some (r1, lcUI z1 80 13 ((lcI z1 80 13) + 1)))
set_option maxHeartbeats 4000000 in
set_option maxRecDepth 100000 in
theorem cQ_next (l : Launch) (G : lc_G) {r : Int32} {z z' : lc_S} (hf : fQ_next z = some (r, z')) : lc_M l G yQ_next wQ_next 1 [.ref (lc_ad G 80)] z (some (.int r)) z' := by
  refine lc_M_of (cc := prog_10_method_6_code) (maxL := 2) (ret := (some .int)) (own := "LinearCellsModel") (by decide) rfl (fun w h => List.mem_cons_of_mem _ h) (Nat.le_of_ble_eq_true rfl) rfl ?_
  intro p e s m below meth c hx hb hml hr hlocks hown hts hE ls hl hH
  replace hl : lv_has ls 2 [(0, .ref (lc_ad G 80))] := hl
  rw [fQ_next] at hf
  refine lv_aload_n hx hb dQ_next_0 rfl (lv_at hl 0 rfl) ?_
  obtain ⟨r1, z1, h1, hf⟩ := lc_bnd_some hf
  refine lc_calli (va_runV (As := []) (rest := []) ⟨hx, hb, hml, hown, hts⟩ (cQ_peek l G h1) (lc_cwV hts kvQ_151 (lc_room (by decide) (by decide))) (lc_preV hE hH lc_h80 rfl _) rfl rfl hl.1 rfl (lv_room (Nat.le_of_ble_eq_true rfl)) dQ_next_1 ⟨Nat.zero_le _, Nat.zero_le _⟩) hH (fun H locs hH => ?_)
  refine lv_istore_n hx hb dQ_next_4 rfl hl (by decide) rfl (fun ls hl => ?_)
  replace hl : lv_has ls 2 [(1, .int r1), (0, .ref (lc_ad G 80))] := hl
  refine lv_aload_n hx hb dQ_next_5 rfl (lv_at hl 1 rfl) ?_
  refine lv_dup hx hb dQ_next_6 rfl ?_
  refine lc_geti hx hb hts hown hE hH flQ_148 lc_h80 rfl dQ_next_7 ?_
  refine lv_iconst (v := 1) hx hb dQ_next_10 (by decide) ?_
  refine lv_iadd hx hb dQ_next_11 ?_
  refine lc_puti hx hb hts hown hE hH fpQ_148 lc_h80 rfl rfl rfl dQ_next_12 (fun H locs hH => ?_)
  refine lv_iload_n hx hb dQ_next_15 rfl (lv_at hl 0 rfl) ?_
  exact lc_iret hx hb hr hlocks hH hf dQ_next_16
theorem dQ_expect_0 : decode prog_10_method_7_code 0 = .ok (.aload_n 0, 1) := by decide +kernel
theorem dQ_expect_1 : decode prog_10_method_7_code 1 = .ok (.aload_n 0, 1) := by decide +kernel
theorem dQ_expect_2 : decode prog_10_method_7_code 2 = .ok (.getfield 155, 3) := by decide +kernel
theorem dQ_expect_5 : decode prog_10_method_7_code 5 = .ok (.ifCond .ne 11, 3) := by decide +kernel
theorem dQ_expect_8 : decode prog_10_method_7_code 8 = .ok (.aload_n 0, 1) := by decide +kernel
theorem dQ_expect_9 : decode prog_10_method_7_code 9 = .ok (.invokevirtual 159, 3) := by decide +kernel
theorem dQ_expect_12 : decode prog_10_method_7_code 12 = .ok (.iload_n 1, 1) := by decide +kernel
theorem dQ_expect_13 : decode prog_10_method_7_code 13 = .ok (.if_icmp .eq 7, 3) := by decide +kernel
theorem dQ_expect_16 : decode prog_10_method_7_code 16 = .ok (.iconst 1, 1) := by decide +kernel
theorem dQ_expect_17 : decode prog_10_method_7_code 17 = .ok (.goto 4, 3) := by decide +kernel
theorem dQ_expect_20 : decode prog_10_method_7_code 20 = .ok (.iconst 0, 1) := by decide +kernel
theorem dQ_expect_21 : decode prog_10_method_7_code 21 = .ok (.putfield 155, 3) := by decide +kernel
theorem dQ_expect_24 : decode prog_10_method_7_code 24 = .ok (.return_, 1) := by decide +kernel
def fQ_expect_21 (t1 : Int32) (z : lc_S) : Option ((Unit) × lc_S) :=
  lc_chk (lc_zok t1) (some ((), lcUI z 80 14 t1))
def fQ_expect_16 (z : lc_S) : Option ((Unit) × lc_S) :=
  fQ_expect_21 1 z
def fQ_expect (a1 : Int32) (z : lc_S) : Option ((Unit) × lc_S) :=
  if (lcI z 80 14) = 0 then (lc_bnd (fQ_next z) (fun r9 z9 => if r9 = a1 then (fQ_expect_21 0 z9) else (fQ_expect_16 z9))) else (fQ_expect_16 z)
set_option maxHeartbeats 4000000 in
set_option maxRecDepth 100000 in
theorem bQ_expect_21 {p : Program} {l : Launch} {e : Env} {s : State} {m : MethodId} {args : Array Value} {below : List Frame} {meth : Method} {c : Code} {G : lc_G} (hx : p.tables.exec = Jvm.exec) (hb : c.code = prog_10_method_7_code) (hml : c.maxLocals = 2) (hr : meth.sig.returnType = none) (hlocks : meth.locks = false) (hown : s.vm.findClass "LinearCellsModel" = some m.cls) (hts : ∀ w ∈ lc_ALL, w.before args s = true) (hE : lc_E G s) {r : Unit} {z' : lc_S} : ∀ {t1 : Int32} {z : lc_S} {H : Heap} {locs : List Loc} {ls : Array Slot}, fQ_expect_21 t1 z = some (r, z') → lv_has ls 2 [] → lc_H G z s.heap H locs → W p l e (lc_rm 2) s m args below meth c H locs 0 0 (MQ below (lc_Q G none z') args s 0 0 (lc_A G)) (F0 m 21 ls [.int t1, .ref (lc_ad G 80)]) := by
  intro t1 z H locs ls hf hl hH
  rw [fQ_expect_21] at hf
  obtain ⟨hz21, hf⟩ := lc_chk_some hf
  refine lc_puti hx hb hts hown hE hH fpQ_155 lc_h80 rfl (lc_zn hz21) (lc_zf hz21) dQ_expect_21 (fun H locs hH => ?_)
  exact lc_vret hx hb hr hlocks hH hf dQ_expect_24
set_option maxHeartbeats 4000000 in
set_option maxRecDepth 100000 in
theorem bQ_expect_16 {p : Program} {l : Launch} {e : Env} {s : State} {m : MethodId} {args : Array Value} {below : List Frame} {meth : Method} {c : Code} {G : lc_G} (hx : p.tables.exec = Jvm.exec) (hb : c.code = prog_10_method_7_code) (hml : c.maxLocals = 2) (hr : meth.sig.returnType = none) (hlocks : meth.locks = false) (hown : s.vm.findClass "LinearCellsModel" = some m.cls) (hts : ∀ w ∈ lc_ALL, w.before args s = true) (hE : lc_E G s) {r : Unit} {z' : lc_S} : ∀ {z : lc_S} {H : Heap} {locs : List Loc} {ls : Array Slot}, fQ_expect_16 z = some (r, z') → lv_has ls 2 [] → lc_H G z s.heap H locs → W p l e (lc_rm 2) s m args below meth c H locs 0 0 (MQ below (lc_Q G none z') args s 0 0 (lc_A G)) (F0 m 16 ls [.ref (lc_ad G 80)]) := by
  intro z H locs ls hf hl hH
  rw [fQ_expect_16] at hf
  refine lv_iconst (v := 1) hx hb dQ_expect_16 (by decide) ?_
  refine lv_goto (tgt := 21) hx hb dQ_expect_17 (by decide) ?_
  exact bQ_expect_21 hx hb hml hr hlocks hown hts hE hf (lv_sub hl [] rfl) hH
set_option maxHeartbeats 4000000 in
set_option maxRecDepth 100000 in
theorem cQ_expect (l : Launch) (G : lc_G) {a1 : Int32} {r : Unit} {z z' : lc_S} (hf : fQ_expect a1 z = some (r, z')) : lc_M l G yQ_expect wQ_expect 2 [.ref (lc_ad G 80), .int a1] z none z' := by
  refine lc_M_of (cc := prog_10_method_7_code) (maxL := 2) (ret := none) (own := "LinearCellsModel") (by decide) rfl (fun w h => List.mem_cons_of_mem _ h) (Nat.le_of_ble_eq_true rfl) rfl ?_
  intro p e s m below meth c hx hb hml hr hlocks hown hts hE ls hl hH
  replace hl : lv_has ls 2 [(0, .ref (lc_ad G 80)), (1, .int a1)] := hl
  rw [fQ_expect] at hf
  refine lv_aload_n hx hb dQ_expect_0 rfl (lv_at hl 0 rfl) ?_
  refine lv_aload_n hx hb dQ_expect_1 rfl (lv_at hl 0 rfl) ?_
  refine lc_geti hx hb hts hown hE hH flQ_155 lc_h80 rfl dQ_expect_2 ?_
  refine lv_if_ne (tgt := 16) hx hb dQ_expect_5 (by decide) (fun hc => ?_) (fun hc => ?_)
  · replace hf := lc_ite_neg hc hf
    exact bQ_expect_16 hx hb hml hr hlocks hown hts hE hf (lv_sub hl [] rfl) hH
  · replace hf := lc_ite_pos hc hf
    refine lv_aload_n hx hb dQ_expect_8 rfl (lv_at hl 0 rfl) ?_
    obtain ⟨r9, z9, h9, hf⟩ := lc_bnd_some hf
    refine lc_calli (va_runV (As := []) (rest := [.ref (lc_ad G 80)]) ⟨hx, hb, hml, hown, hts⟩ (cQ_next l G h9) (lc_cwV hts kvQ_159 (lc_room (by decide) (by decide))) (lc_preV hE hH lc_h80 rfl _) rfl rfl hl.1 rfl (lv_room (Nat.le_of_ble_eq_true rfl)) dQ_expect_9 ⟨Nat.zero_le _, Nat.zero_le _⟩) hH (fun H locs hH => ?_)
    refine lv_iload_n hx hb dQ_expect_12 rfl (lv_at hl 1 rfl) ?_
    refine lv_icmp_eq (tgt := 20) hx hb dQ_expect_13 (by decide) (fun hc => ?_) (fun hc => ?_)
    · replace hf := lc_ite_pos hc hf
      refine lv_iconst (v := 0) hx hb dQ_expect_20 (by decide) ?_
      exact bQ_expect_21 hx hb hml hr hlocks hown hts hE hf (lv_sub hl [] rfl) hH
    · replace hf := lc_ite_neg hc hf
      exact bQ_expect_16 hx hb hml hr hlocks hown hts hE hf (lv_sub hl [] rfl) hH
theorem dQ_isLetter_0 : decode prog_10_method_8_code 0 = .ok (.iload_n 0, 1) := by decide +kernel
theorem dQ_isLetter_1 : decode prog_10_method_8_code 1 = .ok (.bipush 97, 2) := by decide +kernel
theorem dQ_isLetter_3 : decode prog_10_method_8_code 3 = .ok (.if_icmp .lt 13, 3) := by decide +kernel
theorem dQ_isLetter_6 : decode prog_10_method_8_code 6 = .ok (.iload_n 0, 1) := by decide +kernel
theorem dQ_isLetter_7 : decode prog_10_method_8_code 7 = .ok (.bipush 122, 2) := by decide +kernel
theorem dQ_isLetter_9 : decode prog_10_method_8_code 9 = .ok (.if_icmp .gt 7, 3) := by decide +kernel
theorem dQ_isLetter_12 : decode prog_10_method_8_code 12 = .ok (.iconst 1, 1) := by decide +kernel
theorem dQ_isLetter_13 : decode prog_10_method_8_code 13 = .ok (.goto 4, 3) := by decide +kernel
theorem dQ_isLetter_16 : decode prog_10_method_8_code 16 = .ok (.iconst 0, 1) := by decide +kernel
theorem dQ_isLetter_17 : decode prog_10_method_8_code 17 = .ok (.ireturn, 1) := by decide +kernel
def fQ_isLetter_16 (z : lc_S) : Option ((Int32) × lc_S) :=
  some (0, z)
def fQ_isLetter (a0 : Int32) (z : lc_S) : Option ((Int32) × lc_S) :=
  if a0 < 97 then (fQ_isLetter_16 z) else (if 122 < a0 then (fQ_isLetter_16 z) else (some (1, z)))
set_option maxHeartbeats 4000000 in
set_option maxRecDepth 100000 in
theorem bQ_isLetter_16 {p : Program} {l : Launch} {e : Env} {s : State} {m : MethodId} {args : Array Value} {below : List Frame} {meth : Method} {c : Code} {G : lc_G} (hx : p.tables.exec = Jvm.exec) (hb : c.code = prog_10_method_8_code) (hml : c.maxLocals = 1) (hr : meth.sig.returnType = (some .boolean)) (hlocks : meth.locks = false) (hown : s.vm.findClass "LinearCellsModel" = some m.cls) (hts : ∀ w ∈ lc_ALL, w.before args s = true) (hE : lc_E G s) {r : Int32} {z' : lc_S} : ∀ {z : lc_S} {H : Heap} {locs : List Loc} {ls : Array Slot}, fQ_isLetter_16 z = some (r, z') → lv_has ls 1 [] → lc_H G z s.heap H locs → W p l e (lc_rm 0) s m args below meth c H locs 0 0 (MQ below (lc_Q G (some (.int r)) z') args s 0 0 (lc_A G)) (F0 m 16 ls []) := by
  intro z H locs ls hf hl hH
  rw [fQ_isLetter_16] at hf
  refine lv_iconst (v := 0) hx hb dQ_isLetter_16 (by decide) ?_
  exact lc_zret hx hb hr hlocks (by decide) hH hf dQ_isLetter_17
set_option maxHeartbeats 4000000 in
set_option maxRecDepth 100000 in
theorem cQ_isLetter (l : Launch) (G : lc_G) {a0 : Int32} {r : Int32} {z z' : lc_S} (hf : fQ_isLetter a0 z = some (r, z')) : lc_M l G yQ_isLetter wQ_isLetter 0 [.int a0] z (some (.int r)) z' := by
  refine lc_M_of (cc := prog_10_method_8_code) (maxL := 1) (ret := (some .boolean)) (own := "LinearCellsModel") (by decide) rfl (fun w h => List.mem_cons_of_mem _ h) (Nat.le_of_ble_eq_true rfl) rfl ?_
  intro p e s m below meth c hx hb hml hr hlocks hown hts hE ls hl hH
  replace hl : lv_has ls 1 [(0, .int a0)] := hl
  rw [fQ_isLetter] at hf
  refine lv_iload_n hx hb dQ_isLetter_0 rfl (lv_at hl 0 rfl) ?_
  refine lv_bipush (v := 97) hx hb dQ_isLetter_1 (by decide) ?_
  refine lv_icmp_lt (tgt := 16) hx hb dQ_isLetter_3 (by decide) (fun hc => ?_) (fun hc => ?_)
  · replace hf := lc_ite_pos hc hf
    exact bQ_isLetter_16 hx hb hml hr hlocks hown hts hE hf (lv_sub hl [] rfl) hH
  · replace hf := lc_ite_neg hc hf
    refine lv_iload_n hx hb dQ_isLetter_6 rfl (lv_at hl 0 rfl) ?_
    refine lv_bipush (v := 122) hx hb dQ_isLetter_7 (by decide) ?_
    refine lv_icmp_gt (tgt := 16) hx hb dQ_isLetter_9 (by decide) (fun hc => ?_) (fun hc => ?_)
    · replace hf := lc_ite_pos hc hf
      exact bQ_isLetter_16 hx hb hml hr hlocks hown hts hE hf (lv_sub hl [] rfl) hH
    · replace hf := lc_ite_neg hc hf
      refine lv_iconst (v := 1) hx hb dQ_isLetter_12 (by decide) ?_
      refine lv_goto (tgt := 17) hx hb dQ_isLetter_13 (by decide) ?_
      exact lc_zret hx hb hr hlocks (by decide) hH hf dQ_isLetter_17
theorem dQ_isDigit_0 : decode prog_10_method_9_code 0 = .ok (.iload_n 0, 1) := by decide +kernel
theorem dQ_isDigit_1 : decode prog_10_method_9_code 1 = .ok (.bipush 48, 2) := by decide +kernel
theorem dQ_isDigit_3 : decode prog_10_method_9_code 3 = .ok (.if_icmp .lt 13, 3) := by decide +kernel
theorem dQ_isDigit_6 : decode prog_10_method_9_code 6 = .ok (.iload_n 0, 1) := by decide +kernel
theorem dQ_isDigit_7 : decode prog_10_method_9_code 7 = .ok (.bipush 57, 2) := by decide +kernel
theorem dQ_isDigit_9 : decode prog_10_method_9_code 9 = .ok (.if_icmp .gt 7, 3) := by decide +kernel
theorem dQ_isDigit_12 : decode prog_10_method_9_code 12 = .ok (.iconst 1, 1) := by decide +kernel
theorem dQ_isDigit_13 : decode prog_10_method_9_code 13 = .ok (.goto 4, 3) := by decide +kernel
theorem dQ_isDigit_16 : decode prog_10_method_9_code 16 = .ok (.iconst 0, 1) := by decide +kernel
theorem dQ_isDigit_17 : decode prog_10_method_9_code 17 = .ok (.ireturn, 1) := by decide +kernel
def fQ_isDigit_16 (z : lc_S) : Option ((Int32) × lc_S) :=
  some (0, z)
def fQ_isDigit (a0 : Int32) (z : lc_S) : Option ((Int32) × lc_S) :=
  if a0 < 48 then (fQ_isDigit_16 z) else (if 57 < a0 then (fQ_isDigit_16 z) else (some (1, z)))
set_option maxHeartbeats 4000000 in
set_option maxRecDepth 100000 in
theorem bQ_isDigit_16 {p : Program} {l : Launch} {e : Env} {s : State} {m : MethodId} {args : Array Value} {below : List Frame} {meth : Method} {c : Code} {G : lc_G} (hx : p.tables.exec = Jvm.exec) (hb : c.code = prog_10_method_9_code) (hml : c.maxLocals = 1) (hr : meth.sig.returnType = (some .boolean)) (hlocks : meth.locks = false) (hown : s.vm.findClass "LinearCellsModel" = some m.cls) (hts : ∀ w ∈ lc_ALL, w.before args s = true) (hE : lc_E G s) {r : Int32} {z' : lc_S} : ∀ {z : lc_S} {H : Heap} {locs : List Loc} {ls : Array Slot}, fQ_isDigit_16 z = some (r, z') → lv_has ls 1 [] → lc_H G z s.heap H locs → W p l e (lc_rm 0) s m args below meth c H locs 0 0 (MQ below (lc_Q G (some (.int r)) z') args s 0 0 (lc_A G)) (F0 m 16 ls []) := by
  intro z H locs ls hf hl hH
  rw [fQ_isDigit_16] at hf
  refine lv_iconst (v := 0) hx hb dQ_isDigit_16 (by decide) ?_
  exact lc_zret hx hb hr hlocks (by decide) hH hf dQ_isDigit_17
set_option maxHeartbeats 4000000 in
set_option maxRecDepth 100000 in
theorem cQ_isDigit (l : Launch) (G : lc_G) {a0 : Int32} {r : Int32} {z z' : lc_S} (hf : fQ_isDigit a0 z = some (r, z')) : lc_M l G yQ_isDigit wQ_isDigit 0 [.int a0] z (some (.int r)) z' := by
  refine lc_M_of (cc := prog_10_method_9_code) (maxL := 1) (ret := (some .boolean)) (own := "LinearCellsModel") (by decide) rfl (fun w h => List.mem_cons_of_mem _ h) (Nat.le_of_ble_eq_true rfl) rfl ?_
  intro p e s m below meth c hx hb hml hr hlocks hown hts hE ls hl hH
  replace hl : lv_has ls 1 [(0, .int a0)] := hl
  rw [fQ_isDigit] at hf
  refine lv_iload_n hx hb dQ_isDigit_0 rfl (lv_at hl 0 rfl) ?_
  refine lv_bipush (v := 48) hx hb dQ_isDigit_1 (by decide) ?_
  refine lv_icmp_lt (tgt := 16) hx hb dQ_isDigit_3 (by decide) (fun hc => ?_) (fun hc => ?_)
  · replace hf := lc_ite_pos hc hf
    exact bQ_isDigit_16 hx hb hml hr hlocks hown hts hE hf (lv_sub hl [] rfl) hH
  · replace hf := lc_ite_neg hc hf
    refine lv_iload_n hx hb dQ_isDigit_6 rfl (lv_at hl 0 rfl) ?_
    refine lv_bipush (v := 57) hx hb dQ_isDigit_7 (by decide) ?_
    refine lv_icmp_gt (tgt := 16) hx hb dQ_isDigit_9 (by decide) (fun hc => ?_) (fun hc => ?_)
    · replace hf := lc_ite_pos hc hf
      exact bQ_isDigit_16 hx hb hml hr hlocks hown hts hE hf (lv_sub hl [] rfl) hH
    · replace hf := lc_ite_neg hc hf
      refine lv_iconst (v := 1) hx hb dQ_isDigit_12 (by decide) ?_
      refine lv_goto (tgt := 17) hx hb dQ_isDigit_13 (by decide) ?_
      exact lc_zret hx hb hr hlocks (by decide) hH hf dQ_isDigit_17
theorem dQ_letter_0 : decode prog_10_method_10_code 0 = .ok (.aload_n 0, 1) := by decide +kernel
theorem dQ_letter_1 : decode prog_10_method_10_code 1 = .ok (.invokevirtual 159, 3) := by decide +kernel
theorem dQ_letter_4 : decode prog_10_method_10_code 4 = .ok (.istore_n 1, 1) := by decide +kernel
theorem dQ_letter_5 : decode prog_10_method_10_code 5 = .ok (.aload_n 0, 1) := by decide +kernel
theorem dQ_letter_6 : decode prog_10_method_10_code 6 = .ok (.aload_n 0, 1) := by decide +kernel
theorem dQ_letter_7 : decode prog_10_method_10_code 7 = .ok (.getfield 155, 3) := by decide +kernel
theorem dQ_letter_10 : decode prog_10_method_10_code 10 = .ok (.ifCond .ne 10, 3) := by decide +kernel
theorem dQ_letter_13 : decode prog_10_method_10_code 13 = .ok (.iload_n 1, 1) := by decide +kernel
theorem dQ_letter_14 : decode prog_10_method_10_code 14 = .ok (.invokestatic 162, 3) := by decide +kernel
theorem dQ_letter_17 : decode prog_10_method_10_code 17 = .ok (.ifCond .ne 7, 3) := by decide +kernel
theorem dQ_letter_20 : decode prog_10_method_10_code 20 = .ok (.iconst 1, 1) := by decide +kernel
theorem dQ_letter_21 : decode prog_10_method_10_code 21 = .ok (.goto 4, 3) := by decide +kernel
theorem dQ_letter_24 : decode prog_10_method_10_code 24 = .ok (.iconst 0, 1) := by decide +kernel
theorem dQ_letter_25 : decode prog_10_method_10_code 25 = .ok (.putfield 155, 3) := by decide +kernel
theorem dQ_letter_28 : decode prog_10_method_10_code 28 = .ok (.iload_n 1, 1) := by decide +kernel
theorem dQ_letter_29 : decode prog_10_method_10_code 29 = .ok (.ireturn, 1) := by decide +kernel
def fQ_letter_25 (x1 : Int32) (t1 : Int32) (z : lc_S) : Option ((Int32) × lc_S) :=
  lc_chk (lc_zok t1) (some (x1, lcUI z 80 14 t1))
def fQ_letter_20 (x1 : Int32) (z : lc_S) : Option ((Int32) × lc_S) :=
  fQ_letter_25 x1 1 z
def fQ_letter (z : lc_S) : Option ((Int32) × lc_S) :=
  lc_bnd (fQ_next z) (fun r1 z1 => if (lcI z1 80 14) = 0 then (lc_bnd (fQ_isLetter r1 z1) (fun r14 z14 => if r14 = 0 then (fQ_letter_20 r1 z14) else (fQ_letter_25 r1 0 z14))) else (fQ_letter_20 r1 z1))
set_option maxHeartbeats 4000000 in
set_option maxRecDepth 100000 in
theorem bQ_letter_25 {p : Program} {l : Launch} {e : Env} {s : State} {m : MethodId} {args : Array Value} {below : List Frame} {meth : Method} {c : Code} {G : lc_G} (hx : p.tables.exec = Jvm.exec) (hb : c.code = prog_10_method_10_code) (hml : c.maxLocals = 2) (hr : meth.sig.returnType = (some .int)) (hlocks : meth.locks = false) (hown : s.vm.findClass "LinearCellsModel" = some m.cls) (hts : ∀ w ∈ lc_ALL, w.before args s = true) (hE : lc_E G s) {r : Int32} {z' : lc_S} : ∀ {x1 : Int32} {t1 : Int32} {z : lc_S} {H : Heap} {locs : List Loc} {ls : Array Slot}, fQ_letter_25 x1 t1 z = some (r, z') → lv_has ls 2 [(1, .int x1)] → lc_H G z s.heap H locs → W p l e (lc_rm 2) s m args below meth c H locs 0 0 (MQ below (lc_Q G (some (.int r)) z') args s 0 0 (lc_A G)) (F0 m 25 ls [.int t1, .ref (lc_ad G 80)]) := by
  intro x1 t1 z H locs ls hf hl hH
  rw [fQ_letter_25] at hf
  obtain ⟨hz25, hf⟩ := lc_chk_some hf
  refine lc_puti hx hb hts hown hE hH fpQ_155 lc_h80 rfl (lc_zn hz25) (lc_zf hz25) dQ_letter_25 (fun H locs hH => ?_)
  refine lv_iload_n hx hb dQ_letter_28 rfl (lv_at hl 0 rfl) ?_
  exact lc_iret hx hb hr hlocks hH hf dQ_letter_29
set_option maxHeartbeats 4000000 in
set_option maxRecDepth 100000 in
theorem bQ_letter_20 {p : Program} {l : Launch} {e : Env} {s : State} {m : MethodId} {args : Array Value} {below : List Frame} {meth : Method} {c : Code} {G : lc_G} (hx : p.tables.exec = Jvm.exec) (hb : c.code = prog_10_method_10_code) (hml : c.maxLocals = 2) (hr : meth.sig.returnType = (some .int)) (hlocks : meth.locks = false) (hown : s.vm.findClass "LinearCellsModel" = some m.cls) (hts : ∀ w ∈ lc_ALL, w.before args s = true) (hE : lc_E G s) {r : Int32} {z' : lc_S} : ∀ {x1 : Int32} {z : lc_S} {H : Heap} {locs : List Loc} {ls : Array Slot}, fQ_letter_20 x1 z = some (r, z') → lv_has ls 2 [(1, .int x1)] → lc_H G z s.heap H locs → W p l e (lc_rm 2) s m args below meth c H locs 0 0 (MQ below (lc_Q G (some (.int r)) z') args s 0 0 (lc_A G)) (F0 m 20 ls [.ref (lc_ad G 80)]) := by
  intro x1 z H locs ls hf hl hH
  rw [fQ_letter_20] at hf
  refine lv_iconst (v := 1) hx hb dQ_letter_20 (by decide) ?_
  refine lv_goto (tgt := 25) hx hb dQ_letter_21 (by decide) ?_
  exact bQ_letter_25 hx hb hml hr hlocks hown hts hE hf (lv_sub hl [0] rfl) hH
set_option maxHeartbeats 4000000 in
set_option maxRecDepth 100000 in
theorem cQ_letter (l : Launch) (G : lc_G) {r : Int32} {z z' : lc_S} (hf : fQ_letter z = some (r, z')) : lc_M l G yQ_letter wQ_letter 2 [.ref (lc_ad G 80)] z (some (.int r)) z' := by
  refine lc_M_of (cc := prog_10_method_10_code) (maxL := 2) (ret := (some .int)) (own := "LinearCellsModel") (by decide) rfl (fun w h => List.mem_cons_of_mem _ h) (Nat.le_of_ble_eq_true rfl) rfl ?_
  intro p e s m below meth c hx hb hml hr hlocks hown hts hE ls hl hH
  replace hl : lv_has ls 2 [(0, .ref (lc_ad G 80))] := hl
  rw [fQ_letter] at hf
  refine lv_aload_n hx hb dQ_letter_0 rfl (lv_at hl 0 rfl) ?_
  obtain ⟨r1, z1, h1, hf⟩ := lc_bnd_some hf
  refine lc_calli (va_runV (As := []) (rest := []) ⟨hx, hb, hml, hown, hts⟩ (cQ_next l G h1) (lc_cwV hts kvQ_159 (lc_room (by decide) (by decide))) (lc_preV hE hH lc_h80 rfl _) rfl rfl hl.1 rfl (lv_room (Nat.le_of_ble_eq_true rfl)) dQ_letter_1 ⟨Nat.zero_le _, Nat.zero_le _⟩) hH (fun H locs hH => ?_)
  refine lv_istore_n hx hb dQ_letter_4 rfl hl (by decide) rfl (fun ls hl => ?_)
  replace hl : lv_has ls 2 [(1, .int r1), (0, .ref (lc_ad G 80))] := hl
  refine lv_aload_n hx hb dQ_letter_5 rfl (lv_at hl 1 rfl) ?_
  refine lv_aload_n hx hb dQ_letter_6 rfl (lv_at hl 1 rfl) ?_
  refine lc_geti hx hb hts hown hE hH flQ_155 lc_h80 rfl dQ_letter_7 ?_
  refine lv_if_ne (tgt := 20) hx hb dQ_letter_10 (by decide) (fun hc => ?_) (fun hc => ?_)
  · replace hf := lc_ite_neg hc hf
    exact bQ_letter_20 hx hb hml hr hlocks hown hts hE hf (lv_sub hl [0] rfl) hH
  · replace hf := lc_ite_pos hc hf
    refine lv_iload_n hx hb dQ_letter_13 rfl (lv_at hl 0 rfl) ?_
    obtain ⟨r14, z14, h14, hf⟩ := lc_bnd_some hf
    refine lc_calli (va_runS (As := [.int r1]) (rest := [.ref (lc_ad G 80)]) ⟨hx, hb, hml, hown, hts⟩ (cQ_isLetter l G h14) (lc_cwS hts ksQ_162 (lc_room (by decide) (by decide))) (lc_preS hE hH _) rfl rfl hl.1 rfl (lv_room (Nat.le_of_ble_eq_true rfl)) dQ_letter_14 ⟨Nat.zero_le _, Nat.zero_le _⟩) hH (fun H locs hH => ?_)
    refine lv_if_ne (tgt := 24) hx hb dQ_letter_17 (by decide) (fun hc => ?_) (fun hc => ?_)
    · replace hf := lc_ite_neg hc hf
      refine lv_iconst (v := 0) hx hb dQ_letter_24 (by decide) ?_
      exact bQ_letter_25 hx hb hml hr hlocks hown hts hE hf (lv_sub hl [0] rfl) hH
    · replace hf := lc_ite_pos hc hf
      exact bQ_letter_20 hx hb hml hr hlocks hown hts hE hf (lv_sub hl [0] rfl) hH
theorem dQ_number_0 : decode prog_10_method_11_code 0 = .ok (.iconst 0, 1) := by decide +kernel
theorem dQ_number_1 : decode prog_10_method_11_code 1 = .ok (.istore_n 1, 1) := by decide +kernel
theorem dQ_number_2 : decode prog_10_method_11_code 2 = .ok (.iconst 0, 1) := by decide +kernel
theorem dQ_number_3 : decode prog_10_method_11_code 3 = .ok (.istore_n 2, 1) := by decide +kernel
theorem dQ_number_4 : decode prog_10_method_11_code 4 = .ok (.aload_n 0, 1) := by decide +kernel
theorem dQ_number_5 : decode prog_10_method_11_code 5 = .ok (.aload_n 0, 1) := by decide +kernel
theorem dQ_number_6 : decode prog_10_method_11_code 6 = .ok (.getfield 155, 3) := by decide +kernel
theorem dQ_number_9 : decode prog_10_method_11_code 9 = .ok (.ifCond .ne 13, 3) := by decide +kernel
theorem dQ_number_12 : decode prog_10_method_11_code 12 = .ok (.aload_n 0, 1) := by decide +kernel
theorem dQ_number_13 : decode prog_10_method_11_code 13 = .ok (.invokevirtual 151, 3) := by decide +kernel
theorem dQ_number_16 : decode prog_10_method_11_code 16 = .ok (.invokestatic 166, 3) := by decide +kernel
theorem dQ_number_19 : decode prog_10_method_11_code 19 = .ok (.ifCond .ne 7, 3) := by decide +kernel
theorem dQ_number_22 : decode prog_10_method_11_code 22 = .ok (.iconst 1, 1) := by decide +kernel
theorem dQ_number_23 : decode prog_10_method_11_code 23 = .ok (.goto 4, 3) := by decide +kernel
theorem dQ_number_26 : decode prog_10_method_11_code 26 = .ok (.iconst 0, 1) := by decide +kernel
theorem dQ_number_27 : decode prog_10_method_11_code 27 = .ok (.putfield 155, 3) := by decide +kernel
theorem dQ_number_30 : decode prog_10_method_11_code 30 = .ok (.aload_n 0, 1) := by decide +kernel
theorem dQ_number_31 : decode prog_10_method_11_code 31 = .ok (.getfield 148, 3) := by decide +kernel
theorem dQ_number_34 : decode prog_10_method_11_code 34 = .ok (.aload_n 0, 1) := by decide +kernel
theorem dQ_number_35 : decode prog_10_method_11_code 35 = .ok (.getfield 145, 3) := by decide +kernel
theorem dQ_number_38 : decode prog_10_method_11_code 38 = .ok (.if_icmp .ge 57, 3) := by decide +kernel
theorem dQ_number_41 : decode prog_10_method_11_code 41 = .ok (.aload_n 0, 1) := by decide +kernel
theorem dQ_number_42 : decode prog_10_method_11_code 42 = .ok (.getfield 7, 3) := by decide +kernel
theorem dQ_number_45 : decode prog_10_method_11_code 45 = .ok (.aload_n 0, 1) := by decide +kernel
theorem dQ_number_46 : decode prog_10_method_11_code 46 = .ok (.getfield 148, 3) := by decide +kernel
theorem dQ_number_49 : decode prog_10_method_11_code 49 = .ok (.iaload, 1) := by decide +kernel
theorem dQ_number_50 : decode prog_10_method_11_code 50 = .ok (.invokestatic 166, 3) := by decide +kernel
theorem dQ_number_53 : decode prog_10_method_11_code 53 = .ok (.ifCond .eq 42, 3) := by decide +kernel
theorem dQ_number_56 : decode prog_10_method_11_code 56 = .ok (.iload_n 2, 1) := by decide +kernel
theorem dQ_number_57 : decode prog_10_method_11_code 57 = .ok (.iconst 5, 1) := by decide +kernel
theorem dQ_number_58 : decode prog_10_method_11_code 58 = .ok (.if_icmp .ge 37, 3) := by decide +kernel
theorem dQ_number_61 : decode prog_10_method_11_code 61 = .ok (.bipush 10, 2) := by decide +kernel
theorem dQ_number_63 : decode prog_10_method_11_code 63 = .ok (.iload_n 1, 1) := by decide +kernel
theorem dQ_number_64 : decode prog_10_method_11_code 64 = .ok (.imul, 1) := by decide +kernel
theorem dQ_number_65 : decode prog_10_method_11_code 65 = .ok (.aload_n 0, 1) := by decide +kernel
theorem dQ_number_66 : decode prog_10_method_11_code 66 = .ok (.getfield 7, 3) := by decide +kernel
theorem dQ_number_69 : decode prog_10_method_11_code 69 = .ok (.aload_n 0, 1) := by decide +kernel
theorem dQ_number_70 : decode prog_10_method_11_code 70 = .ok (.getfield 148, 3) := by decide +kernel
theorem dQ_number_73 : decode prog_10_method_11_code 73 = .ok (.iaload, 1) := by decide +kernel
theorem dQ_number_74 : decode prog_10_method_11_code 74 = .ok (.iadd, 1) := by decide +kernel
theorem dQ_number_75 : decode prog_10_method_11_code 75 = .ok (.bipush 48, 2) := by decide +kernel
theorem dQ_number_77 : decode prog_10_method_11_code 77 = .ok (.isub, 1) := by decide +kernel
theorem dQ_number_78 : decode prog_10_method_11_code 78 = .ok (.istore_n 1, 1) := by decide +kernel
theorem dQ_number_79 : decode prog_10_method_11_code 79 = .ok (.aload_n 0, 1) := by decide +kernel
theorem dQ_number_80 : decode prog_10_method_11_code 80 = .ok (.dup, 1) := by decide +kernel
theorem dQ_number_81 : decode prog_10_method_11_code 81 = .ok (.getfield 148, 3) := by decide +kernel
theorem dQ_number_84 : decode prog_10_method_11_code 84 = .ok (.iconst 1, 1) := by decide +kernel
theorem dQ_number_85 : decode prog_10_method_11_code 85 = .ok (.iadd, 1) := by decide +kernel
theorem dQ_number_86 : decode prog_10_method_11_code 86 = .ok (.putfield 148, 3) := by decide +kernel
theorem dQ_number_89 : decode prog_10_method_11_code 89 = .ok (.iinc 2 1, 3) := by decide +kernel
theorem dQ_number_92 : decode prog_10_method_11_code 92 = .ok (.goto (-62), 3) := by decide +kernel
theorem dQ_number_95 : decode prog_10_method_11_code 95 = .ok (.aload_n 0, 1) := by decide +kernel
theorem dQ_number_96 : decode prog_10_method_11_code 96 = .ok (.aload_n 0, 1) := by decide +kernel
theorem dQ_number_97 : decode prog_10_method_11_code 97 = .ok (.getfield 155, 3) := by decide +kernel
theorem dQ_number_100 : decode prog_10_method_11_code 100 = .ok (.ifCond .ne 8, 3) := by decide +kernel
theorem dQ_number_103 : decode prog_10_method_11_code 103 = .ok (.iload_n 2, 1) := by decide +kernel
theorem dQ_number_104 : decode prog_10_method_11_code 104 = .ok (.iconst 4, 1) := by decide +kernel
theorem dQ_number_105 : decode prog_10_method_11_code 105 = .ok (.if_icmp .le 7, 3) := by decide +kernel
theorem dQ_number_108 : decode prog_10_method_11_code 108 = .ok (.iconst 1, 1) := by decide +kernel
theorem dQ_number_109 : decode prog_10_method_11_code 109 = .ok (.goto 4, 3) := by decide +kernel
theorem dQ_number_112 : decode prog_10_method_11_code 112 = .ok (.iconst 0, 1) := by decide +kernel
theorem dQ_number_113 : decode prog_10_method_11_code 113 = .ok (.putfield 155, 3) := by decide +kernel
theorem dQ_number_116 : decode prog_10_method_11_code 116 = .ok (.iload_n 1, 1) := by decide +kernel
theorem dQ_number_117 : decode prog_10_method_11_code 117 = .ok (.ireturn, 1) := by decide +kernel
def fQ_number_113 (x1 : Int32) (t1 : Int32) (z : lc_S) : Option ((Int32) × lc_S) :=
  lc_chk (lc_zok t1) (some (x1, lcUI z 80 14 t1))
def fQ_number_108 (x1 : Int32) (z : lc_S) : Option ((Int32) × lc_S) :=
  fQ_number_113 x1 1 z
def fQ_number_95 (x1 : Int32) (x2 : Int32) (z : lc_S) : Option ((Int32) × lc_S) :=
  if (lcI z 80 14) = 0 then (if x2 ≤ 4 then (fQ_number_113 x1 0 z) else (fQ_number_108 x1 z)) else (fQ_number_108 x1 z)
def fQ_number_30 : Nat → Int32 → Int32 → lc_S → Option ((Int32) × lc_S)
  | 0, _, _, _ => none
  | n + 1, x1, x2, z => if (lcI z 80 1) ≤ (lcI z 80 13) then (fQ_number_95 x1 x2 z) else (lc_chk (lc_in (lcI z 80 13) 120) (lc_bnd (fQ_isDigit (lcI z 81 (lcI z 80 13).toNatClampNeg) z) (fun r50 z50 => if r50 = 0 then (fQ_number_95 x1 x2 z50) else (if 5 ≤ x2 then (fQ_number_95 x1 x2 z50) else (lc_chk (lc_in (lcI z50 80 13) 120) (lc_let (((10 * x1) + (lcI z50 81 (lcI z50 80 13).toNatClampNeg)) - 48) (fun x78 => lc_let (x2 + 1) (fun x89 => fQ_number_30 n x78 x89 (lcUI z50 80 13 ((lcI z50 80 13) + 1))))))))))
def fQ_number_27 (x1 : Int32) (x2 : Int32) (t1 : Int32) (z : lc_S) : Option ((Int32) × lc_S) :=
  lc_chk (lc_zok t1) (fQ_number_30 lc_FU x1 x2 (lcUI z 80 14 t1))
def fQ_number_22 (x1 : Int32) (x2 : Int32) (z : lc_S) : Option ((Int32) × lc_S) :=
  fQ_number_27 x1 x2 1 z
def fQ_number (z : lc_S) : Option ((Int32) × lc_S) :=
  if (lcI z 80 14) = 0 then (lc_bnd (fQ_peek z) (fun r13 z13 => lc_bnd (fQ_isDigit r13 z13) (fun r16 z16 => if r16 = 0 then (fQ_number_22 0 0 z16) else (fQ_number_27 0 0 0 z16)))) else (fQ_number_22 0 0 z)
set_option maxHeartbeats 4000000 in
set_option maxRecDepth 100000 in
theorem bQ_number_113 {p : Program} {l : Launch} {e : Env} {s : State} {m : MethodId} {args : Array Value} {below : List Frame} {meth : Method} {c : Code} {G : lc_G} (hx : p.tables.exec = Jvm.exec) (hb : c.code = prog_10_method_11_code) (hml : c.maxLocals = 3) (hr : meth.sig.returnType = (some .int)) (hlocks : meth.locks = false) (hown : s.vm.findClass "LinearCellsModel" = some m.cls) (hts : ∀ w ∈ lc_ALL, w.before args s = true) (hE : lc_E G s) {r : Int32} {z' : lc_S} : ∀ {x1 : Int32} {t1 : Int32} {z : lc_S} {H : Heap} {locs : List Loc} {ls : Array Slot}, fQ_number_113 x1 t1 z = some (r, z') → lv_has ls 3 [(1, .int x1)] → lc_H G z s.heap H locs → W p l e (lc_rm 1) s m args below meth c H locs 0 0 (MQ below (lc_Q G (some (.int r)) z') args s 0 0 (lc_A G)) (F0 m 113 ls [.int t1, .ref (lc_ad G 80)]) := by
  intro x1 t1 z H locs ls hf hl hH
  rw [fQ_number_113] at hf
  obtain ⟨hz113, hf⟩ := lc_chk_some hf
  refine lc_puti hx hb hts hown hE hH fpQ_155 lc_h80 rfl (lc_zn hz113) (lc_zf hz113) dQ_number_113 (fun H locs hH => ?_)
  refine lv_iload_n hx hb dQ_number_116 rfl (lv_at hl 0 rfl) ?_
  exact lc_iret hx hb hr hlocks hH hf dQ_number_117
set_option maxHeartbeats 4000000 in
set_option maxRecDepth 100000 in
theorem bQ_number_108 {p : Program} {l : Launch} {e : Env} {s : State} {m : MethodId} {args : Array Value} {below : List Frame} {meth : Method} {c : Code} {G : lc_G} (hx : p.tables.exec = Jvm.exec) (hb : c.code = prog_10_method_11_code) (hml : c.maxLocals = 3) (hr : meth.sig.returnType = (some .int)) (hlocks : meth.locks = false) (hown : s.vm.findClass "LinearCellsModel" = some m.cls) (hts : ∀ w ∈ lc_ALL, w.before args s = true) (hE : lc_E G s) {r : Int32} {z' : lc_S} : ∀ {x1 : Int32} {z : lc_S} {H : Heap} {locs : List Loc} {ls : Array Slot}, fQ_number_108 x1 z = some (r, z') → lv_has ls 3 [(1, .int x1)] → lc_H G z s.heap H locs → W p l e (lc_rm 1) s m args below meth c H locs 0 0 (MQ below (lc_Q G (some (.int r)) z') args s 0 0 (lc_A G)) (F0 m 108 ls [.ref (lc_ad G 80)]) := by
  intro x1 z H locs ls hf hl hH
  rw [fQ_number_108] at hf
  refine lv_iconst (v := 1) hx hb dQ_number_108 (by decide) ?_
  refine lv_goto (tgt := 113) hx hb dQ_number_109 (by decide) ?_
  exact bQ_number_113 hx hb hml hr hlocks hown hts hE hf (lv_sub hl [0] rfl) hH
set_option maxHeartbeats 4000000 in
set_option maxRecDepth 100000 in
theorem bQ_number_95 {p : Program} {l : Launch} {e : Env} {s : State} {m : MethodId} {args : Array Value} {below : List Frame} {meth : Method} {c : Code} {G : lc_G} (hx : p.tables.exec = Jvm.exec) (hb : c.code = prog_10_method_11_code) (hml : c.maxLocals = 3) (hr : meth.sig.returnType = (some .int)) (hlocks : meth.locks = false) (hown : s.vm.findClass "LinearCellsModel" = some m.cls) (hts : ∀ w ∈ lc_ALL, w.before args s = true) (hE : lc_E G s) {r : Int32} {z' : lc_S} : ∀ {x1 : Int32} {x2 : Int32} {z : lc_S} {H : Heap} {locs : List Loc} {ls : Array Slot}, fQ_number_95 x1 x2 z = some (r, z') → lv_has ls 3 [(0, .ref (lc_ad G 80)), (1, .int x1), (2, .int x2)] → lc_H G z s.heap H locs → W p l e (lc_rm 1) s m args below meth c H locs 0 0 (MQ below (lc_Q G (some (.int r)) z') args s 0 0 (lc_A G)) (F0 m 95 ls []) := by
  intro x1 x2 z H locs ls hf hl hH
  rw [fQ_number_95] at hf
  refine lv_aload_n hx hb dQ_number_95 rfl (lv_at hl 0 rfl) ?_
  refine lv_aload_n hx hb dQ_number_96 rfl (lv_at hl 0 rfl) ?_
  refine lc_geti hx hb hts hown hE hH flQ_155 lc_h80 rfl dQ_number_97 ?_
  refine lv_if_ne (tgt := 108) hx hb dQ_number_100 (by decide) (fun hc => ?_) (fun hc => ?_)
  · replace hf := lc_ite_neg hc hf
    exact bQ_number_108 hx hb hml hr hlocks hown hts hE hf (lv_sub hl [1] rfl) hH
  · replace hf := lc_ite_pos hc hf
    refine lv_iload_n hx hb dQ_number_103 rfl (lv_at hl 2 rfl) ?_
    refine lv_iconst (v := 4) hx hb dQ_number_104 (by decide) ?_
    refine lv_icmp_le (tgt := 112) hx hb dQ_number_105 (by decide) (fun hc => ?_) (fun hc => ?_)
    · replace hf := lc_ite_pos hc hf
      refine lv_iconst (v := 0) hx hb dQ_number_112 (by decide) ?_
      exact bQ_number_113 hx hb hml hr hlocks hown hts hE hf (lv_sub hl [1] rfl) hH
    · replace hf := lc_ite_neg hc hf
      exact bQ_number_108 hx hb hml hr hlocks hown hts hE hf (lv_sub hl [1] rfl) hH
set_option maxHeartbeats 4000000 in
set_option maxRecDepth 100000 in
theorem bQ_number_30 {p : Program} {l : Launch} {e : Env} {s : State} {m : MethodId} {args : Array Value} {below : List Frame} {meth : Method} {c : Code} {G : lc_G} (hx : p.tables.exec = Jvm.exec) (hb : c.code = prog_10_method_11_code) (hml : c.maxLocals = 3) (hr : meth.sig.returnType = (some .int)) (hlocks : meth.locks = false) (hown : s.vm.findClass "LinearCellsModel" = some m.cls) (hts : ∀ w ∈ lc_ALL, w.before args s = true) (hE : lc_E G s) {r : Int32} {z' : lc_S} : ∀ (n : Nat) {x1 : Int32} {x2 : Int32} {z : lc_S} {H : Heap} {locs : List Loc} {ls : Array Slot}, fQ_number_30 n x1 x2 z = some (r, z') → lv_has ls 3 [(0, .ref (lc_ad G 80)), (1, .int x1), (2, .int x2)] → lc_H G z s.heap H locs → W p l e (lc_rm 1) s m args below meth c H locs 0 0 (MQ below (lc_Q G (some (.int r)) z') args s 0 0 (lc_A G)) (F0 m 30 ls []) := by
  intro n
  induction n with
  | zero =>
    intro x1 x2 z H locs ls hf hl hH
    exact absurd (show (none : Option ((Int32) × lc_S)) = some (r, z') from hf) (fun h => by cases h)
  | succ n ih =>
    intro x1 x2 z H locs ls hf hl hH
    rw [fQ_number_30] at hf
    refine lv_aload_n hx hb dQ_number_30 rfl (lv_at hl 0 rfl) ?_
    refine lc_geti hx hb hts hown hE hH flQ_148 lc_h80 rfl dQ_number_31 ?_
    refine lv_aload_n hx hb dQ_number_34 rfl (lv_at hl 0 rfl) ?_
    refine lc_geti hx hb hts hown hE hH flQ_145 lc_h80 rfl dQ_number_35 ?_
    refine lv_icmp_ge (tgt := 95) hx hb dQ_number_38 (by decide) (fun hc => ?_) (fun hc => ?_)
    · replace hf := lc_ite_pos hc hf
      exact bQ_number_95 hx hb hml hr hlocks hown hts hE hf (lv_sub hl [0, 1, 2] rfl) hH
    · replace hf := lc_ite_neg hc hf
      refine lv_aload_n hx hb dQ_number_41 rfl (lv_at hl 0 rfl) ?_
      refine lc_getf (d := 1) (q := 81) hx hb hts hown hE hH flQ_7 lc_h80 rfl rfl dQ_number_42 ?_
      refine lv_aload_n hx hb dQ_number_45 rfl (lv_at hl 0 rfl) ?_
      refine lc_geti hx hb hts hown hE hH flQ_148 lc_h80 rfl dQ_number_46 ?_
      obtain ⟨hi49, hf⟩ := lc_chk_some hf
      refine lc_iald hx hb hE hH lc_h81 rfl hi49 dQ_number_49 ?_
      obtain ⟨r50, z50, h50, hf⟩ := lc_bnd_some hf
      refine lc_calli (va_runS (As := [.int (lcI z 81 (lcI z 80 13).toNatClampNeg)]) (rest := []) ⟨hx, hb, hml, hown, hts⟩ (cQ_isDigit l G h50) (lc_cwS hts ksQ_166 (lc_room (by decide) (by decide))) (lc_preS hE hH _) rfl rfl hl.1 rfl (lv_room (Nat.le_of_ble_eq_true rfl)) dQ_number_50 ⟨Nat.zero_le _, Nat.zero_le _⟩) hH (fun H locs hH => ?_)
      refine lv_if_eq (tgt := 95) hx hb dQ_number_53 (by decide) (fun hc => ?_) (fun hc => ?_)
      · replace hf := lc_ite_pos hc hf
        exact bQ_number_95 hx hb hml hr hlocks hown hts hE hf (lv_sub hl [0, 1, 2] rfl) hH
      · replace hf := lc_ite_neg hc hf
        refine lv_iload_n hx hb dQ_number_56 rfl (lv_at hl 2 rfl) ?_
        refine lv_iconst (v := 5) hx hb dQ_number_57 (by decide) ?_
        refine lv_icmp_ge (tgt := 95) hx hb dQ_number_58 (by decide) (fun hc => ?_) (fun hc => ?_)
        · replace hf := lc_ite_pos hc hf
          exact bQ_number_95 hx hb hml hr hlocks hown hts hE hf (lv_sub hl [0, 1, 2] rfl) hH
        · replace hf := lc_ite_neg hc hf
          refine lv_bipush (v := 10) hx hb dQ_number_61 (by decide) ?_
          refine lv_iload_n hx hb dQ_number_63 rfl (lv_at hl 1 rfl) ?_
          refine lv_imul hx hb dQ_number_64 ?_
          refine lv_aload_n hx hb dQ_number_65 rfl (lv_at hl 0 rfl) ?_
          refine lc_getf (d := 1) (q := 81) hx hb hts hown hE hH flQ_7 lc_h80 rfl rfl dQ_number_66 ?_
          refine lv_aload_n hx hb dQ_number_69 rfl (lv_at hl 0 rfl) ?_
          refine lc_geti hx hb hts hown hE hH flQ_148 lc_h80 rfl dQ_number_70 ?_
          obtain ⟨hi73, hf⟩ := lc_chk_some hf
          refine lc_iald hx hb hE hH lc_h81 rfl hi73 dQ_number_73 ?_
          refine lv_iadd hx hb dQ_number_74 ?_
          refine lv_bipush (v := 48) hx hb dQ_number_75 (by decide) ?_
          refine lv_isub hx hb dQ_number_77 ?_
          refine lv_topi (fun x78 e78 => ?_)
          replace hf := lc_let_of e78 hf
          refine lv_istore_n hx hb dQ_number_78 rfl hl (by decide) rfl (fun ls hl => ?_)
          replace hl : lv_has ls 3 [(1, .int x78), (0, .ref (lc_ad G 80)), (2, .int x2)] := hl
          refine lv_aload_n hx hb dQ_number_79 rfl (lv_at hl 1 rfl) ?_
          refine lv_dup hx hb dQ_number_80 rfl ?_
          refine lc_geti hx hb hts hown hE hH flQ_148 lc_h80 rfl dQ_number_81 ?_
          refine lv_iconst (v := 1) hx hb dQ_number_84 (by decide) ?_
          refine lv_iadd hx hb dQ_number_85 ?_
          refine lc_puti hx hb hts hown hE hH fpQ_148 lc_h80 rfl rfl rfl dQ_number_86 (fun H locs hH => ?_)
          obtain ⟨x89, e89⟩ : ∃ x : Int32, x = x2 + 1 := ⟨_, rfl⟩
          replace hf := lc_let_of e89 hf
          refine lv_iinc (k := 2) (v := x89) hx hb dQ_number_89 hl rfl ((lc_incv _ (by decide)).trans e89.symm) (by decide) rfl (fun ls hl => ?_)
          replace hl : lv_has ls 3 [(2, .int x89), (1, .int x78), (0, .ref (lc_ad G 80))] := hl
          refine lv_goto (tgt := 30) hx hb dQ_number_92 (by decide) ?_
          exact ih hf (lv_sub hl [2, 1, 0] rfl) hH
set_option maxHeartbeats 4000000 in
set_option maxRecDepth 100000 in
theorem bQ_number_27 {p : Program} {l : Launch} {e : Env} {s : State} {m : MethodId} {args : Array Value} {below : List Frame} {meth : Method} {c : Code} {G : lc_G} (hx : p.tables.exec = Jvm.exec) (hb : c.code = prog_10_method_11_code) (hml : c.maxLocals = 3) (hr : meth.sig.returnType = (some .int)) (hlocks : meth.locks = false) (hown : s.vm.findClass "LinearCellsModel" = some m.cls) (hts : ∀ w ∈ lc_ALL, w.before args s = true) (hE : lc_E G s) {r : Int32} {z' : lc_S} : ∀ {x1 : Int32} {x2 : Int32} {t1 : Int32} {z : lc_S} {H : Heap} {locs : List Loc} {ls : Array Slot}, fQ_number_27 x1 x2 t1 z = some (r, z') → lv_has ls 3 [(0, .ref (lc_ad G 80)), (1, .int x1), (2, .int x2)] → lc_H G z s.heap H locs → W p l e (lc_rm 1) s m args below meth c H locs 0 0 (MQ below (lc_Q G (some (.int r)) z') args s 0 0 (lc_A G)) (F0 m 27 ls [.int t1, .ref (lc_ad G 80)]) := by
  intro x1 x2 t1 z H locs ls hf hl hH
  rw [fQ_number_27] at hf
  obtain ⟨hz27, hf⟩ := lc_chk_some hf
  refine lc_puti hx hb hts hown hE hH fpQ_155 lc_h80 rfl (lc_zn hz27) (lc_zf hz27) dQ_number_27 (fun H locs hH => ?_)
  exact bQ_number_30 hx hb hml hr hlocks hown hts hE _ hf (lv_sub hl [0, 1, 2] rfl) hH
set_option maxHeartbeats 4000000 in
set_option maxRecDepth 100000 in
theorem bQ_number_22 {p : Program} {l : Launch} {e : Env} {s : State} {m : MethodId} {args : Array Value} {below : List Frame} {meth : Method} {c : Code} {G : lc_G} (hx : p.tables.exec = Jvm.exec) (hb : c.code = prog_10_method_11_code) (hml : c.maxLocals = 3) (hr : meth.sig.returnType = (some .int)) (hlocks : meth.locks = false) (hown : s.vm.findClass "LinearCellsModel" = some m.cls) (hts : ∀ w ∈ lc_ALL, w.before args s = true) (hE : lc_E G s) {r : Int32} {z' : lc_S} : ∀ {x1 : Int32} {x2 : Int32} {z : lc_S} {H : Heap} {locs : List Loc} {ls : Array Slot}, fQ_number_22 x1 x2 z = some (r, z') → lv_has ls 3 [(0, .ref (lc_ad G 80)), (1, .int x1), (2, .int x2)] → lc_H G z s.heap H locs → W p l e (lc_rm 1) s m args below meth c H locs 0 0 (MQ below (lc_Q G (some (.int r)) z') args s 0 0 (lc_A G)) (F0 m 22 ls [.ref (lc_ad G 80)]) := by
  intro x1 x2 z H locs ls hf hl hH
  rw [fQ_number_22] at hf
  refine lv_iconst (v := 1) hx hb dQ_number_22 (by decide) ?_
  refine lv_goto (tgt := 27) hx hb dQ_number_23 (by decide) ?_
  exact bQ_number_27 hx hb hml hr hlocks hown hts hE hf (lv_sub hl [0, 1, 2] rfl) hH
set_option maxHeartbeats 4000000 in
set_option maxRecDepth 100000 in
theorem cQ_number (l : Launch) (G : lc_G) {r : Int32} {z z' : lc_S} (hf : fQ_number z = some (r, z')) : lc_M l G yQ_number wQ_number 1 [.ref (lc_ad G 80)] z (some (.int r)) z' := by
  refine lc_M_of (cc := prog_10_method_11_code) (maxL := 3) (ret := (some .int)) (own := "LinearCellsModel") (by decide) rfl (fun w h => List.mem_cons_of_mem _ h) (Nat.le_of_ble_eq_true rfl) rfl ?_
  intro p e s m below meth c hx hb hml hr hlocks hown hts hE ls hl hH
  replace hl : lv_has ls 3 [(0, .ref (lc_ad G 80))] := hl
  rw [fQ_number] at hf
  refine lv_iconst (v := 0) hx hb dQ_number_0 (by decide) ?_
  refine lv_istore_n hx hb dQ_number_1 rfl hl (by decide) rfl (fun ls hl => ?_)
  replace hl : lv_has ls 3 [(1, .int 0), (0, .ref (lc_ad G 80))] := hl
  refine lv_iconst (v := 0) hx hb dQ_number_2 (by decide) ?_
  refine lv_istore_n hx hb dQ_number_3 rfl hl (by decide) rfl (fun ls hl => ?_)
  replace hl : lv_has ls 3 [(2, .int 0), (1, .int 0), (0, .ref (lc_ad G 80))] := hl
  refine lv_aload_n hx hb dQ_number_4 rfl (lv_at hl 2 rfl) ?_
  refine lv_aload_n hx hb dQ_number_5 rfl (lv_at hl 2 rfl) ?_
  refine lc_geti hx hb hts hown hE hH flQ_155 lc_h80 rfl dQ_number_6 ?_
  refine lv_if_ne (tgt := 22) hx hb dQ_number_9 (by decide) (fun hc => ?_) (fun hc => ?_)
  · replace hf := lc_ite_neg hc hf
    exact bQ_number_22 hx hb hml hr hlocks hown hts hE hf (lv_sub hl [2, 1, 0] rfl) hH
  · replace hf := lc_ite_pos hc hf
    refine lv_aload_n hx hb dQ_number_12 rfl (lv_at hl 2 rfl) ?_
    obtain ⟨r13, z13, h13, hf⟩ := lc_bnd_some hf
    refine lc_calli (va_runV (As := []) (rest := [.ref (lc_ad G 80)]) ⟨hx, hb, hml, hown, hts⟩ (cQ_peek l G h13) (lc_cwV hts kvQ_151 (lc_room (by decide) (by decide))) (lc_preV hE hH lc_h80 rfl _) rfl rfl hl.1 rfl (lv_room (Nat.le_of_ble_eq_true rfl)) dQ_number_13 ⟨Nat.zero_le _, Nat.zero_le _⟩) hH (fun H locs hH => ?_)
    obtain ⟨r16, z16, h16, hf⟩ := lc_bnd_some hf
    refine lc_calli (va_runS (As := [.int r13]) (rest := [.ref (lc_ad G 80)]) ⟨hx, hb, hml, hown, hts⟩ (cQ_isDigit l G h16) (lc_cwS hts ksQ_166 (lc_room (by decide) (by decide))) (lc_preS hE hH _) rfl rfl hl.1 rfl (lv_room (Nat.le_of_ble_eq_true rfl)) dQ_number_16 ⟨Nat.zero_le _, Nat.zero_le _⟩) hH (fun H locs hH => ?_)
    refine lv_if_ne (tgt := 26) hx hb dQ_number_19 (by decide) (fun hc => ?_) (fun hc => ?_)
    · replace hf := lc_ite_neg hc hf
      refine lv_iconst (v := 0) hx hb dQ_number_26 (by decide) ?_
      exact bQ_number_27 hx hb hml hr hlocks hown hts hE hf (lv_sub hl [2, 1, 0] rfl) hH
    · replace hf := lc_ite_pos hc hf
      exact bQ_number_22 hx hb hml hr hlocks hown hts hE hf (lv_sub hl [2, 1, 0] rfl) hH
