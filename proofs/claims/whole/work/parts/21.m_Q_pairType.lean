theorem dQ_pairType_0 : decode prog_10_method_23_code 0 = .ok (.iconst 2, 1) := by decide +kernel
theorem dQ_pairType_1 : decode prog_10_method_23_code 1 = .ok (.istore_n 3, 1) := by decide +kernel
theorem dQ_pairType_2 : decode prog_10_method_23_code 2 = .ok (.iload_n 3, 1) := by decide +kernel
theorem dQ_pairType_3 : decode prog_10_method_23_code 3 = .ok (.aload_n 0, 1) := by decide +kernel
theorem dQ_pairType_4 : decode prog_10_method_23_code 4 = .ok (.getfield 223, 3) := by decide +kernel
theorem dQ_pairType_7 : decode prog_10_method_23_code 7 = .ok (.if_icmp .ge 31, 3) := by decide +kernel
theorem dQ_pairType_10 : decode prog_10_method_23_code 10 = .ok (.aload_n 0, 1) := by decide +kernel
theorem dQ_pairType_11 : decode prog_10_method_23_code 11 = .ok (.getfield 62, 3) := by decide +kernel
theorem dQ_pairType_14 : decode prog_10_method_23_code 14 = .ok (.iload_n 3, 1) := by decide +kernel
theorem dQ_pairType_15 : decode prog_10_method_23_code 15 = .ok (.iaload, 1) := by decide +kernel
theorem dQ_pairType_16 : decode prog_10_method_23_code 16 = .ok (.iload_n 1, 1) := by decide +kernel
theorem dQ_pairType_17 : decode prog_10_method_23_code 17 = .ok (.if_icmp .ne 15, 3) := by decide +kernel
theorem dQ_pairType_20 : decode prog_10_method_23_code 20 = .ok (.aload_n 0, 1) := by decide +kernel
theorem dQ_pairType_21 : decode prog_10_method_23_code 21 = .ok (.getfield 65, 3) := by decide +kernel
theorem dQ_pairType_24 : decode prog_10_method_23_code 24 = .ok (.iload_n 3, 1) := by decide +kernel
theorem dQ_pairType_25 : decode prog_10_method_23_code 25 = .ok (.iaload, 1) := by decide +kernel
theorem dQ_pairType_26 : decode prog_10_method_23_code 26 = .ok (.iload_n 2, 1) := by decide +kernel
theorem dQ_pairType_27 : decode prog_10_method_23_code 27 = .ok (.if_icmp .ne 5, 3) := by decide +kernel
theorem dQ_pairType_30 : decode prog_10_method_23_code 30 = .ok (.iload_n 3, 1) := by decide +kernel
theorem dQ_pairType_31 : decode prog_10_method_23_code 31 = .ok (.ireturn, 1) := by decide +kernel
theorem dQ_pairType_32 : decode prog_10_method_23_code 32 = .ok (.iinc 3 1, 3) := by decide +kernel
theorem dQ_pairType_35 : decode prog_10_method_23_code 35 = .ok (.goto (-33), 3) := by decide +kernel
theorem dQ_pairType_38 : decode prog_10_method_23_code 38 = .ok (.aload_n 0, 1) := by decide +kernel
theorem dQ_pairType_39 : decode prog_10_method_23_code 39 = .ok (.getfield 62, 3) := by decide +kernel
theorem dQ_pairType_42 : decode prog_10_method_23_code 42 = .ok (.aload_n 0, 1) := by decide +kernel
theorem dQ_pairType_43 : decode prog_10_method_23_code 43 = .ok (.getfield 223, 3) := by decide +kernel
theorem dQ_pairType_46 : decode prog_10_method_23_code 46 = .ok (.iload_n 1, 1) := by decide +kernel
theorem dQ_pairType_47 : decode prog_10_method_23_code 47 = .ok (.iastore, 1) := by decide +kernel
theorem dQ_pairType_48 : decode prog_10_method_23_code 48 = .ok (.aload_n 0, 1) := by decide +kernel
theorem dQ_pairType_49 : decode prog_10_method_23_code 49 = .ok (.getfield 65, 3) := by decide +kernel
theorem dQ_pairType_52 : decode prog_10_method_23_code 52 = .ok (.aload_n 0, 1) := by decide +kernel
theorem dQ_pairType_53 : decode prog_10_method_23_code 53 = .ok (.getfield 223, 3) := by decide +kernel
theorem dQ_pairType_56 : decode prog_10_method_23_code 56 = .ok (.iload_n 2, 1) := by decide +kernel
theorem dQ_pairType_57 : decode prog_10_method_23_code 57 = .ok (.iastore, 1) := by decide +kernel
theorem dQ_pairType_58 : decode prog_10_method_23_code 58 = .ok (.aload_n 0, 1) := by decide +kernel
theorem dQ_pairType_59 : decode prog_10_method_23_code 59 = .ok (.dup, 1) := by decide +kernel
theorem dQ_pairType_60 : decode prog_10_method_23_code 60 = .ok (.getfield 223, 3) := by decide +kernel
theorem dQ_pairType_63 : decode prog_10_method_23_code 63 = .ok (.iconst 1, 1) := by decide +kernel
theorem dQ_pairType_64 : decode prog_10_method_23_code 64 = .ok (.iadd, 1) := by decide +kernel
theorem dQ_pairType_65 : decode prog_10_method_23_code 65 = .ok (.putfield 223, 3) := by decide +kernel
theorem dQ_pairType_68 : decode prog_10_method_23_code 68 = .ok (.aload_n 0, 1) := by decide +kernel
theorem dQ_pairType_69 : decode prog_10_method_23_code 69 = .ok (.getfield 223, 3) := by decide +kernel
theorem dQ_pairType_72 : decode prog_10_method_23_code 72 = .ok (.iconst 1, 1) := by decide +kernel
theorem dQ_pairType_73 : decode prog_10_method_23_code 73 = .ok (.isub, 1) := by decide +kernel
theorem dQ_pairType_74 : decode prog_10_method_23_code 74 = .ok (.ireturn, 1) := by decide +kernel
def fQ_pairType_32 (k2 : Int32 → Int32 → Int32 → lc_S → Option ((Int32) × lc_S)) (x1 : Int32) (x2 : Int32) (x3 : Int32) (z : lc_S) : Option ((Int32) × lc_S) :=
  lc_let (x3 + 1) (fun x32 => k2 x1 x2 x32 z)
def fQ_pairType_2 : Nat → Int32 → Int32 → Int32 → lc_S → Option ((Int32) × lc_S)
  | 0, _, _, _, _ => none
  | n + 1, x1, x2, x3, z => if (lcI z 80 25) ≤ x3 then (lc_chk (lc_in (lcI z 80 25) 340) (lc_chk (lc_in (lcI (lcUI z 98 (lcI z 80 25).toNatClampNeg x1) 80 25) 340) (some ((lcI (lcUI (lcUI (lcUI z 98 (lcI z 80 25).toNatClampNeg x1) 99 (lcI (lcUI z 98 (lcI z 80 25).toNatClampNeg x1) 80 25).toNatClampNeg x2) 80 25 ((lcI (lcUI (lcUI z 98 (lcI z 80 25).toNatClampNeg x1) 99 (lcI (lcUI z 98 (lcI z 80 25).toNatClampNeg x1) 80 25).toNatClampNeg x2) 80 25) + 1)) 80 25) - 1, lcUI (lcUI (lcUI z 98 (lcI z 80 25).toNatClampNeg x1) 99 (lcI (lcUI z 98 (lcI z 80 25).toNatClampNeg x1) 80 25).toNatClampNeg x2) 80 25 ((lcI (lcUI (lcUI z 98 (lcI z 80 25).toNatClampNeg x1) 99 (lcI (lcUI z 98 (lcI z 80 25).toNatClampNeg x1) 80 25).toNatClampNeg x2) 80 25) + 1))))) else (lc_chk (lc_in x3 340) (if (lcI z 98 x3.toNatClampNeg) = x1 then (lc_chk (lc_in x3 340) (if (lcI z 99 x3.toNatClampNeg) = x2 then (some (x3, z)) else (fQ_pairType_32 (fQ_pairType_2 n) x1 x2 x3 z))) else (fQ_pairType_32 (fQ_pairType_2 n) x1 x2 x3 z)))
def fQ_pairType (a1 : Int32) (a2 : Int32) (z : lc_S) : Option ((Int32) × lc_S) :=
  fQ_pairType_2 lc_FU a1 a2 2 z
set_option maxHeartbeats 4000000 in
set_option maxRecDepth 100000 in
theorem bQ_pairType_32 {p : Program} {l : Launch} {e : Env} {s : State} {m : MethodId} {args : Array Value} {below : List Frame} {meth : Method} {c : Code} {G : lc_G} (hx : p.tables.exec = Jvm.exec) (hb : c.code = prog_10_method_23_code) (hml : c.maxLocals = 4) (hr : meth.sig.returnType = (some .int)) (hlocks : meth.locks = false) (hown : s.vm.findClass "LinearCellsModel" = some m.cls) (hts : ∀ w ∈ lc_ALL, w.before args s = true) (hE : lc_E G s) {k2 : Int32 → Int32 → Int32 → lc_S → Option ((Int32) × lc_S)} {r : Int32} {z' : lc_S} (hk2 : ∀ {x1 : Int32} {x2 : Int32} {x3 : Int32} {z : lc_S} {H : Heap} {locs : List Loc} {ls : Array Slot}, k2 x1 x2 x3 z = some (r, z') → lv_has ls 4 [(0, .ref (lc_ad G 80)), (1, .int x1), (2, .int x2), (3, .int x3)] → lc_H G z s.heap H locs → W p l e (lc_rm 0) s m args below meth c H locs 0 0 (MQ below (lc_Q G (some (.int r)) z') args s 0 0 (lc_A G)) (F0 m 2 ls [])) : ∀ {x1 : Int32} {x2 : Int32} {x3 : Int32} {z : lc_S} {H : Heap} {locs : List Loc} {ls : Array Slot}, fQ_pairType_32 k2 x1 x2 x3 z = some (r, z') → lv_has ls 4 [(0, .ref (lc_ad G 80)), (1, .int x1), (2, .int x2), (3, .int x3)] → lc_H G z s.heap H locs → W p l e (lc_rm 0) s m args below meth c H locs 0 0 (MQ below (lc_Q G (some (.int r)) z') args s 0 0 (lc_A G)) (F0 m 32 ls []) := by
  intro x1 x2 x3 z H locs ls hf hl hH
  rw [fQ_pairType_32] at hf
  obtain ⟨x32, e32⟩ : ∃ x : Int32, x = x3 + 1 := ⟨_, rfl⟩
  replace hf := lc_let_of e32 hf
  refine lv_iinc (k := 3) (v := x32) hx hb dQ_pairType_32 hl rfl ((lc_incv _ (by decide)).trans e32.symm) (by decide) rfl (fun ls hl => ?_)
  replace hl : lv_has ls 4 [(3, .int x32), (0, .ref (lc_ad G 80)), (1, .int x1), (2, .int x2)] := hl
  refine lv_goto (tgt := 2) hx hb dQ_pairType_35 (by decide) ?_
  exact hk2 hf (lv_sub hl [1, 2, 3, 0] rfl) hH
set_option maxHeartbeats 4000000 in
set_option maxRecDepth 100000 in
theorem bQ_pairType_2 {p : Program} {l : Launch} {e : Env} {s : State} {m : MethodId} {args : Array Value} {below : List Frame} {meth : Method} {c : Code} {G : lc_G} (hx : p.tables.exec = Jvm.exec) (hb : c.code = prog_10_method_23_code) (hml : c.maxLocals = 4) (hr : meth.sig.returnType = (some .int)) (hlocks : meth.locks = false) (hown : s.vm.findClass "LinearCellsModel" = some m.cls) (hts : ∀ w ∈ lc_ALL, w.before args s = true) (hE : lc_E G s) {r : Int32} {z' : lc_S} : ∀ (n : Nat) {x1 : Int32} {x2 : Int32} {x3 : Int32} {z : lc_S} {H : Heap} {locs : List Loc} {ls : Array Slot}, fQ_pairType_2 n x1 x2 x3 z = some (r, z') → lv_has ls 4 [(0, .ref (lc_ad G 80)), (1, .int x1), (2, .int x2), (3, .int x3)] → lc_H G z s.heap H locs → W p l e (lc_rm 0) s m args below meth c H locs 0 0 (MQ below (lc_Q G (some (.int r)) z') args s 0 0 (lc_A G)) (F0 m 2 ls []) := by
  intro n
  induction n with
  | zero =>
    intro x1 x2 x3 z H locs ls hf hl hH
    exact absurd (show (none : Option ((Int32) × lc_S)) = some (r, z') from hf) (fun h => by cases h)
  | succ n ih =>
    intro x1 x2 x3 z H locs ls hf hl hH
    rw [fQ_pairType_2] at hf
    refine lv_iload_n hx hb dQ_pairType_2 rfl (lv_at hl 3 rfl) ?_
    refine lv_aload_n hx hb dQ_pairType_3 rfl (lv_at hl 0 rfl) ?_
    refine lc_geti hx hb hts hown hE hH flQ_223 lc_h80 rfl dQ_pairType_4 ?_
    refine lv_icmp_ge (tgt := 38) hx hb dQ_pairType_7 (by decide) (fun hc => ?_) (fun hc => ?_)
    · replace hf := lc_ite_pos hc hf
      refine lv_aload_n hx hb dQ_pairType_38 rfl (lv_at hl 0 rfl) ?_
      refine lc_getf (d := 18) (q := 98) hx hb hts hown hE hH flQ_62 lc_h80 rfl rfl dQ_pairType_39 ?_
      refine lv_aload_n hx hb dQ_pairType_42 rfl (lv_at hl 0 rfl) ?_
      refine lc_geti hx hb hts hown hE hH flQ_223 lc_h80 rfl dQ_pairType_43 ?_
      refine lv_iload_n hx hb dQ_pairType_46 rfl (lv_at hl 1 rfl) ?_
      obtain ⟨hi47, hf⟩ := lc_chk_some hf
      refine lc_iast hx hb hE hH lc_h98 rfl hi47 dQ_pairType_47 (fun H locs hH => ?_)
      refine lv_aload_n hx hb dQ_pairType_48 rfl (lv_at hl 0 rfl) ?_
      refine lc_getf (d := 19) (q := 99) hx hb hts hown hE hH flQ_65 lc_h80 rfl rfl dQ_pairType_49 ?_
      refine lv_aload_n hx hb dQ_pairType_52 rfl (lv_at hl 0 rfl) ?_
      refine lc_geti hx hb hts hown hE hH flQ_223 lc_h80 rfl dQ_pairType_53 ?_
      refine lv_iload_n hx hb dQ_pairType_56 rfl (lv_at hl 2 rfl) ?_
      obtain ⟨hi57, hf⟩ := lc_chk_some hf
      refine lc_iast hx hb hE hH lc_h99 rfl hi57 dQ_pairType_57 (fun H locs hH => ?_)
      refine lv_aload_n hx hb dQ_pairType_58 rfl (lv_at hl 0 rfl) ?_
      refine lv_dup hx hb dQ_pairType_59 rfl ?_
      refine lc_geti hx hb hts hown hE hH flQ_223 lc_h80 rfl dQ_pairType_60 ?_
      refine lv_iconst (v := 1) hx hb dQ_pairType_63 (by decide) ?_
      refine lv_iadd hx hb dQ_pairType_64 ?_
      refine lc_puti hx hb hts hown hE hH fpQ_223 lc_h80 rfl rfl rfl dQ_pairType_65 (fun H locs hH => ?_)
      refine lv_aload_n hx hb dQ_pairType_68 rfl (lv_at hl 0 rfl) ?_
      refine lc_geti hx hb hts hown hE hH flQ_223 lc_h80 rfl dQ_pairType_69 ?_
      refine lv_iconst (v := 1) hx hb dQ_pairType_72 (by decide) ?_
      refine lv_isub hx hb dQ_pairType_73 ?_
      exact lc_iret hx hb hr hlocks hH hf dQ_pairType_74
    · replace hf := lc_ite_neg hc hf
      refine lv_aload_n hx hb dQ_pairType_10 rfl (lv_at hl 0 rfl) ?_
      refine lc_getf (d := 18) (q := 98) hx hb hts hown hE hH flQ_62 lc_h80 rfl rfl dQ_pairType_11 ?_
      refine lv_iload_n hx hb dQ_pairType_14 rfl (lv_at hl 3 rfl) ?_
      obtain ⟨hi15, hf⟩ := lc_chk_some hf
      refine lc_iald hx hb hE hH lc_h98 rfl hi15 dQ_pairType_15 ?_
      refine lv_iload_n hx hb dQ_pairType_16 rfl (lv_at hl 1 rfl) ?_
      refine lv_icmp_ne (tgt := 32) hx hb dQ_pairType_17 (by decide) (fun hc => ?_) (fun hc => ?_)
      · replace hf := lc_ite_neg hc hf
        exact bQ_pairType_32 hx hb hml hr hlocks hown hts hE (fun hf hl hH => ih hf hl hH) hf (lv_sub hl [0, 1, 2, 3] rfl) hH
      · replace hf := lc_ite_pos hc hf
        refine lv_aload_n hx hb dQ_pairType_20 rfl (lv_at hl 0 rfl) ?_
        refine lc_getf (d := 19) (q := 99) hx hb hts hown hE hH flQ_65 lc_h80 rfl rfl dQ_pairType_21 ?_
        refine lv_iload_n hx hb dQ_pairType_24 rfl (lv_at hl 3 rfl) ?_
        obtain ⟨hi25, hf⟩ := lc_chk_some hf
        refine lc_iald hx hb hE hH lc_h99 rfl hi25 dQ_pairType_25 ?_
        refine lv_iload_n hx hb dQ_pairType_26 rfl (lv_at hl 2 rfl) ?_
        refine lv_icmp_ne (tgt := 32) hx hb dQ_pairType_27 (by decide) (fun hc => ?_) (fun hc => ?_)
        · replace hf := lc_ite_neg hc hf
          exact bQ_pairType_32 hx hb hml hr hlocks hown hts hE (fun hf hl hH => ih hf hl hH) hf (lv_sub hl [0, 1, 2, 3] rfl) hH
        · replace hf := lc_ite_pos hc hf
          refine lv_iload_n hx hb dQ_pairType_30 rfl (lv_at hl 3 rfl) ?_
          exact lc_iret hx hb hr hlocks hH hf dQ_pairType_31
set_option maxHeartbeats 4000000 in
set_option maxRecDepth 100000 in
theorem cQ_pairType (l : Launch) (G : lc_G) {a1 : Int32} {a2 : Int32} {r : Int32} {z z' : lc_S} (hf : fQ_pairType a1 a2 z = some (r, z')) : lc_M l G yQ_pairType wQ_pairType 0 [.ref (lc_ad G 80), .int a1, .int a2] z (some (.int r)) z' := by
  refine lc_M_of (cc := prog_10_method_23_code) (maxL := 4) (ret := (some .int)) (own := "LinearCellsModel") (by decide) rfl (fun w h => List.mem_cons_of_mem _ h) (Nat.le_of_ble_eq_true rfl) rfl ?_
  intro p e s m below meth c hx hb hml hr hlocks hown hts hE ls hl hH
  replace hl : lv_has ls 4 [(0, .ref (lc_ad G 80)), (1, .int a1), (2, .int a2)] := hl
  rw [fQ_pairType] at hf
  refine lv_iconst (v := 2) hx hb dQ_pairType_0 (by decide) ?_
  refine lv_istore_n hx hb dQ_pairType_1 rfl hl (by decide) rfl (fun ls hl => ?_)
  replace hl : lv_has ls 4 [(3, .int 2), (0, .ref (lc_ad G 80)), (1, .int a1), (2, .int a2)] := hl
  exact bQ_pairType_2 hx hb hml hr hlocks hown hts hE _ hf (lv_sub hl [1, 2, 3, 0] rfl) hH
theorem dQ_typeIn_0 : decode prog_10_method_24_code 0 = .ok (.iconst 0, 1) := by decide +kernel
theorem dQ_typeIn_1 : decode prog_10_method_24_code 1 = .ok (.istore_n 3, 1) := by decide +kernel
theorem dQ_typeIn_2 : decode prog_10_method_24_code 2 = .ok (.aload_n 1, 1) := by decide +kernel
theorem dQ_typeIn_3 : decode prog_10_method_24_code 3 = .ok (.iload_n 2, 1) := by decide +kernel
theorem dQ_typeIn_4 : decode prog_10_method_24_code 4 = .ok (.iload_n 3, 1) := by decide +kernel
theorem dQ_typeIn_5 : decode prog_10_method_24_code 5 = .ok (.iadd, 1) := by decide +kernel
theorem dQ_typeIn_6 : decode prog_10_method_24_code 6 = .ok (.iaload, 1) := by decide +kernel
theorem dQ_typeIn_7 : decode prog_10_method_24_code 7 = .ok (.ifCond .eq 9, 3) := by decide +kernel
theorem dQ_typeIn_10 : decode prog_10_method_24_code 10 = .ok (.iinc 3 1, 3) := by decide +kernel
theorem dQ_typeIn_13 : decode prog_10_method_24_code 13 = .ok (.goto (-11), 3) := by decide +kernel
theorem dQ_typeIn_16 : decode prog_10_method_24_code 16 = .ok (.aload_n 0, 1) := by decide +kernel
theorem dQ_typeIn_17 : decode prog_10_method_24_code 17 = .ok (.iconst 0, 1) := by decide +kernel
theorem dQ_typeIn_18 : decode prog_10_method_24_code 18 = .ok (.putfield 169, 3) := by decide +kernel
theorem dQ_typeIn_21 : decode prog_10_method_24_code 21 = .ok (.iload_n 3, 1) := by decide +kernel
theorem dQ_typeIn_22 : decode prog_10_method_24_code 22 = .ok (.iconst 1, 1) := by decide +kernel
theorem dQ_typeIn_23 : decode prog_10_method_24_code 23 = .ok (.isub, 1) := by decide +kernel
theorem dQ_typeIn_24 : decode prog_10_method_24_code 24 = .ok (.istore 4, 2) := by decide +kernel
theorem dQ_typeIn_26 : decode prog_10_method_24_code 26 = .ok (.iload 4, 2) := by decide +kernel
theorem dQ_typeIn_28 : decode prog_10_method_24_code 28 = .ok (.ifCond .lt 103, 3) := by decide +kernel
theorem dQ_typeIn_31 : decode prog_10_method_24_code 31 = .ok (.aload_n 1, 1) := by decide +kernel
theorem dQ_typeIn_32 : decode prog_10_method_24_code 32 = .ok (.iload_n 2, 1) := by decide +kernel
theorem dQ_typeIn_33 : decode prog_10_method_24_code 33 = .ok (.iload 4, 2) := by decide +kernel
theorem dQ_typeIn_35 : decode prog_10_method_24_code 35 = .ok (.iadd, 1) := by decide +kernel
theorem dQ_typeIn_36 : decode prog_10_method_24_code 36 = .ok (.iaload, 1) := by decide +kernel
theorem dQ_typeIn_37 : decode prog_10_method_24_code 37 = .ok (.istore 5, 2) := by decide +kernel
theorem dQ_typeIn_39 : decode prog_10_method_24_code 39 = .ok (.iload 5, 2) := by decide +kernel
theorem dQ_typeIn_41 : decode prog_10_method_24_code 41 = .ok (.bipush 40, 2) := by decide +kernel
theorem dQ_typeIn_43 : decode prog_10_method_24_code 43 = .ok (.if_icmp .ne 51, 3) := by decide +kernel
theorem dQ_typeIn_46 : decode prog_10_method_24_code 46 = .ok (.aload_n 0, 1) := by decide +kernel
theorem dQ_typeIn_47 : decode prog_10_method_24_code 47 = .ok (.dup, 1) := by decide +kernel
theorem dQ_typeIn_48 : decode prog_10_method_24_code 48 = .ok (.getfield 169, 3) := by decide +kernel
theorem dQ_typeIn_51 : decode prog_10_method_24_code 51 = .ok (.iconst 1, 1) := by decide +kernel
theorem dQ_typeIn_52 : decode prog_10_method_24_code 52 = .ok (.isub, 1) := by decide +kernel
theorem dQ_typeIn_53 : decode prog_10_method_24_code 53 = .ok (.putfield 169, 3) := by decide +kernel
theorem dQ_typeIn_56 : decode prog_10_method_24_code 56 = .ok (.aload_n 0, 1) := by decide +kernel
theorem dQ_typeIn_57 : decode prog_10_method_24_code 57 = .ok (.getfield 59, 3) := by decide +kernel
theorem dQ_typeIn_60 : decode prog_10_method_24_code 60 = .ok (.aload_n 0, 1) := by decide +kernel
theorem dQ_typeIn_61 : decode prog_10_method_24_code 61 = .ok (.getfield 169, 3) := by decide +kernel
theorem dQ_typeIn_64 : decode prog_10_method_24_code 64 = .ok (.iconst 1, 1) := by decide +kernel
theorem dQ_typeIn_65 : decode prog_10_method_24_code 65 = .ok (.isub, 1) := by decide +kernel
theorem dQ_typeIn_66 : decode prog_10_method_24_code 66 = .ok (.aload_n 0, 1) := by decide +kernel
theorem dQ_typeIn_67 : decode prog_10_method_24_code 67 = .ok (.aload_n 0, 1) := by decide +kernel
theorem dQ_typeIn_68 : decode prog_10_method_24_code 68 = .ok (.getfield 59, 3) := by decide +kernel
theorem dQ_typeIn_71 : decode prog_10_method_24_code 71 = .ok (.aload_n 0, 1) := by decide +kernel
theorem dQ_typeIn_72 : decode prog_10_method_24_code 72 = .ok (.getfield 169, 3) := by decide +kernel
theorem dQ_typeIn_75 : decode prog_10_method_24_code 75 = .ok (.iaload, 1) := by decide +kernel
theorem dQ_typeIn_76 : decode prog_10_method_24_code 76 = .ok (.aload_n 0, 1) := by decide +kernel
theorem dQ_typeIn_77 : decode prog_10_method_24_code 77 = .ok (.getfield 59, 3) := by decide +kernel
theorem dQ_typeIn_80 : decode prog_10_method_24_code 80 = .ok (.aload_n 0, 1) := by decide +kernel
theorem dQ_typeIn_81 : decode prog_10_method_24_code 81 = .ok (.getfield 169, 3) := by decide +kernel
theorem dQ_typeIn_84 : decode prog_10_method_24_code 84 = .ok (.iconst 1, 1) := by decide +kernel
theorem dQ_typeIn_85 : decode prog_10_method_24_code 85 = .ok (.isub, 1) := by decide +kernel
theorem dQ_typeIn_86 : decode prog_10_method_24_code 86 = .ok (.iaload, 1) := by decide +kernel
theorem dQ_typeIn_87 : decode prog_10_method_24_code 87 = .ok (.invokevirtual 226, 3) := by decide +kernel
theorem dQ_typeIn_90 : decode prog_10_method_24_code 90 = .ok (.iastore, 1) := by decide +kernel
theorem dQ_typeIn_91 : decode prog_10_method_24_code 91 = .ok (.goto 34, 3) := by decide +kernel
theorem dQ_typeIn_94 : decode prog_10_method_24_code 94 = .ok (.aload_n 0, 1) := by decide +kernel
theorem dQ_typeIn_95 : decode prog_10_method_24_code 95 = .ok (.getfield 59, 3) := by decide +kernel
theorem dQ_typeIn_98 : decode prog_10_method_24_code 98 = .ok (.aload_n 0, 1) := by decide +kernel
theorem dQ_typeIn_99 : decode prog_10_method_24_code 99 = .ok (.getfield 169, 3) := by decide +kernel
theorem dQ_typeIn_102 : decode prog_10_method_24_code 102 = .ok (.iload 5, 2) := by decide +kernel
theorem dQ_typeIn_104 : decode prog_10_method_24_code 104 = .ok (.bipush 105, 2) := by decide +kernel
theorem dQ_typeIn_106 : decode prog_10_method_24_code 106 = .ok (.if_icmp .ne 7, 3) := by decide +kernel
theorem dQ_typeIn_109 : decode prog_10_method_24_code 109 = .ok (.iconst 0, 1) := by decide +kernel
theorem dQ_typeIn_110 : decode prog_10_method_24_code 110 = .ok (.goto 4, 3) := by decide +kernel
theorem dQ_typeIn_113 : decode prog_10_method_24_code 113 = .ok (.iconst 1, 1) := by decide +kernel
theorem dQ_typeIn_114 : decode prog_10_method_24_code 114 = .ok (.iastore, 1) := by decide +kernel
theorem dQ_typeIn_115 : decode prog_10_method_24_code 115 = .ok (.aload_n 0, 1) := by decide +kernel
theorem dQ_typeIn_116 : decode prog_10_method_24_code 116 = .ok (.dup, 1) := by decide +kernel
theorem dQ_typeIn_117 : decode prog_10_method_24_code 117 = .ok (.getfield 169, 3) := by decide +kernel
theorem dQ_typeIn_120 : decode prog_10_method_24_code 120 = .ok (.iconst 1, 1) := by decide +kernel
theorem dQ_typeIn_121 : decode prog_10_method_24_code 121 = .ok (.iadd, 1) := by decide +kernel
theorem dQ_typeIn_122 : decode prog_10_method_24_code 122 = .ok (.putfield 169, 3) := by decide +kernel
theorem dQ_typeIn_125 : decode prog_10_method_24_code 125 = .ok (.iinc 4 (-1), 3) := by decide +kernel
theorem dQ_typeIn_128 : decode prog_10_method_24_code 128 = .ok (.goto (-102), 3) := by decide +kernel
theorem dQ_typeIn_131 : decode prog_10_method_24_code 131 = .ok (.aload_n 0, 1) := by decide +kernel
theorem dQ_typeIn_132 : decode prog_10_method_24_code 132 = .ok (.getfield 59, 3) := by decide +kernel
theorem dQ_typeIn_135 : decode prog_10_method_24_code 135 = .ok (.iconst 0, 1) := by decide +kernel
theorem dQ_typeIn_136 : decode prog_10_method_24_code 136 = .ok (.iaload, 1) := by decide +kernel
theorem dQ_typeIn_137 : decode prog_10_method_24_code 137 = .ok (.ireturn, 1) := by decide +kernel
def fQ_typeIn_125 (k26 : Nat → Int32 → Int32 → lc_S → Option ((Int32) × lc_S)) (p1 : Nat) (x2 : Int32) (x4 : Int32) (z : lc_S) : Option ((Int32) × lc_S) :=
  lc_let (x4 + (-1)) (fun x125 => k26 p1 x2 x125 z)
def fQ_typeIn_114 (k26 : Nat → Int32 → Int32 → lc_S → Option ((Int32) × lc_S)) (p1 : Nat) (x2 : Int32) (x4 : Int32) (t1 : Int32) (t2 : Int32) (z : lc_S) : Option ((Int32) × lc_S) :=
  lc_chk (lc_in t1 128) (fQ_typeIn_125 k26 p1 x2 x4 (lcUI (lcUI z 97 t1.toNatClampNeg t2) 80 23 ((lcI (lcUI z 97 t1.toNatClampNeg t2) 80 23) + 1)))
def fQ_typeIn_26 : Nat → Nat → Int32 → Int32 → lc_S → Option ((Int32) × lc_S)
  | 0, _, _, _, _ => none
  | n + 1, p1, x2, x4, z => if x4 < 0 then (some (lcI z 97 (0 : Int32).toNatClampNeg, z)) else (lc_chk (lc_sh p1 = (1, 0, 600)) (lc_chk (lc_in (x2 + x4) 600) (lc_let (lcI z p1 (x2 + x4).toNatClampNeg) (fun x37 => if x37 = 40 then (lc_chk (lc_in (lcI (lcUI z 80 23 ((lcI z 80 23) - 1)) 80 23) 128) (lc_chk (lc_in ((lcI (lcUI z 80 23 ((lcI z 80 23) - 1)) 80 23) - 1) 128) (lc_bnd (fQ_pairType (lcI (lcUI z 80 23 ((lcI z 80 23) - 1)) 97 (lcI (lcUI z 80 23 ((lcI z 80 23) - 1)) 80 23).toNatClampNeg) (lcI (lcUI z 80 23 ((lcI z 80 23) - 1)) 97 ((lcI (lcUI z 80 23 ((lcI z 80 23) - 1)) 80 23) - 1).toNatClampNeg) (lcUI z 80 23 ((lcI z 80 23) - 1))) (fun r87 z87 => lc_chk (lc_in ((lcI (lcUI z 80 23 ((lcI z 80 23) - 1)) 80 23) - 1) 128) (fQ_typeIn_125 (fQ_typeIn_26 n) p1 x2 x4 (lcUI z87 97 ((lcI (lcUI z 80 23 ((lcI z 80 23) - 1)) 80 23) - 1).toNatClampNeg r87)))))) else (if x37 = 105 then (fQ_typeIn_114 (fQ_typeIn_26 n) p1 x2 x4 (lcI z 80 23) 0 z) else (fQ_typeIn_114 (fQ_typeIn_26 n) p1 x2 x4 (lcI z 80 23) 1 z))))))
def fQ_typeIn_2 : Nat → Nat → Int32 → Int32 → lc_S → Option ((Int32) × lc_S)
  | 0, _, _, _, _ => none
  | n + 1, p1, x2, x3, z => lc_chk (lc_sh p1 = (1, 0, 600)) (lc_chk (lc_in (x2 + x3) 600) (if (lcI z p1 (x2 + x3).toNatClampNeg) = 0 then (lc_let (x3 - 1) (fun x24 => fQ_typeIn_26 lc_FU p1 x2 x24 (lcUI z 80 23 0))) else (lc_let (x3 + 1) (fun x10 => fQ_typeIn_2 n p1 x2 x10 z))))
def fQ_typeIn (a1 : Nat) (a2 : Int32) (z : lc_S) : Option ((Int32) × lc_S) :=
  fQ_typeIn_2 lc_FU a1 a2 0 z
set_option maxHeartbeats 4000000 in
set_option maxRecDepth 100000 in
theorem bQ_typeIn_125 {p : Program} {l : Launch} {e : Env} {s : State} {m : MethodId} {args : Array Value} {below : List Frame} {meth : Method} {c : Code} {G : lc_G} (hx : p.tables.exec = Jvm.exec) (hb : c.code = prog_10_method_24_code) (hml : c.maxLocals = 6) (hr : meth.sig.returnType = (some .int)) (hlocks : meth.locks = false) (hown : s.vm.findClass "LinearCellsModel" = some m.cls) (hts : ∀ w ∈ lc_ALL, w.before args s = true) (hE : lc_E G s) {k26 : Nat → Int32 → Int32 → lc_S → Option ((Int32) × lc_S)} {r : Int32} {z' : lc_S} (hk26 : ∀ {p1 : Nat} {x2 : Int32} {x4 : Int32} {z : lc_S} {H : Heap} {locs : List Loc} {ls : Array Slot}, k26 p1 x2 x4 z = some (r, z') → lv_has ls 6 [(0, .ref (lc_ad G 80)), (1, .ref (lc_ad G p1)), (2, .int x2), (4, .int x4)] → lc_H G z s.heap H locs → W p l e (lc_rm 1) s m args below meth c H locs 0 0 (MQ below (lc_Q G (some (.int r)) z') args s 0 0 (lc_A G)) (F0 m 26 ls [])) : ∀ {p1 : Nat} {x2 : Int32} {x4 : Int32} {z : lc_S} {H : Heap} {locs : List Loc} {ls : Array Slot}, fQ_typeIn_125 k26 p1 x2 x4 z = some (r, z') → lv_has ls 6 [(0, .ref (lc_ad G 80)), (1, .ref (lc_ad G p1)), (2, .int x2), (4, .int x4)] → lc_H G z s.heap H locs → W p l e (lc_rm 1) s m args below meth c H locs 0 0 (MQ below (lc_Q G (some (.int r)) z') args s 0 0 (lc_A G)) (F0 m 125 ls []) := by
  intro p1 x2 x4 z H locs ls hf hl hH
  rw [fQ_typeIn_125] at hf
  obtain ⟨x125, e125⟩ : ∃ x : Int32, x = x4 + (-1) := ⟨_, rfl⟩
  replace hf := lc_let_of e125 hf
  refine lv_iinc (k := 3) (v := x125) hx hb dQ_typeIn_125 hl rfl ((lc_incv _ (by decide)).trans e125.symm) (by decide) rfl (fun ls hl => ?_)
  replace hl : lv_has ls 6 [(4, .int x125), (0, .ref (lc_ad G 80)), (1, .ref (lc_ad G p1)), (2, .int x2)] := hl
  refine lv_goto (tgt := 26) hx hb dQ_typeIn_128 (by decide) ?_
  exact hk26 hf (lv_sub hl [1, 2, 3, 0] rfl) hH
set_option maxHeartbeats 4000000 in
set_option maxRecDepth 100000 in
theorem bQ_typeIn_114 {p : Program} {l : Launch} {e : Env} {s : State} {m : MethodId} {args : Array Value} {below : List Frame} {meth : Method} {c : Code} {G : lc_G} (hx : p.tables.exec = Jvm.exec) (hb : c.code = prog_10_method_24_code) (hml : c.maxLocals = 6) (hr : meth.sig.returnType = (some .int)) (hlocks : meth.locks = false) (hown : s.vm.findClass "LinearCellsModel" = some m.cls) (hts : ∀ w ∈ lc_ALL, w.before args s = true) (hE : lc_E G s) {k26 : Nat → Int32 → Int32 → lc_S → Option ((Int32) × lc_S)} {r : Int32} {z' : lc_S} (hk26 : ∀ {p1 : Nat} {x2 : Int32} {x4 : Int32} {z : lc_S} {H : Heap} {locs : List Loc} {ls : Array Slot}, k26 p1 x2 x4 z = some (r, z') → lv_has ls 6 [(0, .ref (lc_ad G 80)), (1, .ref (lc_ad G p1)), (2, .int x2), (4, .int x4)] → lc_H G z s.heap H locs → W p l e (lc_rm 1) s m args below meth c H locs 0 0 (MQ below (lc_Q G (some (.int r)) z') args s 0 0 (lc_A G)) (F0 m 26 ls [])) : ∀ {p1 : Nat} {x2 : Int32} {x4 : Int32} {t1 : Int32} {t2 : Int32} {z : lc_S} {H : Heap} {locs : List Loc} {ls : Array Slot}, fQ_typeIn_114 k26 p1 x2 x4 t1 t2 z = some (r, z') → lv_has ls 6 [(0, .ref (lc_ad G 80)), (1, .ref (lc_ad G p1)), (2, .int x2), (4, .int x4)] → lc_H G z s.heap H locs → W p l e (lc_rm 1) s m args below meth c H locs 0 0 (MQ below (lc_Q G (some (.int r)) z') args s 0 0 (lc_A G)) (F0 m 114 ls [.int t2, .int t1, .ref (lc_ad G 97)]) := by
  intro p1 x2 x4 t1 t2 z H locs ls hf hl hH
  rw [fQ_typeIn_114] at hf
  obtain ⟨hi114, hf⟩ := lc_chk_some hf
  refine lc_iast hx hb hE hH lc_h97 rfl hi114 dQ_typeIn_114 (fun H locs hH => ?_)
  refine lv_aload_n hx hb dQ_typeIn_115 rfl (lv_at hl 0 rfl) ?_
  refine lv_dup hx hb dQ_typeIn_116 rfl ?_
  refine lc_geti hx hb hts hown hE hH flQ_169 lc_h80 rfl dQ_typeIn_117 ?_
  refine lv_iconst (v := 1) hx hb dQ_typeIn_120 (by decide) ?_
  refine lv_iadd hx hb dQ_typeIn_121 ?_
  refine lc_puti hx hb hts hown hE hH fpQ_169 lc_h80 rfl rfl rfl dQ_typeIn_122 (fun H locs hH => ?_)
  exact bQ_typeIn_125 hx hb hml hr hlocks hown hts hE (fun hf hl hH => hk26 hf hl hH) hf (lv_sub hl [0, 1, 2, 3] rfl) hH
set_option maxHeartbeats 4000000 in
set_option maxRecDepth 100000 in
theorem bQ_typeIn_26 {p : Program} {l : Launch} {e : Env} {s : State} {m : MethodId} {args : Array Value} {below : List Frame} {meth : Method} {c : Code} {G : lc_G} (hx : p.tables.exec = Jvm.exec) (hb : c.code = prog_10_method_24_code) (hml : c.maxLocals = 6) (hr : meth.sig.returnType = (some .int)) (hlocks : meth.locks = false) (hown : s.vm.findClass "LinearCellsModel" = some m.cls) (hts : ∀ w ∈ lc_ALL, w.before args s = true) (hE : lc_E G s) {r : Int32} {z' : lc_S} : ∀ (n : Nat) {p1 : Nat} {x2 : Int32} {x4 : Int32} {z : lc_S} {H : Heap} {locs : List Loc} {ls : Array Slot}, fQ_typeIn_26 n p1 x2 x4 z = some (r, z') → lv_has ls 6 [(0, .ref (lc_ad G 80)), (1, .ref (lc_ad G p1)), (2, .int x2), (4, .int x4)] → lc_H G z s.heap H locs → W p l e (lc_rm 1) s m args below meth c H locs 0 0 (MQ below (lc_Q G (some (.int r)) z') args s 0 0 (lc_A G)) (F0 m 26 ls []) := by
  intro n
  induction n with
  | zero =>
    intro p1 x2 x4 z H locs ls hf hl hH
    exact absurd (show (none : Option ((Int32) × lc_S)) = some (r, z') from hf) (fun h => by cases h)
  | succ n ih =>
    intro p1 x2 x4 z H locs ls hf hl hH
    rw [fQ_typeIn_26] at hf
    refine lv_iload hx hb dQ_typeIn_26 (lv_at hl 3 rfl) ?_
    refine lv_if_lt (tgt := 131) hx hb dQ_typeIn_28 (by decide) (fun hc => ?_) (fun hc => ?_)
    · replace hf := lc_ite_pos hc hf
      refine lv_aload_n hx hb dQ_typeIn_131 rfl (lv_at hl 0 rfl) ?_
      refine lc_getf (d := 17) (q := 97) hx hb hts hown hE hH flQ_59 lc_h80 rfl rfl dQ_typeIn_132 ?_
      refine lv_iconst (v := 0) hx hb dQ_typeIn_135 (by decide) ?_
      refine lc_iald hx hb hE hH lc_h97 rfl (by decide) dQ_typeIn_136 ?_
      exact lc_iret hx hb hr hlocks hH hf dQ_typeIn_137
    · replace hf := lc_ite_neg hc hf
      refine lv_aload_n hx hb dQ_typeIn_31 rfl (lv_at hl 1 rfl) ?_
      refine lv_iload_n hx hb dQ_typeIn_32 rfl (lv_at hl 2 rfl) ?_
      refine lv_iload hx hb dQ_typeIn_33 (lv_at hl 3 rfl) ?_
      refine lv_iadd hx hb dQ_typeIn_35 ?_
      obtain ⟨hs36_0, hf⟩ := lc_chk_some hf
      obtain ⟨hi36, hf⟩ := lc_chk_some hf
      refine lc_iald hx hb hE hH hs36_0 rfl hi36 dQ_typeIn_36 ?_
      refine lv_topi (fun x37 e37 => ?_)
      replace hf := lc_let_of e37 hf
      refine lv_istore hx hb dQ_typeIn_37 hl (by decide) rfl (fun ls hl => ?_)
      replace hl : lv_has ls 6 [(5, .int x37), (0, .ref (lc_ad G 80)), (1, .ref (lc_ad G p1)), (2, .int x2), (4, .int x4)] := hl
      refine lv_iload hx hb dQ_typeIn_39 (lv_at hl 0 rfl) ?_
      refine lv_bipush (v := 40) hx hb dQ_typeIn_41 (by decide) ?_
      refine lv_icmp_ne (tgt := 94) hx hb dQ_typeIn_43 (by decide) (fun hc => ?_) (fun hc => ?_)
      · replace hf := lc_ite_neg hc hf
        refine lv_aload_n hx hb dQ_typeIn_94 rfl (lv_at hl 1 rfl) ?_
        refine lc_getf (d := 17) (q := 97) hx hb hts hown hE hH flQ_59 lc_h80 rfl rfl dQ_typeIn_95 ?_
        refine lv_aload_n hx hb dQ_typeIn_98 rfl (lv_at hl 1 rfl) ?_
        refine lc_geti hx hb hts hown hE hH flQ_169 lc_h80 rfl dQ_typeIn_99 ?_
        refine lv_iload hx hb dQ_typeIn_102 (lv_at hl 0 rfl) ?_
        refine lv_bipush (v := 105) hx hb dQ_typeIn_104 (by decide) ?_
        refine lv_icmp_ne (tgt := 113) hx hb dQ_typeIn_106 (by decide) (fun hc => ?_) (fun hc => ?_)
        · replace hf := lc_ite_neg hc hf
          refine lv_iconst (v := 1) hx hb dQ_typeIn_113 (by decide) ?_
          exact bQ_typeIn_114 hx hb hml hr hlocks hown hts hE (fun hf hl hH => ih hf hl hH) hf (lv_sub hl [1, 2, 3, 4] rfl) hH
        · replace hf := lc_ite_pos hc hf
          refine lv_iconst (v := 0) hx hb dQ_typeIn_109 (by decide) ?_
          refine lv_goto (tgt := 114) hx hb dQ_typeIn_110 (by decide) ?_
          exact bQ_typeIn_114 hx hb hml hr hlocks hown hts hE (fun hf hl hH => ih hf hl hH) hf (lv_sub hl [1, 2, 3, 4] rfl) hH
      · replace hf := lc_ite_pos hc hf
        refine lv_aload_n hx hb dQ_typeIn_46 rfl (lv_at hl 1 rfl) ?_
        refine lv_dup hx hb dQ_typeIn_47 rfl ?_
        refine lc_geti hx hb hts hown hE hH flQ_169 lc_h80 rfl dQ_typeIn_48 ?_
        refine lv_iconst (v := 1) hx hb dQ_typeIn_51 (by decide) ?_
        refine lv_isub hx hb dQ_typeIn_52 ?_
        refine lc_puti hx hb hts hown hE hH fpQ_169 lc_h80 rfl rfl rfl dQ_typeIn_53 (fun H locs hH => ?_)
        refine lv_aload_n hx hb dQ_typeIn_56 rfl (lv_at hl 1 rfl) ?_
        refine lc_getf (d := 17) (q := 97) hx hb hts hown hE hH flQ_59 lc_h80 rfl rfl dQ_typeIn_57 ?_
        refine lv_aload_n hx hb dQ_typeIn_60 rfl (lv_at hl 1 rfl) ?_
        refine lc_geti hx hb hts hown hE hH flQ_169 lc_h80 rfl dQ_typeIn_61 ?_
        refine lv_iconst (v := 1) hx hb dQ_typeIn_64 (by decide) ?_
        refine lv_isub hx hb dQ_typeIn_65 ?_
        refine lv_aload_n hx hb dQ_typeIn_66 rfl (lv_at hl 1 rfl) ?_
        refine lv_aload_n hx hb dQ_typeIn_67 rfl (lv_at hl 1 rfl) ?_
        refine lc_getf (d := 17) (q := 97) hx hb hts hown hE hH flQ_59 lc_h80 rfl rfl dQ_typeIn_68 ?_
        refine lv_aload_n hx hb dQ_typeIn_71 rfl (lv_at hl 1 rfl) ?_
        refine lc_geti hx hb hts hown hE hH flQ_169 lc_h80 rfl dQ_typeIn_72 ?_
        obtain ⟨hi75, hf⟩ := lc_chk_some hf
        refine lc_iald hx hb hE hH lc_h97 rfl hi75 dQ_typeIn_75 ?_
        refine lv_aload_n hx hb dQ_typeIn_76 rfl (lv_at hl 1 rfl) ?_
        refine lc_getf (d := 17) (q := 97) hx hb hts hown hE hH flQ_59 lc_h80 rfl rfl dQ_typeIn_77 ?_
        refine lv_aload_n hx hb dQ_typeIn_80 rfl (lv_at hl 1 rfl) ?_
        refine lc_geti hx hb hts hown hE hH flQ_169 lc_h80 rfl dQ_typeIn_81 ?_
        refine lv_iconst (v := 1) hx hb dQ_typeIn_84 (by decide) ?_
        refine lv_isub hx hb dQ_typeIn_85 ?_
        obtain ⟨hi86, hf⟩ := lc_chk_some hf
        refine lc_iald hx hb hE hH lc_h97 rfl hi86 dQ_typeIn_86 ?_
        obtain ⟨r87, z87, h87, hf⟩ := lc_bnd_some hf
        refine lc_calli (va_runV (As := [.int (lcI (lcUI z 80 23 ((lcI z 80 23) - 1)) 97 (lcI (lcUI z 80 23 ((lcI z 80 23) - 1)) 80 23).toNatClampNeg), .int (lcI (lcUI z 80 23 ((lcI z 80 23) - 1)) 97 ((lcI (lcUI z 80 23 ((lcI z 80 23) - 1)) 80 23) - 1).toNatClampNeg)]) (rest := [.int ((lcI (lcUI z 80 23 ((lcI z 80 23) - 1)) 80 23) - 1), .ref (lc_ad G 97)]) ⟨hx, hb, hml, hown, hts⟩ (cQ_pairType l G h87) (lc_cwV hts kvQ_226 (lc_room (by decide) (by decide))) (lc_preV hE hH lc_h80 rfl _) rfl rfl hl.1 rfl (lv_room (Nat.le_of_ble_eq_true rfl)) dQ_typeIn_87 ⟨Nat.zero_le _, Nat.zero_le _⟩) hH (fun H locs hH => ?_)
        obtain ⟨hi90, hf⟩ := lc_chk_some hf
        refine lc_iast hx hb hE hH lc_h97 rfl hi90 dQ_typeIn_90 (fun H locs hH => ?_)
        refine lv_goto (tgt := 125) hx hb dQ_typeIn_91 (by decide) ?_
        exact bQ_typeIn_125 hx hb hml hr hlocks hown hts hE (fun hf hl hH => ih hf hl hH) hf (lv_sub hl [1, 2, 3, 4] rfl) hH
set_option maxHeartbeats 4000000 in
set_option maxRecDepth 100000 in
theorem bQ_typeIn_2 {p : Program} {l : Launch} {e : Env} {s : State} {m : MethodId} {args : Array Value} {below : List Frame} {meth : Method} {c : Code} {G : lc_G} (hx : p.tables.exec = Jvm.exec) (hb : c.code = prog_10_method_24_code) (hml : c.maxLocals = 6) (hr : meth.sig.returnType = (some .int)) (hlocks : meth.locks = false) (hown : s.vm.findClass "LinearCellsModel" = some m.cls) (hts : ∀ w ∈ lc_ALL, w.before args s = true) (hE : lc_E G s) {r : Int32} {z' : lc_S} : ∀ (n : Nat) {p1 : Nat} {x2 : Int32} {x3 : Int32} {z : lc_S} {H : Heap} {locs : List Loc} {ls : Array Slot}, fQ_typeIn_2 n p1 x2 x3 z = some (r, z') → lv_has ls 6 [(0, .ref (lc_ad G 80)), (1, .ref (lc_ad G p1)), (2, .int x2), (3, .int x3)] → lc_H G z s.heap H locs → W p l e (lc_rm 1) s m args below meth c H locs 0 0 (MQ below (lc_Q G (some (.int r)) z') args s 0 0 (lc_A G)) (F0 m 2 ls []) := by
  intro n
  induction n with
  | zero =>
    intro p1 x2 x3 z H locs ls hf hl hH
    exact absurd (show (none : Option ((Int32) × lc_S)) = some (r, z') from hf) (fun h => by cases h)
  | succ n ih =>
    intro p1 x2 x3 z H locs ls hf hl hH
    rw [fQ_typeIn_2] at hf
    refine lv_aload_n hx hb dQ_typeIn_2 rfl (lv_at hl 1 rfl) ?_
    refine lv_iload_n hx hb dQ_typeIn_3 rfl (lv_at hl 2 rfl) ?_
    refine lv_iload_n hx hb dQ_typeIn_4 rfl (lv_at hl 3 rfl) ?_
    refine lv_iadd hx hb dQ_typeIn_5 ?_
    obtain ⟨hs6_0, hf⟩ := lc_chk_some hf
    obtain ⟨hi6, hf⟩ := lc_chk_some hf
    refine lc_iald hx hb hE hH hs6_0 rfl hi6 dQ_typeIn_6 ?_
    refine lv_if_eq (tgt := 16) hx hb dQ_typeIn_7 (by decide) (fun hc => ?_) (fun hc => ?_)
    · replace hf := lc_ite_pos hc hf
      refine lv_aload_n hx hb dQ_typeIn_16 rfl (lv_at hl 0 rfl) ?_
      refine lv_iconst (v := 0) hx hb dQ_typeIn_17 (by decide) ?_
      refine lc_puti hx hb hts hown hE hH fpQ_169 lc_h80 rfl rfl rfl dQ_typeIn_18 (fun H locs hH => ?_)
      refine lv_iload_n hx hb dQ_typeIn_21 rfl (lv_at hl 3 rfl) ?_
      refine lv_iconst (v := 1) hx hb dQ_typeIn_22 (by decide) ?_
      refine lv_isub hx hb dQ_typeIn_23 ?_
      refine lv_topi (fun x24 e24 => ?_)
      replace hf := lc_let_of e24 hf
      refine lv_istore hx hb dQ_typeIn_24 hl (by decide) rfl (fun ls hl => ?_)
      replace hl : lv_has ls 6 [(4, .int x24), (0, .ref (lc_ad G 80)), (1, .ref (lc_ad G p1)), (2, .int x2), (3, .int x3)] := hl
      exact bQ_typeIn_26 hx hb hml hr hlocks hown hts hE _ hf (lv_sub hl [1, 2, 3, 0] rfl) hH
    · replace hf := lc_ite_neg hc hf
      obtain ⟨x10, e10⟩ : ∃ x : Int32, x = x3 + 1 := ⟨_, rfl⟩
      replace hf := lc_let_of e10 hf
      refine lv_iinc (k := 3) (v := x10) hx hb dQ_typeIn_10 hl rfl ((lc_incv _ (by decide)).trans e10.symm) (by decide) rfl (fun ls hl => ?_)
      replace hl : lv_has ls 6 [(3, .int x10), (0, .ref (lc_ad G 80)), (1, .ref (lc_ad G p1)), (2, .int x2)] := hl
      refine lv_goto (tgt := 2) hx hb dQ_typeIn_13 (by decide) ?_
      exact ih hf (lv_sub hl [1, 2, 3, 0] rfl) hH
set_option maxHeartbeats 4000000 in
set_option maxRecDepth 100000 in
theorem cQ_typeIn (l : Launch) (G : lc_G) {a1 : Nat} {a2 : Int32} {r : Int32} {z z' : lc_S} (hf : fQ_typeIn a1 a2 z = some (r, z')) : lc_M l G yQ_typeIn wQ_typeIn 1 [.ref (lc_ad G 80), .ref (lc_ad G a1), .int a2] z (some (.int r)) z' := by
  refine lc_M_of (cc := prog_10_method_24_code) (maxL := 6) (ret := (some .int)) (own := "LinearCellsModel") (by decide) rfl (fun w h => List.mem_cons_of_mem _ h) (Nat.le_of_ble_eq_true rfl) rfl ?_
  intro p e s m below meth c hx hb hml hr hlocks hown hts hE ls hl hH
  replace hl : lv_has ls 6 [(0, .ref (lc_ad G 80)), (1, .ref (lc_ad G a1)), (2, .int a2)] := hl
  rw [fQ_typeIn] at hf
  refine lv_iconst (v := 0) hx hb dQ_typeIn_0 (by decide) ?_
  refine lv_istore_n hx hb dQ_typeIn_1 rfl hl (by decide) rfl (fun ls hl => ?_)
  replace hl : lv_has ls 6 [(3, .int 0), (0, .ref (lc_ad G 80)), (1, .ref (lc_ad G a1)), (2, .int a2)] := hl
  exact bQ_typeIn_2 hx hb hml hr hlocks hown hts hE _ hf (lv_sub hl [1, 2, 3, 0] rfl) hH
theorem dQ_isLinear_0 : decode prog_10_method_25_code 0 = .ok (.iconst 0, 1) := by decide +kernel
theorem dQ_isLinear_1 : decode prog_10_method_25_code 1 = .ok (.istore_n 2, 1) := by decide +kernel
theorem dQ_isLinear_2 : decode prog_10_method_25_code 2 = .ok (.iconst 0, 1) := by decide +kernel
theorem dQ_isLinear_3 : decode prog_10_method_25_code 3 = .ok (.istore_n 3, 1) := by decide +kernel
theorem dQ_isLinear_4 : decode prog_10_method_25_code 4 = .ok (.iload_n 3, 1) := by decide +kernel
theorem dQ_isLinear_5 : decode prog_10_method_25_code 5 = .ok (.iload_n 1, 1) := by decide +kernel
theorem dQ_isLinear_6 : decode prog_10_method_25_code 6 = .ok (.if_icmp .gt 58, 3) := by decide +kernel
theorem dQ_isLinear_9 : decode prog_10_method_25_code 9 = .ok (.aload_n 0, 1) := by decide +kernel
theorem dQ_isLinear_10 : decode prog_10_method_25_code 10 = .ok (.getfield 129, 3) := by decide +kernel
theorem dQ_isLinear_13 : decode prog_10_method_25_code 13 = .ok (.iload_n 3, 1) := by decide +kernel
theorem dQ_isLinear_14 : decode prog_10_method_25_code 14 = .ok (.iload_n 3, 1) := by decide +kernel
theorem dQ_isLinear_15 : decode prog_10_method_25_code 15 = .ok (.iconst 1, 1) := by decide +kernel
theorem dQ_isLinear_16 : decode prog_10_method_25_code 16 = .ok (.if_icmp .eq 36, 3) := by decide +kernel
theorem dQ_isLinear_19 : decode prog_10_method_25_code 19 = .ok (.iload_n 3, 1) := by decide +kernel
theorem dQ_isLinear_20 : decode prog_10_method_25_code 20 = .ok (.iconst 1, 1) := by decide +kernel
theorem dQ_isLinear_21 : decode prog_10_method_25_code 21 = .ok (.if_icmp .le 35, 3) := by decide +kernel
theorem dQ_isLinear_24 : decode prog_10_method_25_code 24 = .ok (.aload_n 0, 1) := by decide +kernel
theorem dQ_isLinear_25 : decode prog_10_method_25_code 25 = .ok (.getfield 129, 3) := by decide +kernel
theorem dQ_isLinear_28 : decode prog_10_method_25_code 28 = .ok (.aload_n 0, 1) := by decide +kernel
theorem dQ_isLinear_29 : decode prog_10_method_25_code 29 = .ok (.getfield 62, 3) := by decide +kernel
theorem dQ_isLinear_32 : decode prog_10_method_25_code 32 = .ok (.iload_n 3, 1) := by decide +kernel
theorem dQ_isLinear_33 : decode prog_10_method_25_code 33 = .ok (.iaload, 1) := by decide +kernel
theorem dQ_isLinear_34 : decode prog_10_method_25_code 34 = .ok (.baload, 1) := by decide +kernel
theorem dQ_isLinear_35 : decode prog_10_method_25_code 35 = .ok (.ifCond .ne 17, 3) := by decide +kernel
theorem dQ_isLinear_38 : decode prog_10_method_25_code 38 = .ok (.aload_n 0, 1) := by decide +kernel
theorem dQ_isLinear_39 : decode prog_10_method_25_code 39 = .ok (.getfield 129, 3) := by decide +kernel
theorem dQ_isLinear_42 : decode prog_10_method_25_code 42 = .ok (.aload_n 0, 1) := by decide +kernel
theorem dQ_isLinear_43 : decode prog_10_method_25_code 43 = .ok (.getfield 65, 3) := by decide +kernel
theorem dQ_isLinear_46 : decode prog_10_method_25_code 46 = .ok (.iload_n 3, 1) := by decide +kernel
theorem dQ_isLinear_47 : decode prog_10_method_25_code 47 = .ok (.iaload, 1) := by decide +kernel
theorem dQ_isLinear_48 : decode prog_10_method_25_code 48 = .ok (.baload, 1) := by decide +kernel
theorem dQ_isLinear_49 : decode prog_10_method_25_code 49 = .ok (.ifCond .eq 7, 3) := by decide +kernel
theorem dQ_isLinear_52 : decode prog_10_method_25_code 52 = .ok (.iconst 1, 1) := by decide +kernel
theorem dQ_isLinear_53 : decode prog_10_method_25_code 53 = .ok (.goto 4, 3) := by decide +kernel
theorem dQ_isLinear_56 : decode prog_10_method_25_code 56 = .ok (.iconst 0, 1) := by decide +kernel
theorem dQ_isLinear_57 : decode prog_10_method_25_code 57 = .ok (.bastore, 1) := by decide +kernel
theorem dQ_isLinear_58 : decode prog_10_method_25_code 58 = .ok (.iinc 3 1, 3) := by decide +kernel
theorem dQ_isLinear_61 : decode prog_10_method_25_code 61 = .ok (.goto (-57), 3) := by decide +kernel
theorem dQ_isLinear_64 : decode prog_10_method_25_code 64 = .ok (.aload_n 0, 1) := by decide +kernel
theorem dQ_isLinear_65 : decode prog_10_method_25_code 65 = .ok (.getfield 129, 3) := by decide +kernel
theorem dQ_isLinear_68 : decode prog_10_method_25_code 68 = .ok (.iload_n 1, 1) := by decide +kernel
theorem dQ_isLinear_69 : decode prog_10_method_25_code 69 = .ok (.baload, 1) := by decide +kernel
theorem dQ_isLinear_70 : decode prog_10_method_25_code 70 = .ok (.istore_n 2, 1) := by decide +kernel
theorem dQ_isLinear_71 : decode prog_10_method_25_code 71 = .ok (.iload_n 2, 1) := by decide +kernel
theorem dQ_isLinear_72 : decode prog_10_method_25_code 72 = .ok (.ireturn, 1) := by decide +kernel
def fQ_isLinear_57 (k4 : Int32 → Int32 → lc_S → Option ((Int32) × lc_S)) (x1 : Int32) (x3 : Int32) (t1 : Int32) (t2 : Int32) (z : lc_S) : Option ((Int32) × lc_S) :=
  lc_chk (lc_in t1 340) (lc_chk (vp_nar .boolean t2 = t2) (lc_let (x3 + 1) (fun x58 => k4 x1 x58 (lcUI z 120 t1.toNatClampNeg t2))))
def fQ_isLinear_52 (k4 : Int32 → Int32 → lc_S → Option ((Int32) × lc_S)) (x1 : Int32) (x3 : Int32) (t1 : Int32) (z : lc_S) : Option ((Int32) × lc_S) :=
  fQ_isLinear_57 k4 x1 x3 t1 1 z
def fQ_isLinear_56 (k4 : Int32 → Int32 → lc_S → Option ((Int32) × lc_S)) (x1 : Int32) (x3 : Int32) (t1 : Int32) (z : lc_S) : Option ((Int32) × lc_S) :=
  fQ_isLinear_57 k4 x1 x3 t1 0 z
def fQ_isLinear_4 : Nat → Int32 → Int32 → lc_S → Option ((Int32) × lc_S)
  | 0, _, _, _ => none
  | n + 1, x1, x3, z => if x1 < x3 then (lc_chk (lc_in x1 340) (lc_let (lcI z 120 x1.toNatClampNeg) (fun x70 => lc_chk (lc_zok x70) (some (x70, z))))) else (if x3 = 1 then (fQ_isLinear_52 (fQ_isLinear_4 n) x1 x3 x3 z) else (if x3 ≤ 1 then (fQ_isLinear_56 (fQ_isLinear_4 n) x1 x3 x3 z) else (lc_chk (lc_in x3 340) (lc_chk (lc_in (lcI z 98 x3.toNatClampNeg) 340) (if (lcI z 120 (lcI z 98 x3.toNatClampNeg).toNatClampNeg) = 0 then (lc_chk (lc_in x3 340) (lc_chk (lc_in (lcI z 99 x3.toNatClampNeg) 340) (if (lcI z 120 (lcI z 99 x3.toNatClampNeg).toNatClampNeg) = 0 then (fQ_isLinear_56 (fQ_isLinear_4 n) x1 x3 x3 z) else (fQ_isLinear_52 (fQ_isLinear_4 n) x1 x3 x3 z)))) else (fQ_isLinear_52 (fQ_isLinear_4 n) x1 x3 x3 z))))))
def fQ_isLinear (a1 : Int32) (z : lc_S) : Option ((Int32) × lc_S) :=
  fQ_isLinear_4 lc_FU a1 0 z
set_option maxHeartbeats 4000000 in
set_option maxRecDepth 100000 in
theorem bQ_isLinear_57 {p : Program} {l : Launch} {e : Env} {s : State} {m : MethodId} {args : Array Value} {below : List Frame} {meth : Method} {c : Code} {G : lc_G} (hx : p.tables.exec = Jvm.exec) (hb : c.code = prog_10_method_25_code) (hml : c.maxLocals = 4) (hr : meth.sig.returnType = (some .boolean)) (hlocks : meth.locks = false) (hown : s.vm.findClass "LinearCellsModel" = some m.cls) (hts : ∀ w ∈ lc_ALL, w.before args s = true) (hE : lc_E G s) {k4 : Int32 → Int32 → lc_S → Option ((Int32) × lc_S)} {r : Int32} {z' : lc_S} (hk4 : ∀ {x1 : Int32} {x3 : Int32} {z : lc_S} {H : Heap} {locs : List Loc} {ls : Array Slot}, k4 x1 x3 z = some (r, z') → lv_has ls 4 [(0, .ref (lc_ad G 80)), (1, .int x1), (3, .int x3)] → lc_H G z s.heap H locs → W p l e (lc_rm 0) s m args below meth c H locs 0 0 (MQ below (lc_Q G (some (.int r)) z') args s 0 0 (lc_A G)) (F0 m 4 ls [])) : ∀ {x1 : Int32} {x3 : Int32} {t1 : Int32} {t2 : Int32} {z : lc_S} {H : Heap} {locs : List Loc} {ls : Array Slot}, fQ_isLinear_57 k4 x1 x3 t1 t2 z = some (r, z') → lv_has ls 4 [(0, .ref (lc_ad G 80)), (1, .int x1), (3, .int x3)] → lc_H G z s.heap H locs → W p l e (lc_rm 0) s m args below meth c H locs 0 0 (MQ below (lc_Q G (some (.int r)) z') args s 0 0 (lc_A G)) (F0 m 57 ls [.int t2, .int t1, .ref (lc_ad G 120)]) := by
  intro x1 x3 t1 t2 z H locs ls hf hl hH
  rw [fQ_isLinear_57] at hf
  obtain ⟨hi57, hf⟩ := lc_chk_some hf
  obtain ⟨hn57, hf⟩ := lc_chk_some hf
  refine lc_zast hx hb hE hH lc_h120 rfl hi57 hn57 dQ_isLinear_57 (fun H locs hH => ?_)
  obtain ⟨x58, e58⟩ : ∃ x : Int32, x = x3 + 1 := ⟨_, rfl⟩
  replace hf := lc_let_of e58 hf
  refine lv_iinc (k := 2) (v := x58) hx hb dQ_isLinear_58 hl rfl ((lc_incv _ (by decide)).trans e58.symm) (by decide) rfl (fun ls hl => ?_)
  replace hl : lv_has ls 4 [(3, .int x58), (0, .ref (lc_ad G 80)), (1, .int x1)] := hl
  refine lv_goto (tgt := 4) hx hb dQ_isLinear_61 (by decide) ?_
  exact hk4 hf (lv_sub hl [1, 2, 0] rfl) hH
set_option maxHeartbeats 4000000 in
set_option maxRecDepth 100000 in
theorem bQ_isLinear_52 {p : Program} {l : Launch} {e : Env} {s : State} {m : MethodId} {args : Array Value} {below : List Frame} {meth : Method} {c : Code} {G : lc_G} (hx : p.tables.exec = Jvm.exec) (hb : c.code = prog_10_method_25_code) (hml : c.maxLocals = 4) (hr : meth.sig.returnType = (some .boolean)) (hlocks : meth.locks = false) (hown : s.vm.findClass "LinearCellsModel" = some m.cls) (hts : ∀ w ∈ lc_ALL, w.before args s = true) (hE : lc_E G s) {k4 : Int32 → Int32 → lc_S → Option ((Int32) × lc_S)} {r : Int32} {z' : lc_S} (hk4 : ∀ {x1 : Int32} {x3 : Int32} {z : lc_S} {H : Heap} {locs : List Loc} {ls : Array Slot}, k4 x1 x3 z = some (r, z') → lv_has ls 4 [(0, .ref (lc_ad G 80)), (1, .int x1), (3, .int x3)] → lc_H G z s.heap H locs → W p l e (lc_rm 0) s m args below meth c H locs 0 0 (MQ below (lc_Q G (some (.int r)) z') args s 0 0 (lc_A G)) (F0 m 4 ls [])) : ∀ {x1 : Int32} {x3 : Int32} {t1 : Int32} {z : lc_S} {H : Heap} {locs : List Loc} {ls : Array Slot}, fQ_isLinear_52 k4 x1 x3 t1 z = some (r, z') → lv_has ls 4 [(0, .ref (lc_ad G 80)), (1, .int x1), (3, .int x3)] → lc_H G z s.heap H locs → W p l e (lc_rm 0) s m args below meth c H locs 0 0 (MQ below (lc_Q G (some (.int r)) z') args s 0 0 (lc_A G)) (F0 m 52 ls [.int t1, .ref (lc_ad G 120)]) := by
  intro x1 x3 t1 z H locs ls hf hl hH
  rw [fQ_isLinear_52] at hf
  refine lv_iconst (v := 1) hx hb dQ_isLinear_52 (by decide) ?_
  refine lv_goto (tgt := 57) hx hb dQ_isLinear_53 (by decide) ?_
  exact bQ_isLinear_57 hx hb hml hr hlocks hown hts hE (fun hf hl hH => hk4 hf hl hH) hf (lv_sub hl [0, 1, 2] rfl) hH
set_option maxHeartbeats 4000000 in
set_option maxRecDepth 100000 in
theorem bQ_isLinear_56 {p : Program} {l : Launch} {e : Env} {s : State} {m : MethodId} {args : Array Value} {below : List Frame} {meth : Method} {c : Code} {G : lc_G} (hx : p.tables.exec = Jvm.exec) (hb : c.code = prog_10_method_25_code) (hml : c.maxLocals = 4) (hr : meth.sig.returnType = (some .boolean)) (hlocks : meth.locks = false) (hown : s.vm.findClass "LinearCellsModel" = some m.cls) (hts : ∀ w ∈ lc_ALL, w.before args s = true) (hE : lc_E G s) {k4 : Int32 → Int32 → lc_S → Option ((Int32) × lc_S)} {r : Int32} {z' : lc_S} (hk4 : ∀ {x1 : Int32} {x3 : Int32} {z : lc_S} {H : Heap} {locs : List Loc} {ls : Array Slot}, k4 x1 x3 z = some (r, z') → lv_has ls 4 [(0, .ref (lc_ad G 80)), (1, .int x1), (3, .int x3)] → lc_H G z s.heap H locs → W p l e (lc_rm 0) s m args below meth c H locs 0 0 (MQ below (lc_Q G (some (.int r)) z') args s 0 0 (lc_A G)) (F0 m 4 ls [])) : ∀ {x1 : Int32} {x3 : Int32} {t1 : Int32} {z : lc_S} {H : Heap} {locs : List Loc} {ls : Array Slot}, fQ_isLinear_56 k4 x1 x3 t1 z = some (r, z') → lv_has ls 4 [(0, .ref (lc_ad G 80)), (1, .int x1), (3, .int x3)] → lc_H G z s.heap H locs → W p l e (lc_rm 0) s m args below meth c H locs 0 0 (MQ below (lc_Q G (some (.int r)) z') args s 0 0 (lc_A G)) (F0 m 56 ls [.int t1, .ref (lc_ad G 120)]) := by
  intro x1 x3 t1 z H locs ls hf hl hH
  rw [fQ_isLinear_56] at hf
  refine lv_iconst (v := 0) hx hb dQ_isLinear_56 (by decide) ?_
  exact bQ_isLinear_57 hx hb hml hr hlocks hown hts hE (fun hf hl hH => hk4 hf hl hH) hf (lv_sub hl [0, 1, 2] rfl) hH
set_option maxHeartbeats 4000000 in
set_option maxRecDepth 100000 in
theorem bQ_isLinear_4 {p : Program} {l : Launch} {e : Env} {s : State} {m : MethodId} {args : Array Value} {below : List Frame} {meth : Method} {c : Code} {G : lc_G} (hx : p.tables.exec = Jvm.exec) (hb : c.code = prog_10_method_25_code) (hml : c.maxLocals = 4) (hr : meth.sig.returnType = (some .boolean)) (hlocks : meth.locks = false) (hown : s.vm.findClass "LinearCellsModel" = some m.cls) (hts : ∀ w ∈ lc_ALL, w.before args s = true) (hE : lc_E G s) {r : Int32} {z' : lc_S} : ∀ (n : Nat) {x1 : Int32} {x3 : Int32} {z : lc_S} {H : Heap} {locs : List Loc} {ls : Array Slot}, fQ_isLinear_4 n x1 x3 z = some (r, z') → lv_has ls 4 [(0, .ref (lc_ad G 80)), (1, .int x1), (3, .int x3)] → lc_H G z s.heap H locs → W p l e (lc_rm 0) s m args below meth c H locs 0 0 (MQ below (lc_Q G (some (.int r)) z') args s 0 0 (lc_A G)) (F0 m 4 ls []) := by
  intro n
  induction n with
  | zero =>
    intro x1 x3 z H locs ls hf hl hH
    exact absurd (show (none : Option ((Int32) × lc_S)) = some (r, z') from hf) (fun h => by cases h)
  | succ n ih =>
    intro x1 x3 z H locs ls hf hl hH
    rw [fQ_isLinear_4] at hf
    refine lv_iload_n hx hb dQ_isLinear_4 rfl (lv_at hl 2 rfl) ?_
    refine lv_iload_n hx hb dQ_isLinear_5 rfl (lv_at hl 1 rfl) ?_
    refine lv_icmp_gt (tgt := 64) hx hb dQ_isLinear_6 (by decide) (fun hc => ?_) (fun hc => ?_)
    · replace hf := lc_ite_pos hc hf
      refine lv_aload_n hx hb dQ_isLinear_64 rfl (lv_at hl 0 rfl) ?_
      refine lc_getf (d := 40) (q := 120) hx hb hts hown hE hH flQ_129 lc_h80 rfl rfl dQ_isLinear_65 ?_
      refine lv_iload_n hx hb dQ_isLinear_68 rfl (lv_at hl 1 rfl) ?_
      obtain ⟨hi69, hf⟩ := lc_chk_some hf
      refine lc_zald hx hb hE hH lc_h120 rfl hi69 dQ_isLinear_69 ?_
      refine lv_topi (fun x70 e70 => ?_)
      replace hf := lc_let_of e70 hf
      refine lv_istore_n hx hb dQ_isLinear_70 rfl hl (by decide) rfl (fun ls hl => ?_)
      replace hl : lv_has ls 4 [(2, .int x70), (0, .ref (lc_ad G 80)), (1, .int x1), (3, .int x3)] := hl
      refine lv_iload_n hx hb dQ_isLinear_71 rfl (lv_at hl 0 rfl) ?_
      obtain ⟨hz72, hf⟩ := lc_chk_some hf
      exact lc_zret hx hb hr hlocks (lc_zn hz72) hH hf dQ_isLinear_72
    · replace hf := lc_ite_neg hc hf
      refine lv_aload_n hx hb dQ_isLinear_9 rfl (lv_at hl 0 rfl) ?_
      refine lc_getf (d := 40) (q := 120) hx hb hts hown hE hH flQ_129 lc_h80 rfl rfl dQ_isLinear_10 ?_
      refine lv_iload_n hx hb dQ_isLinear_13 rfl (lv_at hl 2 rfl) ?_
      refine lv_iload_n hx hb dQ_isLinear_14 rfl (lv_at hl 2 rfl) ?_
      refine lv_iconst (v := 1) hx hb dQ_isLinear_15 (by decide) ?_
      refine lv_icmp_eq (tgt := 52) hx hb dQ_isLinear_16 (by decide) (fun hc => ?_) (fun hc => ?_)
      · replace hf := lc_ite_pos hc hf
        exact bQ_isLinear_52 hx hb hml hr hlocks hown hts hE (fun hf hl hH => ih hf hl hH) hf (lv_sub hl [0, 1, 2] rfl) hH
      · replace hf := lc_ite_neg hc hf
        refine lv_iload_n hx hb dQ_isLinear_19 rfl (lv_at hl 2 rfl) ?_
        refine lv_iconst (v := 1) hx hb dQ_isLinear_20 (by decide) ?_
        refine lv_icmp_le (tgt := 56) hx hb dQ_isLinear_21 (by decide) (fun hc => ?_) (fun hc => ?_)
        · replace hf := lc_ite_pos hc hf
          exact bQ_isLinear_56 hx hb hml hr hlocks hown hts hE (fun hf hl hH => ih hf hl hH) hf (lv_sub hl [0, 1, 2] rfl) hH
        · replace hf := lc_ite_neg hc hf
          refine lv_aload_n hx hb dQ_isLinear_24 rfl (lv_at hl 0 rfl) ?_
          refine lc_getf (d := 40) (q := 120) hx hb hts hown hE hH flQ_129 lc_h80 rfl rfl dQ_isLinear_25 ?_
          refine lv_aload_n hx hb dQ_isLinear_28 rfl (lv_at hl 0 rfl) ?_
          refine lc_getf (d := 18) (q := 98) hx hb hts hown hE hH flQ_62 lc_h80 rfl rfl dQ_isLinear_29 ?_
          refine lv_iload_n hx hb dQ_isLinear_32 rfl (lv_at hl 2 rfl) ?_
          obtain ⟨hi33, hf⟩ := lc_chk_some hf
          refine lc_iald hx hb hE hH lc_h98 rfl hi33 dQ_isLinear_33 ?_
          obtain ⟨hi34, hf⟩ := lc_chk_some hf
          refine lc_zald hx hb hE hH lc_h120 rfl hi34 dQ_isLinear_34 ?_
          refine lv_if_ne (tgt := 52) hx hb dQ_isLinear_35 (by decide) (fun hc => ?_) (fun hc => ?_)
          · replace hf := lc_ite_neg hc hf
            exact bQ_isLinear_52 hx hb hml hr hlocks hown hts hE (fun hf hl hH => ih hf hl hH) hf (lv_sub hl [0, 1, 2] rfl) hH
          · replace hf := lc_ite_pos hc hf
            refine lv_aload_n hx hb dQ_isLinear_38 rfl (lv_at hl 0 rfl) ?_
            refine lc_getf (d := 40) (q := 120) hx hb hts hown hE hH flQ_129 lc_h80 rfl rfl dQ_isLinear_39 ?_
            refine lv_aload_n hx hb dQ_isLinear_42 rfl (lv_at hl 0 rfl) ?_
            refine lc_getf (d := 19) (q := 99) hx hb hts hown hE hH flQ_65 lc_h80 rfl rfl dQ_isLinear_43 ?_
            refine lv_iload_n hx hb dQ_isLinear_46 rfl (lv_at hl 2 rfl) ?_
            obtain ⟨hi47, hf⟩ := lc_chk_some hf
            refine lc_iald hx hb hE hH lc_h99 rfl hi47 dQ_isLinear_47 ?_
            obtain ⟨hi48, hf⟩ := lc_chk_some hf
            refine lc_zald hx hb hE hH lc_h120 rfl hi48 dQ_isLinear_48 ?_
            refine lv_if_eq (tgt := 56) hx hb dQ_isLinear_49 (by decide) (fun hc => ?_) (fun hc => ?_)
            · replace hf := lc_ite_pos hc hf
              exact bQ_isLinear_56 hx hb hml hr hlocks hown hts hE (fun hf hl hH => ih hf hl hH) hf (lv_sub hl [0, 1, 2] rfl) hH
            · replace hf := lc_ite_neg hc hf
              exact bQ_isLinear_52 hx hb hml hr hlocks hown hts hE (fun hf hl hH => ih hf hl hH) hf (lv_sub hl [0, 1, 2] rfl) hH
set_option maxHeartbeats 4000000 in
set_option maxRecDepth 100000 in
theorem cQ_isLinear (l : Launch) (G : lc_G) {a1 : Int32} {r : Int32} {z z' : lc_S} (hf : fQ_isLinear a1 z = some (r, z')) : lc_M l G yQ_isLinear wQ_isLinear 0 [.ref (lc_ad G 80), .int a1] z (some (.int r)) z' := by
  refine lc_M_of (cc := prog_10_method_25_code) (maxL := 4) (ret := (some .boolean)) (own := "LinearCellsModel") (by decide) rfl (fun w h => List.mem_cons_of_mem _ h) (Nat.le_of_ble_eq_true rfl) rfl ?_
  intro p e s m below meth c hx hb hml hr hlocks hown hts hE ls hl hH
  replace hl : lv_has ls 4 [(0, .ref (lc_ad G 80)), (1, .int a1)] := hl
  rw [fQ_isLinear] at hf
  refine lv_iconst (v := 0) hx hb dQ_isLinear_0 (by decide) ?_
  refine lv_istore_n hx hb dQ_isLinear_1 rfl hl (by decide) rfl (fun ls hl => ?_)
  replace hl : lv_has ls 4 [(2, .int 0), (0, .ref (lc_ad G 80)), (1, .int a1)] := hl
  refine lv_iconst (v := 0) hx hb dQ_isLinear_2 (by decide) ?_
  refine lv_istore_n hx hb dQ_isLinear_3 rfl hl (by decide) rfl (fun ls hl => ?_)
  replace hl : lv_has ls 4 [(3, .int 0), (2, .int 0), (0, .ref (lc_ad G 80)), (1, .int a1)] := hl
  exact bQ_isLinear_4 hx hb hml hr hlocks hown hts hE _ hf (lv_sub hl [2, 3, 0] rfl) hH
theorem dQ_bindingType_0 : decode prog_10_method_27_code 0 = .ok (.iload_n 2, 1) := by decide +kernel
theorem dQ_bindingType_1 : decode prog_10_method_27_code 1 = .ok (.ifCond .ge 10, 3) := by decide +kernel
theorem dQ_bindingType_4 : decode prog_10_method_27_code 4 = .ok (.aload_n 0, 1) := by decide +kernel
theorem dQ_bindingType_5 : decode prog_10_method_27_code 5 = .ok (.getfield 71, 3) := by decide +kernel
theorem dQ_bindingType_8 : decode prog_10_method_27_code 8 = .ok (.iload_n 1, 1) := by decide +kernel
theorem dQ_bindingType_9 : decode prog_10_method_27_code 9 = .ok (.iaload, 1) := by decide +kernel
theorem dQ_bindingType_10 : decode prog_10_method_27_code 10 = .ok (.ireturn, 1) := by decide +kernel
theorem dQ_bindingType_11 : decode prog_10_method_27_code 11 = .ok (.aload_n 0, 1) := by decide +kernel
theorem dQ_bindingType_12 : decode prog_10_method_27_code 12 = .ok (.getfield 68, 3) := by decide +kernel
theorem dQ_bindingType_15 : decode prog_10_method_27_code 15 = .ok (.aload_n 0, 1) := by decide +kernel
theorem dQ_bindingType_16 : decode prog_10_method_27_code 16 = .ok (.getfield 19, 3) := by decide +kernel
theorem dQ_bindingType_19 : decode prog_10_method_27_code 19 = .ok (.bipush 120, 2) := by decide +kernel
theorem dQ_bindingType_21 : decode prog_10_method_27_code 21 = .ok (.iload_n 1, 1) := by decide +kernel
theorem dQ_bindingType_22 : decode prog_10_method_27_code 22 = .ok (.iconst 1, 1) := by decide +kernel
theorem dQ_bindingType_23 : decode prog_10_method_27_code 23 = .ok (.iadd, 1) := by decide +kernel
theorem dQ_bindingType_24 : decode prog_10_method_27_code 24 = .ok (.imul, 1) := by decide +kernel
theorem dQ_bindingType_25 : decode prog_10_method_27_code 25 = .ok (.iload_n 2, 1) := by decide +kernel
theorem dQ_bindingType_26 : decode prog_10_method_27_code 26 = .ok (.iadd, 1) := by decide +kernel
theorem dQ_bindingType_27 : decode prog_10_method_27_code 27 = .ok (.iaload, 1) := by decide +kernel
theorem dQ_bindingType_28 : decode prog_10_method_27_code 28 = .ok (.iaload, 1) := by decide +kernel
theorem dQ_bindingType_29 : decode prog_10_method_27_code 29 = .ok (.istore 4, 2) := by decide +kernel
theorem dQ_bindingType_31 : decode prog_10_method_27_code 31 = .ok (.iload 4, 2) := by decide +kernel
theorem dQ_bindingType_33 : decode prog_10_method_27_code 33 = .ok (.ifCond .lt 21, 3) := by decide +kernel
theorem dQ_bindingType_36 : decode prog_10_method_27_code 36 = .ok (.aload_n 0, 1) := by decide +kernel
theorem dQ_bindingType_37 : decode prog_10_method_27_code 37 = .ok (.getfield 13, 3) := by decide +kernel
theorem dQ_bindingType_40 : decode prog_10_method_27_code 40 = .ok (.bipush 120, 2) := by decide +kernel
theorem dQ_bindingType_42 : decode prog_10_method_27_code 42 = .ok (.iload_n 1, 1) := by decide +kernel
theorem dQ_bindingType_43 : decode prog_10_method_27_code 43 = .ok (.iconst 1, 1) := by decide +kernel
theorem dQ_bindingType_44 : decode prog_10_method_27_code 44 = .ok (.iadd, 1) := by decide +kernel
theorem dQ_bindingType_45 : decode prog_10_method_27_code 45 = .ok (.imul, 1) := by decide +kernel
theorem dQ_bindingType_46 : decode prog_10_method_27_code 46 = .ok (.iload_n 2, 1) := by decide +kernel
theorem dQ_bindingType_47 : decode prog_10_method_27_code 47 = .ok (.iadd, 1) := by decide +kernel
theorem dQ_bindingType_48 : decode prog_10_method_27_code 48 = .ok (.iaload, 1) := by decide +kernel
theorem dQ_bindingType_49 : decode prog_10_method_27_code 49 = .ok (.bipush 58, 2) := by decide +kernel
theorem dQ_bindingType_51 : decode prog_10_method_27_code 51 = .ok (.if_icmp .ne 6, 3) := by decide +kernel
theorem dQ_bindingType_54 : decode prog_10_method_27_code 54 = .ok (.iload 4, 2) := by decide +kernel
theorem dQ_bindingType_56 : decode prog_10_method_27_code 56 = .ok (.ireturn, 1) := by decide +kernel
theorem dQ_bindingType_57 : decode prog_10_method_27_code 57 = .ok (.iload 4, 2) := by decide +kernel
theorem dQ_bindingType_59 : decode prog_10_method_27_code 59 = .ok (.iconst 2, 1) := by decide +kernel
theorem dQ_bindingType_60 : decode prog_10_method_27_code 60 = .ok (.if_icmp .ge 7, 3) := by decide +kernel
theorem dQ_bindingType_63 : decode prog_10_method_27_code 63 = .ok (.iconst (-1), 1) := by decide +kernel
theorem dQ_bindingType_64 : decode prog_10_method_27_code 64 = .ok (.goto 24, 3) := by decide +kernel
theorem dQ_bindingType_67 : decode prog_10_method_27_code 67 = .ok (.iload_n 3, 1) := by decide +kernel
theorem dQ_bindingType_68 : decode prog_10_method_27_code 68 = .ok (.ifCond .eq 13, 3) := by decide +kernel
theorem dQ_bindingType_71 : decode prog_10_method_27_code 71 = .ok (.aload_n 0, 1) := by decide +kernel
theorem dQ_bindingType_72 : decode prog_10_method_27_code 72 = .ok (.getfield 65, 3) := by decide +kernel
theorem dQ_bindingType_75 : decode prog_10_method_27_code 75 = .ok (.iload 4, 2) := by decide +kernel
theorem dQ_bindingType_77 : decode prog_10_method_27_code 77 = .ok (.iaload, 1) := by decide +kernel
theorem dQ_bindingType_78 : decode prog_10_method_27_code 78 = .ok (.goto 10, 3) := by decide +kernel
theorem dQ_bindingType_81 : decode prog_10_method_27_code 81 = .ok (.aload_n 0, 1) := by decide +kernel
theorem dQ_bindingType_82 : decode prog_10_method_27_code 82 = .ok (.getfield 62, 3) := by decide +kernel
theorem dQ_bindingType_85 : decode prog_10_method_27_code 85 = .ok (.iload 4, 2) := by decide +kernel
theorem dQ_bindingType_87 : decode prog_10_method_27_code 87 = .ok (.iaload, 1) := by decide +kernel
theorem dQ_bindingType_88 : decode prog_10_method_27_code 88 = .ok (.ireturn, 1) := by decide +kernel
def fQ_bindingType_54 (x4 : Int32) (z : lc_S) : Option ((Int32) × lc_S) :=
  some (x4, z)
def fQ_bindingType (a1 : Int32) (a2 : Int32) (a3 : Int32) (z : lc_S) : Option ((Int32) × lc_S) :=
  if 0 ≤ a2 then (lc_chk (lc_in ((120 * (a1 + 1)) + a2) 600) (lc_chk (lc_in (lcI z 84 ((120 * (a1 + 1)) + a2).toNatClampNeg) 120) (lc_let (lcI z 100 (lcI z 84 ((120 * (a1 + 1)) + a2).toNatClampNeg).toNatClampNeg) (fun x29 => if x29 < 0 then (fQ_bindingType_54 x29 z) else (lc_chk (lc_in ((120 * (a1 + 1)) + a2) 600) (if (lcI z 82 ((120 * (a1 + 1)) + a2).toNatClampNeg) = 58 then (fQ_bindingType_54 x29 z) else (if 2 ≤ x29 then (if a3 = 0 then (lc_chk (lc_in x29 340) (some (lcI z 98 x29.toNatClampNeg, z))) else (lc_chk (lc_in x29 340) (some (lcI z 99 x29.toNatClampNeg, z)))) else (some ((-1), z))))))))) else (lc_chk (lc_in a1 4) (some (lcI z 101 a1.toNatClampNeg, z)))
set_option maxHeartbeats 4000000 in
set_option maxRecDepth 100000 in
theorem bQ_bindingType_54 {p : Program} {l : Launch} {e : Env} {s : State} {m : MethodId} {args : Array Value} {below : List Frame} {meth : Method} {c : Code} {G : lc_G} (hx : p.tables.exec = Jvm.exec) (hb : c.code = prog_10_method_27_code) (hml : c.maxLocals = 5) (hr : meth.sig.returnType = (some .int)) (hlocks : meth.locks = false) (hown : s.vm.findClass "LinearCellsModel" = some m.cls) (hts : ∀ w ∈ lc_ALL, w.before args s = true) (hE : lc_E G s) {r : Int32} {z' : lc_S} : ∀ {x4 : Int32} {z : lc_S} {H : Heap} {locs : List Loc} {ls : Array Slot}, fQ_bindingType_54 x4 z = some (r, z') → lv_has ls 5 [(4, .int x4)] → lc_H G z s.heap H locs → W p l e (lc_rm 0) s m args below meth c H locs 0 0 (MQ below (lc_Q G (some (.int r)) z') args s 0 0 (lc_A G)) (F0 m 54 ls []) := by
  intro x4 z H locs ls hf hl hH
  rw [fQ_bindingType_54] at hf
  refine lv_iload hx hb dQ_bindingType_54 (lv_at hl 0 rfl) ?_
  exact lc_iret hx hb hr hlocks hH hf dQ_bindingType_56
set_option maxHeartbeats 4000000 in
set_option maxRecDepth 100000 in
theorem cQ_bindingType (l : Launch) (G : lc_G) {a1 : Int32} {a2 : Int32} {a3 : Int32} {r : Int32} {z z' : lc_S} (hf : fQ_bindingType a1 a2 a3 z = some (r, z')) : lc_M l G yQ_bindingType wQ_bindingType 0 [.ref (lc_ad G 80), .int a1, .int a2, .int a3] z (some (.int r)) z' := by
  refine lc_M_of (cc := prog_10_method_27_code) (maxL := 5) (ret := (some .int)) (own := "LinearCellsModel") (by decide) rfl (fun w h => List.mem_cons_of_mem _ h) (Nat.le_of_ble_eq_true rfl) rfl ?_
  intro p e s m below meth c hx hb hml hr hlocks hown hts hE ls hl hH
  replace hl : lv_has ls 5 [(0, .ref (lc_ad G 80)), (1, .int a1), (2, .int a2), (3, .int a3)] := hl
  rw [fQ_bindingType] at hf
  refine lv_iload_n hx hb dQ_bindingType_0 rfl (lv_at hl 2 rfl) ?_
  refine lv_if_ge (tgt := 11) hx hb dQ_bindingType_1 (by decide) (fun hc => ?_) (fun hc => ?_)
  · replace hf := lc_ite_pos hc hf
    refine lv_aload_n hx hb dQ_bindingType_11 rfl (lv_at hl 0 rfl) ?_
    refine lc_getf (d := 20) (q := 100) hx hb hts hown hE hH flQ_68 lc_h80 rfl rfl dQ_bindingType_12 ?_
    refine lv_aload_n hx hb dQ_bindingType_15 rfl (lv_at hl 0 rfl) ?_
    refine lc_getf (d := 4) (q := 84) hx hb hts hown hE hH flQ_19 lc_h80 rfl rfl dQ_bindingType_16 ?_
    refine lv_bipush (v := 120) hx hb dQ_bindingType_19 (by decide) ?_
    refine lv_iload_n hx hb dQ_bindingType_21 rfl (lv_at hl 1 rfl) ?_
    refine lv_iconst (v := 1) hx hb dQ_bindingType_22 (by decide) ?_
    refine lv_iadd hx hb dQ_bindingType_23 ?_
    refine lv_imul hx hb dQ_bindingType_24 ?_
    refine lv_iload_n hx hb dQ_bindingType_25 rfl (lv_at hl 2 rfl) ?_
    refine lv_iadd hx hb dQ_bindingType_26 ?_
    obtain ⟨hi27, hf⟩ := lc_chk_some hf
    refine lc_iald hx hb hE hH lc_h84 rfl hi27 dQ_bindingType_27 ?_
    obtain ⟨hi28, hf⟩ := lc_chk_some hf
    refine lc_iald hx hb hE hH lc_h100 rfl hi28 dQ_bindingType_28 ?_
    refine lv_topi (fun x29 e29 => ?_)
    replace hf := lc_let_of e29 hf
    refine lv_istore hx hb dQ_bindingType_29 hl (by decide) rfl (fun ls hl => ?_)
    replace hl : lv_has ls 5 [(4, .int x29), (0, .ref (lc_ad G 80)), (1, .int a1), (2, .int a2), (3, .int a3)] := hl
    refine lv_iload hx hb dQ_bindingType_31 (lv_at hl 0 rfl) ?_
    refine lv_if_lt (tgt := 54) hx hb dQ_bindingType_33 (by decide) (fun hc => ?_) (fun hc => ?_)
    · replace hf := lc_ite_pos hc hf
      exact bQ_bindingType_54 hx hb hml hr hlocks hown hts hE hf (lv_sub hl [0] rfl) hH
    · replace hf := lc_ite_neg hc hf
      refine lv_aload_n hx hb dQ_bindingType_36 rfl (lv_at hl 1 rfl) ?_
      refine lc_getf (d := 2) (q := 82) hx hb hts hown hE hH flQ_13 lc_h80 rfl rfl dQ_bindingType_37 ?_
      refine lv_bipush (v := 120) hx hb dQ_bindingType_40 (by decide) ?_
      refine lv_iload_n hx hb dQ_bindingType_42 rfl (lv_at hl 2 rfl) ?_
      refine lv_iconst (v := 1) hx hb dQ_bindingType_43 (by decide) ?_
      refine lv_iadd hx hb dQ_bindingType_44 ?_
      refine lv_imul hx hb dQ_bindingType_45 ?_
      refine lv_iload_n hx hb dQ_bindingType_46 rfl (lv_at hl 3 rfl) ?_
      refine lv_iadd hx hb dQ_bindingType_47 ?_
      obtain ⟨hi48, hf⟩ := lc_chk_some hf
      refine lc_iald hx hb hE hH lc_h82 rfl hi48 dQ_bindingType_48 ?_
      refine lv_bipush (v := 58) hx hb dQ_bindingType_49 (by decide) ?_
      refine lv_icmp_ne (tgt := 57) hx hb dQ_bindingType_51 (by decide) (fun hc => ?_) (fun hc => ?_)
      · replace hf := lc_ite_neg hc hf
        refine lv_iload hx hb dQ_bindingType_57 (lv_at hl 0 rfl) ?_
        refine lv_iconst (v := 2) hx hb dQ_bindingType_59 (by decide) ?_
        refine lv_icmp_ge (tgt := 67) hx hb dQ_bindingType_60 (by decide) (fun hc => ?_) (fun hc => ?_)
        · replace hf := lc_ite_pos hc hf
          refine lv_iload_n hx hb dQ_bindingType_67 rfl (lv_at hl 4 rfl) ?_
          refine lv_if_eq (tgt := 81) hx hb dQ_bindingType_68 (by decide) (fun hc => ?_) (fun hc => ?_)
          · replace hf := lc_ite_pos hc hf
            refine lv_aload_n hx hb dQ_bindingType_81 rfl (lv_at hl 1 rfl) ?_
            refine lc_getf (d := 18) (q := 98) hx hb hts hown hE hH flQ_62 lc_h80 rfl rfl dQ_bindingType_82 ?_
            refine lv_iload hx hb dQ_bindingType_85 (lv_at hl 0 rfl) ?_
            obtain ⟨hi87, hf⟩ := lc_chk_some hf
            refine lc_iald hx hb hE hH lc_h98 rfl hi87 dQ_bindingType_87 ?_
            exact lc_iret hx hb hr hlocks hH hf dQ_bindingType_88
          · replace hf := lc_ite_neg hc hf
            refine lv_aload_n hx hb dQ_bindingType_71 rfl (lv_at hl 1 rfl) ?_
            refine lc_getf (d := 19) (q := 99) hx hb hts hown hE hH flQ_65 lc_h80 rfl rfl dQ_bindingType_72 ?_
            refine lv_iload hx hb dQ_bindingType_75 (lv_at hl 0 rfl) ?_
            obtain ⟨hi77, hf⟩ := lc_chk_some hf
            refine lc_iald hx hb hE hH lc_h99 rfl hi77 dQ_bindingType_77 ?_
            refine lv_goto (tgt := 88) hx hb dQ_bindingType_78 (by decide) ?_
            exact lc_iret hx hb hr hlocks hH hf dQ_bindingType_88
        · replace hf := lc_ite_neg hc hf
          refine lv_iconst (v := (-1)) hx hb dQ_bindingType_63 (by decide) ?_
          refine lv_goto (tgt := 88) hx hb dQ_bindingType_64 (by decide) ?_
          exact lc_iret hx hb hr hlocks hH hf dQ_bindingType_88
      · replace hf := lc_ite_pos hc hf
        exact bQ_bindingType_54 hx hb hml hr hlocks hown hts hE hf (lv_sub hl [0] rfl) hH
  · replace hf := lc_ite_neg hc hf
    refine lv_aload_n hx hb dQ_bindingType_4 rfl (lv_at hl 0 rfl) ?_
    refine lc_getf (d := 21) (q := 101) hx hb hts hown hE hH flQ_71 lc_h80 rfl rfl dQ_bindingType_5 ?_
    refine lv_iload_n hx hb dQ_bindingType_8 rfl (lv_at hl 1 rfl) ?_
    obtain ⟨hi9, hf⟩ := lc_chk_some hf
    refine lc_iald hx hb hE hH lc_h101 rfl hi9 dQ_bindingType_9 ?_
    exact lc_iret hx hb hr hlocks hH hf dQ_bindingType_10
