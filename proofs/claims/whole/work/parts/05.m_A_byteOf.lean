theorem dA_byteOf_0 : decode prog_1_method_11_code 0 = .ok (.lload_n 0, 1) := by decide +kernel
theorem dA_byteOf_1 : decode prog_1_method_11_code 1 = .ok (.bipush 8, 2) := by decide +kernel
theorem dA_byteOf_3 : decode prog_1_method_11_code 3 = .ok (.iload_n 2, 1) := by decide +kernel
theorem dA_byteOf_4 : decode prog_1_method_11_code 4 = .ok (.imul, 1) := by decide +kernel
theorem dA_byteOf_5 : decode prog_1_method_11_code 5 = .ok (.lushr, 1) := by decide +kernel
theorem dA_byteOf_6 : decode prog_1_method_11_code 6 = .ok (.l2i, 1) := by decide +kernel
theorem dA_byteOf_7 : decode prog_1_method_11_code 7 = .ok (.sipush 255, 3) := by decide +kernel
theorem dA_byteOf_10 : decode prog_1_method_11_code 10 = .ok (.iand, 1) := by decide +kernel
theorem dA_byteOf_11 : decode prog_1_method_11_code 11 = .ok (.ireturn, 1) := by decide +kernel
def fA_byteOf (a0 : Int64) (a2 : Int32) (z : lc_S) : Option ((Int32) × lc_S) :=
  some ((((a0.toUInt64 >>> ((8 * a2).toInt64.toUInt64 &&& Int64.toUInt64 63)).toInt64).toInt32) &&& 255, z)
set_option maxHeartbeats 4000000 in
set_option maxRecDepth 100000 in
theorem cA_byteOf (l : Launch) (G : lc_G) {a0 : Int64} {a2 : Int32} {r : Int32} {z z' : lc_S} (hf : fA_byteOf a0 a2 z = some (r, z')) : lc_M l G yA_byteOf wA_byteOf 0 [.long a0, .int a2] z (some (.int r)) z' := by
  refine lc_M_of (cc := prog_1_method_11_code) (maxL := 3) (ret := (some .int)) (own := "LinearCells") (by decide) rfl (fun w h => List.mem_cons_of_mem _ h) (Nat.le_of_ble_eq_true rfl) rfl ?_
  intro p e s m below meth c hx hb hml hr hlocks hown hts hE ls hl hH
  replace hl : lv_has ls 3 [(0, .long a0), (2, .int a2)] := hl
  rw [fA_byteOf] at hf
  refine lv_lload_n hx hb dA_byteOf_0 rfl (lv_at hl 0 rfl) ?_
  refine lv_bipush (v := 8) hx hb dA_byteOf_1 (by decide) ?_
  refine lv_iload_n hx hb dA_byteOf_3 rfl (lv_at hl 1 rfl) ?_
  refine lv_imul hx hb dA_byteOf_4 ?_
  refine lv_lushr hx hb dA_byteOf_5 rfl ?_
  refine lv_l2i hx hb dA_byteOf_6 rfl ?_
  refine lv_sipush (v := 255) hx hb dA_byteOf_7 (by decide) ?_
  refine lv_iand hx hb dA_byteOf_10 ?_
  exact lc_iret hx hb hr hlocks hH hf dA_byteOf_11
theorem dA_charactersIn_0 : decode prog_1_method_10_code 0 = .ok (.iconst 0, 1) := by decide +kernel
theorem dA_charactersIn_1 : decode prog_1_method_10_code 1 = .ok (.istore_n 2, 1) := by decide +kernel
theorem dA_charactersIn_2 : decode prog_1_method_10_code 2 = .ok (.iload_n 2, 1) := by decide +kernel
theorem dA_charactersIn_3 : decode prog_1_method_10_code 3 = .ok (.bipush 8, 2) := by decide +kernel
theorem dA_charactersIn_5 : decode prog_1_method_10_code 5 = .ok (.if_icmp .ge 35, 3) := by decide +kernel
theorem dA_charactersIn_8 : decode prog_1_method_10_code 8 = .ok (.lload_n 0, 1) := by decide +kernel
theorem dA_charactersIn_9 : decode prog_1_method_10_code 9 = .ok (.iload_n 2, 1) := by decide +kernel
theorem dA_charactersIn_10 : decode prog_1_method_10_code 10 = .ok (.invokestatic 53, 3) := by decide +kernel
theorem dA_charactersIn_13 : decode prog_1_method_10_code 13 = .ok (.istore_n 3, 1) := by decide +kernel
theorem dA_charactersIn_14 : decode prog_1_method_10_code 14 = .ok (.iload_n 3, 1) := by decide +kernel
theorem dA_charactersIn_15 : decode prog_1_method_10_code 15 = .ok (.ifCond .ne 5, 3) := by decide +kernel
theorem dA_charactersIn_18 : decode prog_1_method_10_code 18 = .ok (.iload_n 2, 1) := by decide +kernel
theorem dA_charactersIn_19 : decode prog_1_method_10_code 19 = .ok (.ireturn, 1) := by decide +kernel
theorem dA_charactersIn_20 : decode prog_1_method_10_code 20 = .ok (.iload_n 3, 1) := by decide +kernel
theorem dA_charactersIn_21 : decode prog_1_method_10_code 21 = .ok (.bipush 32, 2) := by decide +kernel
theorem dA_charactersIn_23 : decode prog_1_method_10_code 23 = .ok (.if_icmp .lt 9, 3) := by decide +kernel
theorem dA_charactersIn_26 : decode prog_1_method_10_code 26 = .ok (.iload_n 3, 1) := by decide +kernel
theorem dA_charactersIn_27 : decode prog_1_method_10_code 27 = .ok (.bipush 126, 2) := by decide +kernel
theorem dA_charactersIn_29 : decode prog_1_method_10_code 29 = .ok (.if_icmp .le 5, 3) := by decide +kernel
theorem dA_charactersIn_32 : decode prog_1_method_10_code 32 = .ok (.iconst 0, 1) := by decide +kernel
theorem dA_charactersIn_33 : decode prog_1_method_10_code 33 = .ok (.ireturn, 1) := by decide +kernel
theorem dA_charactersIn_34 : decode prog_1_method_10_code 34 = .ok (.iinc 2 1, 3) := by decide +kernel
theorem dA_charactersIn_37 : decode prog_1_method_10_code 37 = .ok (.goto (-35), 3) := by decide +kernel
theorem dA_charactersIn_40 : decode prog_1_method_10_code 40 = .ok (.bipush 8, 2) := by decide +kernel
theorem dA_charactersIn_42 : decode prog_1_method_10_code 42 = .ok (.ireturn, 1) := by decide +kernel
def fA_charactersIn_32 (z : lc_S) : Option ((Int32) × lc_S) :=
  some (0, z)
def fA_charactersIn_2 : Nat → Int64 → Int32 → lc_S → Option ((Int32) × lc_S)
  | 0, _, _, _ => none
  | n + 1, x0, x2, z => if 8 ≤ x2 then (some (8, z)) else (lc_bnd (fA_byteOf x0 x2 z) (fun r10 z10 => if r10 = 0 then (some (x2, z10)) else (if r10 < 32 then (fA_charactersIn_32 z10) else (if r10 ≤ 126 then (lc_let (x2 + 1) (fun x34 => fA_charactersIn_2 n x0 x34 z10)) else (fA_charactersIn_32 z10)))))
def fA_charactersIn (a0 : Int64) (z : lc_S) : Option ((Int32) × lc_S) :=
  fA_charactersIn_2 lc_FU a0 0 z
set_option maxHeartbeats 4000000 in
set_option maxRecDepth 100000 in
theorem bA_charactersIn_32 {p : Program} {l : Launch} {e : Env} {s : State} {m : MethodId} {args : Array Value} {below : List Frame} {meth : Method} {c : Code} {G : lc_G} (hx : p.tables.exec = Jvm.exec) (hb : c.code = prog_1_method_10_code) (hml : c.maxLocals = 4) (hr : meth.sig.returnType = (some .int)) (hlocks : meth.locks = false) (hown : s.vm.findClass "LinearCells" = some m.cls) (hts : ∀ w ∈ lc_ALL, w.before args s = true) (hE : lc_E G s) {r : Int32} {z' : lc_S} : ∀ {z : lc_S} {H : Heap} {locs : List Loc} {ls : Array Slot}, fA_charactersIn_32 z = some (r, z') → lv_has ls 4 [] → lc_H G z s.heap H locs → W p l e (lc_rm 1) s m args below meth c H locs 0 0 (MQ below (lc_Q G (some (.int r)) z') args s 0 0 (lc_A G)) (F0 m 32 ls []) := by
  intro z H locs ls hf hl hH
  rw [fA_charactersIn_32] at hf
  refine lv_iconst (v := 0) hx hb dA_charactersIn_32 (by decide) ?_
  exact lc_iret hx hb hr hlocks hH hf dA_charactersIn_33
set_option maxHeartbeats 4000000 in
set_option maxRecDepth 100000 in
theorem bA_charactersIn_2 {p : Program} {l : Launch} {e : Env} {s : State} {m : MethodId} {args : Array Value} {below : List Frame} {meth : Method} {c : Code} {G : lc_G} (hx : p.tables.exec = Jvm.exec) (hb : c.code = prog_1_method_10_code) (hml : c.maxLocals = 4) (hr : meth.sig.returnType = (some .int)) (hlocks : meth.locks = false) (hown : s.vm.findClass "LinearCells" = some m.cls) (hts : ∀ w ∈ lc_ALL, w.before args s = true) (hE : lc_E G s) {r : Int32} {z' : lc_S} : ∀ (n : Nat) {x0 : Int64} {x2 : Int32} {z : lc_S} {H : Heap} {locs : List Loc} {ls : Array Slot}, fA_charactersIn_2 n x0 x2 z = some (r, z') → lv_has ls 4 [(0, .long x0), (2, .int x2)] → lc_H G z s.heap H locs → W p l e (lc_rm 1) s m args below meth c H locs 0 0 (MQ below (lc_Q G (some (.int r)) z') args s 0 0 (lc_A G)) (F0 m 2 ls []) := by
  intro n
  induction n with
  | zero =>
    intro x0 x2 z H locs ls hf hl hH
    exact absurd (show (none : Option ((Int32) × lc_S)) = some (r, z') from hf) (fun h => by cases h)
  | succ n ih =>
    intro x0 x2 z H locs ls hf hl hH
    rw [fA_charactersIn_2] at hf
    refine lv_iload_n hx hb dA_charactersIn_2 rfl (lv_at hl 1 rfl) ?_
    refine lv_bipush (v := 8) hx hb dA_charactersIn_3 (by decide) ?_
    refine lv_icmp_ge (tgt := 40) hx hb dA_charactersIn_5 (by decide) (fun hc => ?_) (fun hc => ?_)
    · replace hf := lc_ite_pos hc hf
      refine lv_bipush (v := 8) hx hb dA_charactersIn_40 (by decide) ?_
      exact lc_iret hx hb hr hlocks hH hf dA_charactersIn_42
    · replace hf := lc_ite_neg hc hf
      refine lv_lload_n hx hb dA_charactersIn_8 rfl (lv_at hl 0 rfl) ?_
      refine lv_iload_n hx hb dA_charactersIn_9 rfl (lv_at hl 1 rfl) ?_
      obtain ⟨r10, z10, h10, hf⟩ := lc_bnd_some hf
      refine lc_calli (va_runS (As := [.long x0, .int x2]) (rest := []) ⟨hx, hb, hml, hown, hts⟩ (cA_byteOf l G h10) (lc_cwS hts ksA_53 (lc_room (by decide) (by decide))) (lc_preS hE hH _) rfl rfl hl.1 rfl (lv_room (Nat.le_of_ble_eq_true rfl)) dA_charactersIn_10 ⟨Nat.zero_le _, Nat.zero_le _⟩) hH (fun H locs hH => ?_)
      refine lv_istore_n hx hb dA_charactersIn_13 rfl hl (by decide) rfl (fun ls hl => ?_)
      replace hl : lv_has ls 4 [(3, .int r10), (0, .long x0), (2, .int x2)] := hl
      refine lv_iload_n hx hb dA_charactersIn_14 rfl (lv_at hl 0 rfl) ?_
      refine lv_if_ne (tgt := 20) hx hb dA_charactersIn_15 (by decide) (fun hc => ?_) (fun hc => ?_)
      · replace hf := lc_ite_neg hc hf
        refine lv_iload_n hx hb dA_charactersIn_20 rfl (lv_at hl 0 rfl) ?_
        refine lv_bipush (v := 32) hx hb dA_charactersIn_21 (by decide) ?_
        refine lv_icmp_lt (tgt := 32) hx hb dA_charactersIn_23 (by decide) (fun hc => ?_) (fun hc => ?_)
        · replace hf := lc_ite_pos hc hf
          exact bA_charactersIn_32 hx hb hml hr hlocks hown hts hE hf (lv_sub hl [] rfl) hH
        · replace hf := lc_ite_neg hc hf
          refine lv_iload_n hx hb dA_charactersIn_26 rfl (lv_at hl 0 rfl) ?_
          refine lv_bipush (v := 126) hx hb dA_charactersIn_27 (by decide) ?_
          refine lv_icmp_le (tgt := 34) hx hb dA_charactersIn_29 (by decide) (fun hc => ?_) (fun hc => ?_)
          · replace hf := lc_ite_pos hc hf
            obtain ⟨x34, e34⟩ : ∃ x : Int32, x = x2 + 1 := ⟨_, rfl⟩
            replace hf := lc_let_of e34 hf
            refine lv_iinc (k := 2) (v := x34) hx hb dA_charactersIn_34 hl rfl ((lc_incv _ (by decide)).trans e34.symm) (by decide) rfl (fun ls hl => ?_)
            replace hl : lv_has ls 4 [(2, .int x34), (3, .int r10), (0, .long x0)] := hl
            refine lv_goto (tgt := 2) hx hb dA_charactersIn_37 (by decide) ?_
            exact ih hf (lv_sub hl [2, 0] rfl) hH
          · replace hf := lc_ite_neg hc hf
            exact bA_charactersIn_32 hx hb hml hr hlocks hown hts hE hf (lv_sub hl [] rfl) hH
      · replace hf := lc_ite_pos hc hf
        refine lv_iload_n hx hb dA_charactersIn_18 rfl (lv_at hl 2 rfl) ?_
        exact lc_iret hx hb hr hlocks hH hf dA_charactersIn_19
set_option maxHeartbeats 4000000 in
set_option maxRecDepth 100000 in
theorem cA_charactersIn (l : Launch) (G : lc_G) {a0 : Int64} {r : Int32} {z z' : lc_S} (hf : fA_charactersIn a0 z = some (r, z')) : lc_M l G yA_charactersIn wA_charactersIn 1 [.long a0] z (some (.int r)) z' := by
  refine lc_M_of (cc := prog_1_method_10_code) (maxL := 4) (ret := (some .int)) (own := "LinearCells") (by decide) rfl (fun w h => List.mem_cons_of_mem _ h) (Nat.le_of_ble_eq_true rfl) rfl ?_
  intro p e s m below meth c hx hb hml hr hlocks hown hts hE ls hl hH
  replace hl : lv_has ls 4 [(0, .long a0)] := hl
  rw [fA_charactersIn] at hf
  refine lv_iconst (v := 0) hx hb dA_charactersIn_0 (by decide) ?_
  refine lv_istore_n hx hb dA_charactersIn_1 rfl hl (by decide) rfl (fun ls hl => ?_)
  replace hl : lv_has ls 4 [(2, .int 0), (0, .long a0)] := hl
  exact bA_charactersIn_2 hx hb hml hr hlocks hown hts hE _ hf (lv_sub hl [1, 0] rfl) hH
theorem dA_draft_0 : decode prog_1_method_2_code 0 = .ok (.lload_n 1, 1) := by decide +kernel
theorem dA_draft_1 : decode prog_1_method_2_code 1 = .ok (.invokestatic 45, 3) := by decide +kernel
theorem dA_draft_4 : decode prog_1_method_2_code 4 = .ok (.istore_n 3, 1) := by decide +kernel
theorem dA_draft_5 : decode prog_1_method_2_code 5 = .ok (.iload_n 3, 1) := by decide +kernel
theorem dA_draft_6 : decode prog_1_method_2_code 6 = .ok (.ifCond .eq 14, 3) := by decide +kernel
theorem dA_draft_9 : decode prog_1_method_2_code 9 = .ok (.aload_n 0, 1) := by decide +kernel
theorem dA_draft_10 : decode prog_1_method_2_code 10 = .ok (.getfield 49, 3) := by decide +kernel
theorem dA_draft_13 : decode prog_1_method_2_code 13 = .ok (.iload_n 3, 1) := by decide +kernel
theorem dA_draft_14 : decode prog_1_method_2_code 14 = .ok (.iadd, 1) := by decide +kernel
theorem dA_draft_15 : decode prog_1_method_2_code 15 = .ok (.bipush 120, 2) := by decide +kernel
theorem dA_draft_17 : decode prog_1_method_2_code 17 = .ok (.if_icmp .le 5, 3) := by decide +kernel
theorem dA_draft_20 : decode prog_1_method_2_code 20 = .ok (.iconst 0, 1) := by decide +kernel
theorem dA_draft_21 : decode prog_1_method_2_code 21 = .ok (.ireturn, 1) := by decide +kernel
theorem dA_draft_22 : decode prog_1_method_2_code 22 = .ok (.iconst 0, 1) := by decide +kernel
theorem dA_draft_23 : decode prog_1_method_2_code 23 = .ok (.istore 4, 2) := by decide +kernel
theorem dA_draft_25 : decode prog_1_method_2_code 25 = .ok (.iload 4, 2) := by decide +kernel
theorem dA_draft_27 : decode prog_1_method_2_code 27 = .ok (.iload_n 3, 1) := by decide +kernel
theorem dA_draft_28 : decode prog_1_method_2_code 28 = .ok (.if_icmp .ge 28, 3) := by decide +kernel
theorem dA_draft_31 : decode prog_1_method_2_code 31 = .ok (.aload_n 0, 1) := by decide +kernel
theorem dA_draft_32 : decode prog_1_method_2_code 32 = .ok (.getfield 9, 3) := by decide +kernel
theorem dA_draft_35 : decode prog_1_method_2_code 35 = .ok (.aload_n 0, 1) := by decide +kernel
theorem dA_draft_36 : decode prog_1_method_2_code 36 = .ok (.getfield 49, 3) := by decide +kernel
theorem dA_draft_39 : decode prog_1_method_2_code 39 = .ok (.iload 4, 2) := by decide +kernel
theorem dA_draft_41 : decode prog_1_method_2_code 41 = .ok (.iadd, 1) := by decide +kernel
theorem dA_draft_42 : decode prog_1_method_2_code 42 = .ok (.lload_n 1, 1) := by decide +kernel
theorem dA_draft_43 : decode prog_1_method_2_code 43 = .ok (.iload 4, 2) := by decide +kernel
theorem dA_draft_45 : decode prog_1_method_2_code 45 = .ok (.invokestatic 53, 3) := by decide +kernel
theorem dA_draft_48 : decode prog_1_method_2_code 48 = .ok (.i2c, 1) := by decide +kernel
theorem dA_draft_49 : decode prog_1_method_2_code 49 = .ok (.castore, 1) := by decide +kernel
theorem dA_draft_50 : decode prog_1_method_2_code 50 = .ok (.iinc 4 1, 3) := by decide +kernel
theorem dA_draft_53 : decode prog_1_method_2_code 53 = .ok (.goto (-28), 3) := by decide +kernel
theorem dA_draft_56 : decode prog_1_method_2_code 56 = .ok (.aload_n 0, 1) := by decide +kernel
theorem dA_draft_57 : decode prog_1_method_2_code 57 = .ok (.dup, 1) := by decide +kernel
theorem dA_draft_58 : decode prog_1_method_2_code 58 = .ok (.getfield 49, 3) := by decide +kernel
theorem dA_draft_61 : decode prog_1_method_2_code 61 = .ok (.iload_n 3, 1) := by decide +kernel
theorem dA_draft_62 : decode prog_1_method_2_code 62 = .ok (.iadd, 1) := by decide +kernel
theorem dA_draft_63 : decode prog_1_method_2_code 63 = .ok (.putfield 49, 3) := by decide +kernel
theorem dA_draft_66 : decode prog_1_method_2_code 66 = .ok (.iconst 1, 1) := by decide +kernel
theorem dA_draft_67 : decode prog_1_method_2_code 67 = .ok (.ireturn, 1) := by decide +kernel
def fA_draft_20 (z : lc_S) : Option ((Int32) × lc_S) :=
  some (0, z)
def fA_draft_25 : Nat → Int64 → Int32 → Int32 → lc_S → Option ((Int32) × lc_S)
  | 0, _, _, _, _ => none
  | n + 1, x1, x3, x4, z => if x3 ≤ x4 then (some (1, lcUI z 1 1 ((lcI z 1 1) + x3))) else (lc_bnd (fA_byteOf x1 x4 z) (fun r45 z45 => lc_chk (lc_in ((lcI z 1 1) + x4) 120) (lc_chk (vp_nar .char ((r45.toUInt32 % 65536).toInt32) = ((r45.toUInt32 % 65536).toInt32)) (lc_let (x4 + 1) (fun x50 => fA_draft_25 n x1 x3 x50 (lcUI z45 2 ((lcI z 1 1) + x4).toNatClampNeg ((r45.toUInt32 % 65536).toInt32)))))))
def fA_draft (a1 : Int64) (z : lc_S) : Option ((Int32) × lc_S) :=
  lc_bnd (fA_charactersIn a1 z) (fun r1 z1 => if r1 = 0 then (fA_draft_20 z1) else (if ((lcI z1 1 1) + r1) ≤ 120 then (fA_draft_25 lc_FU a1 r1 0 z1) else (fA_draft_20 z1)))
set_option maxHeartbeats 4000000 in
set_option maxRecDepth 100000 in
theorem bA_draft_20 {p : Program} {l : Launch} {e : Env} {s : State} {m : MethodId} {args : Array Value} {below : List Frame} {meth : Method} {c : Code} {G : lc_G} (hx : p.tables.exec = Jvm.exec) (hb : c.code = prog_1_method_2_code) (hml : c.maxLocals = 5) (hr : meth.sig.returnType = (some .boolean)) (hlocks : meth.locks = false) (hown : s.vm.findClass "LinearCells" = some m.cls) (hts : ∀ w ∈ lc_ALL, w.before args s = true) (hE : lc_E G s) {r : Int32} {z' : lc_S} : ∀ {z : lc_S} {H : Heap} {locs : List Loc} {ls : Array Slot}, fA_draft_20 z = some (r, z') → lv_has ls 5 [] → lc_H G z s.heap H locs → W p l e (lc_rm 2) s m args below meth c H locs 0 0 (MQ below (lc_Q G (some (.int r)) z') args s 0 0 (lc_A G)) (F0 m 20 ls []) := by
  intro z H locs ls hf hl hH
  rw [fA_draft_20] at hf
  refine lv_iconst (v := 0) hx hb dA_draft_20 (by decide) ?_
  exact lc_zret hx hb hr hlocks (by decide) hH hf dA_draft_21
set_option maxHeartbeats 4000000 in
set_option maxRecDepth 100000 in
theorem bA_draft_25 {p : Program} {l : Launch} {e : Env} {s : State} {m : MethodId} {args : Array Value} {below : List Frame} {meth : Method} {c : Code} {G : lc_G} (hx : p.tables.exec = Jvm.exec) (hb : c.code = prog_1_method_2_code) (hml : c.maxLocals = 5) (hr : meth.sig.returnType = (some .boolean)) (hlocks : meth.locks = false) (hown : s.vm.findClass "LinearCells" = some m.cls) (hts : ∀ w ∈ lc_ALL, w.before args s = true) (hE : lc_E G s) {r : Int32} {z' : lc_S} : ∀ (n : Nat) {x1 : Int64} {x3 : Int32} {x4 : Int32} {z : lc_S} {H : Heap} {locs : List Loc} {ls : Array Slot}, fA_draft_25 n x1 x3 x4 z = some (r, z') → lv_has ls 5 [(0, .ref (lc_ad G 1)), (1, .long x1), (3, .int x3), (4, .int x4)] → lc_H G z s.heap H locs → W p l e (lc_rm 2) s m args below meth c H locs 0 0 (MQ below (lc_Q G (some (.int r)) z') args s 0 0 (lc_A G)) (F0 m 25 ls []) := by
  intro n
  induction n with
  | zero =>
    intro x1 x3 x4 z H locs ls hf hl hH
    exact absurd (show (none : Option ((Int32) × lc_S)) = some (r, z') from hf) (fun h => by cases h)
  | succ n ih =>
    intro x1 x3 x4 z H locs ls hf hl hH
    rw [fA_draft_25] at hf
    refine lv_iload hx hb dA_draft_25 (lv_at hl 3 rfl) ?_
    refine lv_iload_n hx hb dA_draft_27 rfl (lv_at hl 2 rfl) ?_
    refine lv_icmp_ge (tgt := 56) hx hb dA_draft_28 (by decide) (fun hc => ?_) (fun hc => ?_)
    · replace hf := lc_ite_pos hc hf
      refine lv_aload_n hx hb dA_draft_56 rfl (lv_at hl 0 rfl) ?_
      refine lv_dup hx hb dA_draft_57 rfl ?_
      refine lc_geti hx hb hts hown hE hH flA_49 lc_h1 rfl dA_draft_58 ?_
      refine lv_iload_n hx hb dA_draft_61 rfl (lv_at hl 2 rfl) ?_
      refine lv_iadd hx hb dA_draft_62 ?_
      refine lc_puti hx hb hts hown hE hH fpA_49 lc_h1 rfl rfl rfl dA_draft_63 (fun H locs hH => ?_)
      refine lv_iconst (v := 1) hx hb dA_draft_66 (by decide) ?_
      exact lc_zret hx hb hr hlocks (by decide) hH hf dA_draft_67
    · replace hf := lc_ite_neg hc hf
      refine lv_aload_n hx hb dA_draft_31 rfl (lv_at hl 0 rfl) ?_
      refine lc_getf (d := 1) (q := 2) hx hb hts hown hE hH flA_9 lc_h1 rfl rfl dA_draft_32 ?_
      refine lv_aload_n hx hb dA_draft_35 rfl (lv_at hl 0 rfl) ?_
      refine lc_geti hx hb hts hown hE hH flA_49 lc_h1 rfl dA_draft_36 ?_
      refine lv_iload hx hb dA_draft_39 (lv_at hl 3 rfl) ?_
      refine lv_iadd hx hb dA_draft_41 ?_
      refine lv_lload_n hx hb dA_draft_42 rfl (lv_at hl 1 rfl) ?_
      refine lv_iload hx hb dA_draft_43 (lv_at hl 3 rfl) ?_
      obtain ⟨r45, z45, h45, hf⟩ := lc_bnd_some hf
      refine lc_calli (va_runS (As := [.long x1, .int x4]) (rest := [.int ((lcI z 1 1) + x4), .ref (lc_ad G 2)]) ⟨hx, hb, hml, hown, hts⟩ (cA_byteOf l G h45) (lc_cwS hts ksA_53 (lc_room (by decide) (by decide))) (lc_preS hE hH _) rfl rfl hl.1 rfl (lv_room (Nat.le_of_ble_eq_true rfl)) dA_draft_45 ⟨Nat.zero_le _, Nat.zero_le _⟩) hH (fun H locs hH => ?_)
      refine lv_i2c hx hb dA_draft_48 rfl ?_
      obtain ⟨hi49, hf⟩ := lc_chk_some hf
      obtain ⟨hn49, hf⟩ := lc_chk_some hf
      refine lc_cast hx hb hE hH lc_h2 rfl hi49 hn49 dA_draft_49 (fun H locs hH => ?_)
      obtain ⟨x50, e50⟩ : ∃ x : Int32, x = x4 + 1 := ⟨_, rfl⟩
      replace hf := lc_let_of e50 hf
      refine lv_iinc (k := 3) (v := x50) hx hb dA_draft_50 hl rfl ((lc_incv _ (by decide)).trans e50.symm) (by decide) rfl (fun ls hl => ?_)
      replace hl : lv_has ls 5 [(4, .int x50), (0, .ref (lc_ad G 1)), (1, .long x1), (3, .int x3)] := hl
      refine lv_goto (tgt := 25) hx hb dA_draft_53 (by decide) ?_
      exact ih hf (lv_sub hl [1, 2, 3, 0] rfl) hH
set_option maxHeartbeats 4000000 in
set_option maxRecDepth 100000 in
theorem cA_draft (l : Launch) (G : lc_G) {a1 : Int64} {r : Int32} {z z' : lc_S} (hf : fA_draft a1 z = some (r, z')) : lc_M l G yA_draft wA_draft 2 [.ref (lc_ad G 1), .long a1] z (some (.int r)) z' := by
  refine lc_M_of (cc := prog_1_method_2_code) (maxL := 5) (ret := (some .boolean)) (own := "LinearCells") (by decide) rfl (fun w h => List.mem_cons_of_mem _ h) (Nat.le_of_ble_eq_true rfl) rfl ?_
  intro p e s m below meth c hx hb hml hr hlocks hown hts hE ls hl hH
  replace hl : lv_has ls 5 [(0, .ref (lc_ad G 1)), (1, .long a1)] := hl
  rw [fA_draft] at hf
  refine lv_lload_n hx hb dA_draft_0 rfl (lv_at hl 1 rfl) ?_
  obtain ⟨r1, z1, h1, hf⟩ := lc_bnd_some hf
  refine lc_calli (va_runS (As := [.long a1]) (rest := []) ⟨hx, hb, hml, hown, hts⟩ (cA_charactersIn l G h1) (lc_cwS hts ksA_45 (lc_room (by decide) (by decide))) (lc_preS hE hH _) rfl rfl hl.1 rfl (lv_room (Nat.le_of_ble_eq_true rfl)) dA_draft_1 ⟨Nat.zero_le _, Nat.zero_le _⟩) hH (fun H locs hH => ?_)
  refine lv_istore_n hx hb dA_draft_4 rfl hl (by decide) rfl (fun ls hl => ?_)
  replace hl : lv_has ls 5 [(3, .int r1), (0, .ref (lc_ad G 1)), (1, .long a1)] := hl
  refine lv_iload_n hx hb dA_draft_5 rfl (lv_at hl 0 rfl) ?_
  refine lv_if_eq (tgt := 20) hx hb dA_draft_6 (by decide) (fun hc => ?_) (fun hc => ?_)
  · replace hf := lc_ite_pos hc hf
    exact bA_draft_20 hx hb hml hr hlocks hown hts hE hf (lv_sub hl [] rfl) hH
  · replace hf := lc_ite_neg hc hf
    refine lv_aload_n hx hb dA_draft_9 rfl (lv_at hl 1 rfl) ?_
    refine lc_geti hx hb hts hown hE hH flA_49 lc_h1 rfl dA_draft_10 ?_
    refine lv_iload_n hx hb dA_draft_13 rfl (lv_at hl 0 rfl) ?_
    refine lv_iadd hx hb dA_draft_14 ?_
    refine lv_bipush (v := 120) hx hb dA_draft_15 (by decide) ?_
    refine lv_icmp_le (tgt := 22) hx hb dA_draft_17 (by decide) (fun hc => ?_) (fun hc => ?_)
    · replace hf := lc_ite_pos hc hf
      refine lv_iconst (v := 0) hx hb dA_draft_22 (by decide) ?_
      refine lv_istore hx hb dA_draft_23 hl (by decide) rfl (fun ls hl => ?_)
      replace hl : lv_has ls 5 [(4, .int 0), (3, .int r1), (0, .ref (lc_ad G 1)), (1, .long a1)] := hl
      exact bA_draft_25 hx hb hml hr hlocks hown hts hE _ hf (lv_sub hl [2, 3, 1, 0] rfl) hH
    · replace hf := lc_ite_neg hc hf
      exact bA_draft_20 hx hb hml hr hlocks hown hts hE hf (lv_sub hl [] rfl) hH
theorem dA_isProcedureNumber_0 : decode prog_1_method_12_code 0 = .ok (.iload_n 0, 1) := by decide +kernel
theorem dA_isProcedureNumber_1 : decode prog_1_method_12_code 1 = .ok (.ifCond .lt 12, 3) := by decide +kernel
theorem dA_isProcedureNumber_4 : decode prog_1_method_12_code 4 = .ok (.iload_n 0, 1) := by decide +kernel
theorem dA_isProcedureNumber_5 : decode prog_1_method_12_code 5 = .ok (.iconst 4, 1) := by decide +kernel
theorem dA_isProcedureNumber_6 : decode prog_1_method_12_code 6 = .ok (.if_icmp .ge 7, 3) := by decide +kernel
theorem dA_isProcedureNumber_9 : decode prog_1_method_12_code 9 = .ok (.iconst 1, 1) := by decide +kernel
theorem dA_isProcedureNumber_10 : decode prog_1_method_12_code 10 = .ok (.goto 4, 3) := by decide +kernel
theorem dA_isProcedureNumber_13 : decode prog_1_method_12_code 13 = .ok (.iconst 0, 1) := by decide +kernel
theorem dA_isProcedureNumber_14 : decode prog_1_method_12_code 14 = .ok (.ireturn, 1) := by decide +kernel
def fA_isProcedureNumber_13 (z : lc_S) : Option ((Int32) × lc_S) :=
  some (0, z)
def fA_isProcedureNumber (a0 : Int32) (z : lc_S) : Option ((Int32) × lc_S) :=
  if a0 < 0 then (fA_isProcedureNumber_13 z) else (if 4 ≤ a0 then (fA_isProcedureNumber_13 z) else (some (1, z)))
set_option maxHeartbeats 4000000 in
set_option maxRecDepth 100000 in
theorem bA_isProcedureNumber_13 {p : Program} {l : Launch} {e : Env} {s : State} {m : MethodId} {args : Array Value} {below : List Frame} {meth : Method} {c : Code} {G : lc_G} (hx : p.tables.exec = Jvm.exec) (hb : c.code = prog_1_method_12_code) (hml : c.maxLocals = 1) (hr : meth.sig.returnType = (some .boolean)) (hlocks : meth.locks = false) (hown : s.vm.findClass "LinearCells" = some m.cls) (hts : ∀ w ∈ lc_ALL, w.before args s = true) (hE : lc_E G s) {r : Int32} {z' : lc_S} : ∀ {z : lc_S} {H : Heap} {locs : List Loc} {ls : Array Slot}, fA_isProcedureNumber_13 z = some (r, z') → lv_has ls 1 [] → lc_H G z s.heap H locs → W p l e (lc_rm 0) s m args below meth c H locs 0 0 (MQ below (lc_Q G (some (.int r)) z') args s 0 0 (lc_A G)) (F0 m 13 ls []) := by
  intro z H locs ls hf hl hH
  rw [fA_isProcedureNumber_13] at hf
  refine lv_iconst (v := 0) hx hb dA_isProcedureNumber_13 (by decide) ?_
  exact lc_zret hx hb hr hlocks (by decide) hH hf dA_isProcedureNumber_14
set_option maxHeartbeats 4000000 in
set_option maxRecDepth 100000 in
theorem cA_isProcedureNumber (l : Launch) (G : lc_G) {a0 : Int32} {r : Int32} {z z' : lc_S} (hf : fA_isProcedureNumber a0 z = some (r, z')) : lc_M l G yA_isProcedureNumber wA_isProcedureNumber 0 [.int a0] z (some (.int r)) z' := by
  refine lc_M_of (cc := prog_1_method_12_code) (maxL := 1) (ret := (some .boolean)) (own := "LinearCells") (by decide) rfl (fun w h => List.mem_cons_of_mem _ h) (Nat.le_of_ble_eq_true rfl) rfl ?_
  intro p e s m below meth c hx hb hml hr hlocks hown hts hE ls hl hH
  replace hl : lv_has ls 1 [(0, .int a0)] := hl
  rw [fA_isProcedureNumber] at hf
  refine lv_iload_n hx hb dA_isProcedureNumber_0 rfl (lv_at hl 0 rfl) ?_
  refine lv_if_lt (tgt := 13) hx hb dA_isProcedureNumber_1 (by decide) (fun hc => ?_) (fun hc => ?_)
  · replace hf := lc_ite_pos hc hf
    exact bA_isProcedureNumber_13 hx hb hml hr hlocks hown hts hE hf (lv_sub hl [] rfl) hH
  · replace hf := lc_ite_neg hc hf
    refine lv_iload_n hx hb dA_isProcedureNumber_4 rfl (lv_at hl 0 rfl) ?_
    refine lv_iconst (v := 4) hx hb dA_isProcedureNumber_5 (by decide) ?_
    refine lv_icmp_ge (tgt := 13) hx hb dA_isProcedureNumber_6 (by decide) (fun hc => ?_) (fun hc => ?_)
    · replace hf := lc_ite_pos hc hf
      exact bA_isProcedureNumber_13 hx hb hml hr hlocks hown hts hE hf (lv_sub hl [] rfl) hH
    · replace hf := lc_ite_neg hc hf
      refine lv_iconst (v := 1) hx hb dA_isProcedureNumber_9 (by decide) ?_
      refine lv_goto (tgt := 14) hx hb dA_isProcedureNumber_10 (by decide) ?_
      exact lc_zret hx hb hr hlocks (by decide) hH hf dA_isProcedureNumber_14
theorem dP_clear_0 : decode prog_5_method_2_code 0 = .ok (.aload_n 0, 1) := by decide +kernel
theorem dP_clear_1 : decode prog_5_method_2_code 1 = .ok (.iconst 0, 1) := by decide +kernel
theorem dP_clear_2 : decode prog_5_method_2_code 2 = .ok (.putfield 36, 3) := by decide +kernel
theorem dP_clear_5 : decode prog_5_method_2_code 5 = .ok (.aload_n 0, 1) := by decide +kernel
theorem dP_clear_6 : decode prog_5_method_2_code 6 = .ok (.iconst 0, 1) := by decide +kernel
theorem dP_clear_7 : decode prog_5_method_2_code 7 = .ok (.putfield 40, 3) := by decide +kernel
theorem dP_clear_10 : decode prog_5_method_2_code 10 = .ok (.aload_n 0, 1) := by decide +kernel
theorem dP_clear_11 : decode prog_5_method_2_code 11 = .ok (.iconst 0, 1) := by decide +kernel
theorem dP_clear_12 : decode prog_5_method_2_code 12 = .ok (.putfield 44, 3) := by decide +kernel
theorem dP_clear_15 : decode prog_5_method_2_code 15 = .ok (.aload_n 0, 1) := by decide +kernel
theorem dP_clear_16 : decode prog_5_method_2_code 16 = .ok (.iconst 0, 1) := by decide +kernel
theorem dP_clear_17 : decode prog_5_method_2_code 17 = .ok (.putfield 47, 3) := by decide +kernel
theorem dP_clear_20 : decode prog_5_method_2_code 20 = .ok (.aload_n 0, 1) := by decide +kernel
theorem dP_clear_21 : decode prog_5_method_2_code 21 = .ok (.iconst 0, 1) := by decide +kernel
theorem dP_clear_22 : decode prog_5_method_2_code 22 = .ok (.putfield 50, 3) := by decide +kernel
theorem dP_clear_25 : decode prog_5_method_2_code 25 = .ok (.aload_n 0, 1) := by decide +kernel
theorem dP_clear_26 : decode prog_5_method_2_code 26 = .ok (.getfield 33, 3) := by decide +kernel
theorem dP_clear_29 : decode prog_5_method_2_code 29 = .ok (.iconst 0, 1) := by decide +kernel
theorem dP_clear_30 : decode prog_5_method_2_code 30 = .ok (.iconst (-1), 1) := by decide +kernel
theorem dP_clear_31 : decode prog_5_method_2_code 31 = .ok (.iastore, 1) := by decide +kernel
theorem dP_clear_32 : decode prog_5_method_2_code 32 = .ok (.aload_n 0, 1) := by decide +kernel
theorem dP_clear_33 : decode prog_5_method_2_code 33 = .ok (.iconst 1, 1) := by decide +kernel
theorem dP_clear_34 : decode prog_5_method_2_code 34 = .ok (.putfield 53, 3) := by decide +kernel
theorem dP_clear_37 : decode prog_5_method_2_code 37 = .ok (.return_, 1) := by decide +kernel
def fP_clear (o0 : Nat) (z : lc_S) : Option ((Unit) × lc_S) :=
  lc_chk (lc_sh o0 = (0, 1, 0)) (some ((), lcUI (lcUI (lcUI (lcUI (lcUI (lcUI (lcUI z o0 0 0) o0 1 0) o0 3 0) o0 4 0) o0 11 0) (o0 + 8) (0 : Int32).toNatClampNeg (-1)) o0 13 1))
set_option maxHeartbeats 4000000 in
set_option maxRecDepth 100000 in
theorem cP_clear (l : Launch) (G : lc_G) {o0 : Nat} {r : Unit} {z z' : lc_S} (hf : fP_clear o0 z = some (r, z')) : lc_M l G yP_clear wP_clear 0 [.ref (lc_ad G o0)] z none z' := by
  refine lc_M_of (cc := prog_5_method_2_code) (maxL := 1) (ret := none) (own := "LinearCells$Procedure") (by decide) rfl (fun w h => List.mem_cons_of_mem _ h) (Nat.le_of_ble_eq_true rfl) rfl ?_
  intro p e s m below meth c hx hb hml hr hlocks hown hts hE ls hl hH
  replace hl : lv_has ls 1 [(0, .ref (lc_ad G o0))] := hl
  rw [fP_clear] at hf
  refine lv_aload_n hx hb dP_clear_0 rfl (lv_at hl 0 rfl) ?_
  refine lv_iconst (v := 0) hx hb dP_clear_1 (by decide) ?_
  obtain ⟨hs2_0, hf⟩ := lc_chk_some hf
  refine lc_puti hx hb hts hown hE hH fpP_36 hs2_0 rfl (by decide) (by decide) dP_clear_2 (fun H locs hH => ?_)
  refine lv_aload_n hx hb dP_clear_5 rfl (lv_at hl 0 rfl) ?_
  refine lv_iconst (v := 0) hx hb dP_clear_6 (by decide) ?_
  refine lc_puti hx hb hts hown hE hH fpP_40 hs2_0 rfl rfl rfl dP_clear_7 (fun H locs hH => ?_)
  refine lv_aload_n hx hb dP_clear_10 rfl (lv_at hl 0 rfl) ?_
  refine lv_iconst (v := 0) hx hb dP_clear_11 (by decide) ?_
  refine lc_puti hx hb hts hown hE hH fpP_44 hs2_0 rfl rfl rfl dP_clear_12 (fun H locs hH => ?_)
  refine lv_aload_n hx hb dP_clear_15 rfl (lv_at hl 0 rfl) ?_
  refine lv_iconst (v := 0) hx hb dP_clear_16 (by decide) ?_
  refine lc_puti hx hb hts hown hE hH fpP_47 hs2_0 rfl rfl rfl dP_clear_17 (fun H locs hH => ?_)
  refine lv_aload_n hx hb dP_clear_20 rfl (lv_at hl 0 rfl) ?_
  refine lv_iconst (v := 0) hx hb dP_clear_21 (by decide) ?_
  refine lc_puti hx hb hts hown hE hH fpP_50 hs2_0 rfl rfl rfl dP_clear_22 (fun H locs hH => ?_)
  refine lv_aload_n hx hb dP_clear_25 rfl (lv_at hl 0 rfl) ?_
  refine lc_getf (d := 8) (q := o0 + 8) hx hb hts hown hE hH flP_33 hs2_0 rfl rfl dP_clear_26 ?_
  refine lv_iconst (v := 0) hx hb dP_clear_29 (by decide) ?_
  refine lv_iconst (v := (-1)) hx hb dP_clear_30 (by decide) ?_
  refine lc_iast hx hb hE hH (lc_pr8 hs2_0) rfl (by decide) dP_clear_31 (fun H locs hH => ?_)
  refine lv_aload_n hx hb dP_clear_32 rfl (lv_at hl 0 rfl) ?_
  refine lv_iconst (v := 1) hx hb dP_clear_33 (by decide) ?_
  refine lc_puti hx hb hts hown hE hH fpP_53 hs2_0 rfl rfl rfl dP_clear_34 (fun H locs hH => ?_)
  exact lc_vret hx hb hr hlocks hH hf dP_clear_37
theorem dR_nextSign_0 : decode prog_6_method_4_code 0 = .ok (.aload_n 0, 1) := by decide +kernel
theorem dR_nextSign_1 : decode prog_6_method_4_code 1 = .ok (.getfield 35, 3) := by decide +kernel
theorem dR_nextSign_4 : decode prog_6_method_4_code 4 = .ok (.aload_n 0, 1) := by decide +kernel
theorem dR_nextSign_5 : decode prog_6_method_4_code 5 = .ok (.getfield 31, 3) := by decide +kernel
theorem dR_nextSign_8 : decode prog_6_method_4_code 8 = .ok (.if_icmp .ge 30, 3) := by decide +kernel
theorem dR_nextSign_11 : decode prog_6_method_4_code 11 = .ok (.aload_n 0, 1) := by decide +kernel
theorem dR_nextSign_12 : decode prog_6_method_4_code 12 = .ok (.getfield 27, 3) := by decide +kernel
theorem dR_nextSign_15 : decode prog_6_method_4_code 15 = .ok (.aload_n 0, 1) := by decide +kernel
theorem dR_nextSign_16 : decode prog_6_method_4_code 16 = .ok (.getfield 35, 3) := by decide +kernel
theorem dR_nextSign_19 : decode prog_6_method_4_code 19 = .ok (.caload, 1) := by decide +kernel
theorem dR_nextSign_20 : decode prog_6_method_4_code 20 = .ok (.bipush 32, 2) := by decide +kernel
theorem dR_nextSign_22 : decode prog_6_method_4_code 22 = .ok (.if_icmp .ne 16, 3) := by decide +kernel
theorem dR_nextSign_25 : decode prog_6_method_4_code 25 = .ok (.aload_n 0, 1) := by decide +kernel
theorem dR_nextSign_26 : decode prog_6_method_4_code 26 = .ok (.dup, 1) := by decide +kernel
theorem dR_nextSign_27 : decode prog_6_method_4_code 27 = .ok (.getfield 35, 3) := by decide +kernel
theorem dR_nextSign_30 : decode prog_6_method_4_code 30 = .ok (.iconst 1, 1) := by decide +kernel
theorem dR_nextSign_31 : decode prog_6_method_4_code 31 = .ok (.iadd, 1) := by decide +kernel
theorem dR_nextSign_32 : decode prog_6_method_4_code 32 = .ok (.putfield 35, 3) := by decide +kernel
theorem dR_nextSign_35 : decode prog_6_method_4_code 35 = .ok (.goto (-35), 3) := by decide +kernel
theorem dR_nextSign_38 : decode prog_6_method_4_code 38 = .ok (.aload_n 0, 1) := by decide +kernel
theorem dR_nextSign_39 : decode prog_6_method_4_code 39 = .ok (.getfield 35, 3) := by decide +kernel
theorem dR_nextSign_42 : decode prog_6_method_4_code 42 = .ok (.aload_n 0, 1) := by decide +kernel
theorem dR_nextSign_43 : decode prog_6_method_4_code 43 = .ok (.getfield 31, 3) := by decide +kernel
theorem dR_nextSign_46 : decode prog_6_method_4_code 46 = .ok (.if_icmp .lt 5, 3) := by decide +kernel
theorem dR_nextSign_49 : decode prog_6_method_4_code 49 = .ok (.iconst 0, 1) := by decide +kernel
theorem dR_nextSign_50 : decode prog_6_method_4_code 50 = .ok (.ireturn, 1) := by decide +kernel
theorem dR_nextSign_51 : decode prog_6_method_4_code 51 = .ok (.aload_n 0, 1) := by decide +kernel
theorem dR_nextSign_52 : decode prog_6_method_4_code 52 = .ok (.dup, 1) := by decide +kernel
theorem dR_nextSign_53 : decode prog_6_method_4_code 53 = .ok (.getfield 35, 3) := by decide +kernel
theorem dR_nextSign_56 : decode prog_6_method_4_code 56 = .ok (.iconst 1, 1) := by decide +kernel
theorem dR_nextSign_57 : decode prog_6_method_4_code 57 = .ok (.iadd, 1) := by decide +kernel
theorem dR_nextSign_58 : decode prog_6_method_4_code 58 = .ok (.putfield 35, 3) := by decide +kernel
theorem dR_nextSign_61 : decode prog_6_method_4_code 61 = .ok (.aload_n 0, 1) := by decide +kernel
theorem dR_nextSign_62 : decode prog_6_method_4_code 62 = .ok (.getfield 27, 3) := by decide +kernel
theorem dR_nextSign_65 : decode prog_6_method_4_code 65 = .ok (.aload_n 0, 1) := by decide +kernel
theorem dR_nextSign_66 : decode prog_6_method_4_code 66 = .ok (.getfield 35, 3) := by decide +kernel
theorem dR_nextSign_69 : decode prog_6_method_4_code 69 = .ok (.iconst 1, 1) := by decide +kernel
theorem dR_nextSign_70 : decode prog_6_method_4_code 70 = .ok (.isub, 1) := by decide +kernel
theorem dR_nextSign_71 : decode prog_6_method_4_code 71 = .ok (.caload, 1) := by decide +kernel
theorem dR_nextSign_72 : decode prog_6_method_4_code 72 = .ok (.ireturn, 1) := by decide +kernel
def fR_nextSign_38 (z : lc_S) : Option ((Int32) × lc_S) :=
  if (lcI z 4 2) < (lcI z 4 1) then (lc_bnr (lcR (lcUI z 4 2 ((lcI z 4 2) + 1)) 4 0) (fun q62 => lc_chk (lc_sh q62 = (1, 2, 120)) (lc_chk (lc_in ((lcI (lcUI z 4 2 ((lcI z 4 2) + 1)) 4 2) - 1) 120) (some (lcI (lcUI z 4 2 ((lcI z 4 2) + 1)) q62 ((lcI (lcUI z 4 2 ((lcI z 4 2) + 1)) 4 2) - 1).toNatClampNeg, lcUI z 4 2 ((lcI z 4 2) + 1)))))) else (some (0, z))
def fR_nextSign_0 : Nat → lc_S → Option ((Int32) × lc_S)
  | 0, _ => none
  | n + 1, z => if (lcI z 4 1) ≤ (lcI z 4 2) then (fR_nextSign_38 z) else (lc_bnr (lcR z 4 0) (fun q12 => lc_chk (lc_sh q12 = (1, 2, 120)) (lc_chk (lc_in (lcI z 4 2) 120) (if (lcI z q12 (lcI z 4 2).toNatClampNeg) = 32 then (fR_nextSign_0 n (lcUI z 4 2 ((lcI z 4 2) + 1))) else (fR_nextSign_38 z)))))
def fR_nextSign (z : lc_S) : Option ((Int32) × lc_S) :=
  fR_nextSign_0 lc_FU z
set_option maxHeartbeats 4000000 in
set_option maxRecDepth 100000 in
theorem bR_nextSign_38 {p : Program} {l : Launch} {e : Env} {s : State} {m : MethodId} {args : Array Value} {below : List Frame} {meth : Method} {c : Code} {G : lc_G} (hx : p.tables.exec = Jvm.exec) (hb : c.code = prog_6_method_4_code) (hml : c.maxLocals = 1) (hr : meth.sig.returnType = (some .int)) (hlocks : meth.locks = false) (hown : s.vm.findClass "LinearCells$Reader" = some m.cls) (hts : ∀ w ∈ lc_ALL, w.before args s = true) (hE : lc_E G s) {r : Int32} {z' : lc_S} : ∀ {z : lc_S} {H : Heap} {locs : List Loc} {ls : Array Slot}, fR_nextSign_38 z = some (r, z') → lv_has ls 1 [(0, .ref (lc_ad G 4))] → lc_H G z s.heap H locs → W p l e (lc_rm 0) s m args below meth c H locs 0 0 (MQ below (lc_Q G (some (.int r)) z') args s 0 0 (lc_A G)) (F0 m 38 ls []) := by
  intro z H locs ls hf hl hH
  rw [fR_nextSign_38] at hf
  refine lv_aload_n hx hb dR_nextSign_38 rfl (lv_at hl 0 rfl) ?_
  refine lc_geti hx hb hts hown hE hH flR_35 lc_h4 rfl dR_nextSign_39 ?_
  refine lv_aload_n hx hb dR_nextSign_42 rfl (lv_at hl 0 rfl) ?_
  refine lc_geti hx hb hts hown hE hH flR_31 lc_h4 rfl dR_nextSign_43 ?_
  refine lv_icmp_lt (tgt := 51) hx hb dR_nextSign_46 (by decide) (fun hc => ?_) (fun hc => ?_)
  · replace hf := lc_ite_pos hc hf
    refine lv_aload_n hx hb dR_nextSign_51 rfl (lv_at hl 0 rfl) ?_
    refine lv_dup hx hb dR_nextSign_52 rfl ?_
    refine lc_geti hx hb hts hown hE hH flR_35 lc_h4 rfl dR_nextSign_53 ?_
    refine lv_iconst (v := 1) hx hb dR_nextSign_56 (by decide) ?_
    refine lv_iadd hx hb dR_nextSign_57 ?_
    refine lc_puti hx hb hts hown hE hH fpR_35 lc_h4 rfl rfl rfl dR_nextSign_58 (fun H locs hH => ?_)
    refine lv_aload_n hx hb dR_nextSign_61 rfl (lv_at hl 0 rfl) ?_
    obtain ⟨q62, hq62, hf⟩ := lc_bnr_some hf
    refine lc_getr hx hb hts hown hE hH flR_27 lc_h4 rfl hq62 dR_nextSign_62 ?_
    refine lv_aload_n hx hb dR_nextSign_65 rfl (lv_at hl 0 rfl) ?_
    refine lc_geti hx hb hts hown hE hH flR_35 lc_h4 rfl dR_nextSign_66 ?_
    refine lv_iconst (v := 1) hx hb dR_nextSign_69 (by decide) ?_
    refine lv_isub hx hb dR_nextSign_70 ?_
    obtain ⟨hs71_0, hf⟩ := lc_chk_some hf
    obtain ⟨hi71, hf⟩ := lc_chk_some hf
    refine lc_cald hx hb hE hH hs71_0 rfl hi71 dR_nextSign_71 ?_
    exact lc_iret hx hb hr hlocks hH hf dR_nextSign_72
  · replace hf := lc_ite_neg hc hf
    refine lv_iconst (v := 0) hx hb dR_nextSign_49 (by decide) ?_
    exact lc_iret hx hb hr hlocks hH hf dR_nextSign_50
set_option maxHeartbeats 4000000 in
set_option maxRecDepth 100000 in
theorem bR_nextSign_0 {p : Program} {l : Launch} {e : Env} {s : State} {m : MethodId} {args : Array Value} {below : List Frame} {meth : Method} {c : Code} {G : lc_G} (hx : p.tables.exec = Jvm.exec) (hb : c.code = prog_6_method_4_code) (hml : c.maxLocals = 1) (hr : meth.sig.returnType = (some .int)) (hlocks : meth.locks = false) (hown : s.vm.findClass "LinearCells$Reader" = some m.cls) (hts : ∀ w ∈ lc_ALL, w.before args s = true) (hE : lc_E G s) {r : Int32} {z' : lc_S} : ∀ (n : Nat) {z : lc_S} {H : Heap} {locs : List Loc} {ls : Array Slot}, fR_nextSign_0 n z = some (r, z') → lv_has ls 1 [(0, .ref (lc_ad G 4))] → lc_H G z s.heap H locs → W p l e (lc_rm 0) s m args below meth c H locs 0 0 (MQ below (lc_Q G (some (.int r)) z') args s 0 0 (lc_A G)) (F0 m 0 ls []) := by
  intro n
  induction n with
  | zero =>
    intro z H locs ls hf hl hH
    exact absurd (show (none : Option ((Int32) × lc_S)) = some (r, z') from hf) (fun h => by cases h)
  | succ n ih =>
    intro z H locs ls hf hl hH
    rw [fR_nextSign_0] at hf
    refine lv_aload_n hx hb dR_nextSign_0 rfl (lv_at hl 0 rfl) ?_
    refine lc_geti hx hb hts hown hE hH flR_35 lc_h4 rfl dR_nextSign_1 ?_
    refine lv_aload_n hx hb dR_nextSign_4 rfl (lv_at hl 0 rfl) ?_
    refine lc_geti hx hb hts hown hE hH flR_31 lc_h4 rfl dR_nextSign_5 ?_
    refine lv_icmp_ge (tgt := 38) hx hb dR_nextSign_8 (by decide) (fun hc => ?_) (fun hc => ?_)
    · replace hf := lc_ite_pos hc hf
      exact bR_nextSign_38 hx hb hml hr hlocks hown hts hE hf (lv_sub hl [0] rfl) hH
    · replace hf := lc_ite_neg hc hf
      refine lv_aload_n hx hb dR_nextSign_11 rfl (lv_at hl 0 rfl) ?_
      obtain ⟨q12, hq12, hf⟩ := lc_bnr_some hf
      refine lc_getr hx hb hts hown hE hH flR_27 lc_h4 rfl hq12 dR_nextSign_12 ?_
      refine lv_aload_n hx hb dR_nextSign_15 rfl (lv_at hl 0 rfl) ?_
      refine lc_geti hx hb hts hown hE hH flR_35 lc_h4 rfl dR_nextSign_16 ?_
      obtain ⟨hs19_0, hf⟩ := lc_chk_some hf
      obtain ⟨hi19, hf⟩ := lc_chk_some hf
      refine lc_cald hx hb hE hH hs19_0 rfl hi19 dR_nextSign_19 ?_
      refine lv_bipush (v := 32) hx hb dR_nextSign_20 (by decide) ?_
      refine lv_icmp_ne (tgt := 38) hx hb dR_nextSign_22 (by decide) (fun hc => ?_) (fun hc => ?_)
      · replace hf := lc_ite_neg hc hf
        exact bR_nextSign_38 hx hb hml hr hlocks hown hts hE hf (lv_sub hl [0] rfl) hH
      · replace hf := lc_ite_pos hc hf
        refine lv_aload_n hx hb dR_nextSign_25 rfl (lv_at hl 0 rfl) ?_
        refine lv_dup hx hb dR_nextSign_26 rfl ?_
        refine lc_geti hx hb hts hown hE hH flR_35 lc_h4 rfl dR_nextSign_27 ?_
        refine lv_iconst (v := 1) hx hb dR_nextSign_30 (by decide) ?_
        refine lv_iadd hx hb dR_nextSign_31 ?_
        refine lc_puti hx hb hts hown hE hH fpR_35 lc_h4 rfl rfl rfl dR_nextSign_32 (fun H locs hH => ?_)
        refine lv_goto (tgt := 0) hx hb dR_nextSign_35 (by decide) ?_
        exact ih hf (lv_sub hl [0] rfl) hH
set_option maxHeartbeats 4000000 in
set_option maxRecDepth 100000 in
theorem cR_nextSign (l : Launch) (G : lc_G) {r : Int32} {z z' : lc_S} (hf : fR_nextSign z = some (r, z')) : lc_M l G yR_nextSign wR_nextSign 0 [.ref (lc_ad G 4)] z (some (.int r)) z' := by
  refine lc_M_of (cc := prog_6_method_4_code) (maxL := 1) (ret := (some .int)) (own := "LinearCells$Reader") (by decide) rfl (fun w h => List.mem_cons_of_mem _ h) (Nat.le_of_ble_eq_true rfl) rfl ?_
  intro p e s m below meth c hx hb hml hr hlocks hown hts hE ls hl hH
  replace hl : lv_has ls 1 [(0, .ref (lc_ad G 4))] := hl
  rw [fR_nextSign] at hf
  exact bR_nextSign_0 hx hb hml hr hlocks hown hts hE _ hf (lv_sub hl [0] rfl) hH
theorem dR_isLetter_0 : decode prog_6_method_5_code 0 = .ok (.iload_n 0, 1) := by decide +kernel
theorem dR_isLetter_1 : decode prog_6_method_5_code 1 = .ok (.bipush 97, 2) := by decide +kernel
theorem dR_isLetter_3 : decode prog_6_method_5_code 3 = .ok (.if_icmp .lt 13, 3) := by decide +kernel
theorem dR_isLetter_6 : decode prog_6_method_5_code 6 = .ok (.iload_n 0, 1) := by decide +kernel
theorem dR_isLetter_7 : decode prog_6_method_5_code 7 = .ok (.bipush 122, 2) := by decide +kernel
theorem dR_isLetter_9 : decode prog_6_method_5_code 9 = .ok (.if_icmp .gt 7, 3) := by decide +kernel
theorem dR_isLetter_12 : decode prog_6_method_5_code 12 = .ok (.iconst 1, 1) := by decide +kernel
theorem dR_isLetter_13 : decode prog_6_method_5_code 13 = .ok (.goto 4, 3) := by decide +kernel
theorem dR_isLetter_16 : decode prog_6_method_5_code 16 = .ok (.iconst 0, 1) := by decide +kernel
theorem dR_isLetter_17 : decode prog_6_method_5_code 17 = .ok (.ireturn, 1) := by decide +kernel
def fR_isLetter_16 (z : lc_S) : Option ((Int32) × lc_S) :=
  some (0, z)
def fR_isLetter (a0 : Int32) (z : lc_S) : Option ((Int32) × lc_S) :=
  if a0 < 97 then (fR_isLetter_16 z) else (if 122 < a0 then (fR_isLetter_16 z) else (some (1, z)))
set_option maxHeartbeats 4000000 in
set_option maxRecDepth 100000 in
theorem bR_isLetter_16 {p : Program} {l : Launch} {e : Env} {s : State} {m : MethodId} {args : Array Value} {below : List Frame} {meth : Method} {c : Code} {G : lc_G} (hx : p.tables.exec = Jvm.exec) (hb : c.code = prog_6_method_5_code) (hml : c.maxLocals = 1) (hr : meth.sig.returnType = (some .boolean)) (hlocks : meth.locks = false) (hown : s.vm.findClass "LinearCells$Reader" = some m.cls) (hts : ∀ w ∈ lc_ALL, w.before args s = true) (hE : lc_E G s) {r : Int32} {z' : lc_S} : ∀ {z : lc_S} {H : Heap} {locs : List Loc} {ls : Array Slot}, fR_isLetter_16 z = some (r, z') → lv_has ls 1 [] → lc_H G z s.heap H locs → W p l e (lc_rm 0) s m args below meth c H locs 0 0 (MQ below (lc_Q G (some (.int r)) z') args s 0 0 (lc_A G)) (F0 m 16 ls []) := by
  intro z H locs ls hf hl hH
  rw [fR_isLetter_16] at hf
  refine lv_iconst (v := 0) hx hb dR_isLetter_16 (by decide) ?_
  exact lc_zret hx hb hr hlocks (by decide) hH hf dR_isLetter_17
set_option maxHeartbeats 4000000 in
set_option maxRecDepth 100000 in
theorem cR_isLetter (l : Launch) (G : lc_G) {a0 : Int32} {r : Int32} {z z' : lc_S} (hf : fR_isLetter a0 z = some (r, z')) : lc_M l G yR_isLetter wR_isLetter 0 [.int a0] z (some (.int r)) z' := by
  refine lc_M_of (cc := prog_6_method_5_code) (maxL := 1) (ret := (some .boolean)) (own := "LinearCells$Reader") (by decide) rfl (fun w h => List.mem_cons_of_mem _ h) (Nat.le_of_ble_eq_true rfl) rfl ?_
  intro p e s m below meth c hx hb hml hr hlocks hown hts hE ls hl hH
  replace hl : lv_has ls 1 [(0, .int a0)] := hl
  rw [fR_isLetter] at hf
  refine lv_iload_n hx hb dR_isLetter_0 rfl (lv_at hl 0 rfl) ?_
  refine lv_bipush (v := 97) hx hb dR_isLetter_1 (by decide) ?_
  refine lv_icmp_lt (tgt := 16) hx hb dR_isLetter_3 (by decide) (fun hc => ?_) (fun hc => ?_)
  · replace hf := lc_ite_pos hc hf
    exact bR_isLetter_16 hx hb hml hr hlocks hown hts hE hf (lv_sub hl [] rfl) hH
  · replace hf := lc_ite_neg hc hf
    refine lv_iload_n hx hb dR_isLetter_6 rfl (lv_at hl 0 rfl) ?_
    refine lv_bipush (v := 122) hx hb dR_isLetter_7 (by decide) ?_
    refine lv_icmp_gt (tgt := 16) hx hb dR_isLetter_9 (by decide) (fun hc => ?_) (fun hc => ?_)
    · replace hf := lc_ite_pos hc hf
      exact bR_isLetter_16 hx hb hml hr hlocks hown hts hE hf (lv_sub hl [] rfl) hH
    · replace hf := lc_ite_neg hc hf
      refine lv_iconst (v := 1) hx hb dR_isLetter_12 (by decide) ?_
      refine lv_goto (tgt := 17) hx hb dR_isLetter_13 (by decide) ?_
      exact lc_zret hx hb hr hlocks (by decide) hH hf dR_isLetter_17
theorem dP_addTypeSign_0 : decode prog_5_method_4_code 0 = .ok (.aload_n 0, 1) := by decide +kernel
theorem dP_addTypeSign_1 : decode prog_5_method_4_code 1 = .ok (.getfield 44, 3) := by decide +kernel
theorem dP_addTypeSign_4 : decode prog_5_method_4_code 4 = .ok (.bipush 62, 2) := by decide +kernel
theorem dP_addTypeSign_6 : decode prog_5_method_4_code 6 = .ok (.if_icmp .lt 5, 3) := by decide +kernel
theorem dP_addTypeSign_9 : decode prog_5_method_4_code 9 = .ok (.iconst 0, 1) := by decide +kernel
theorem dP_addTypeSign_10 : decode prog_5_method_4_code 10 = .ok (.ireturn, 1) := by decide +kernel
theorem dP_addTypeSign_11 : decode prog_5_method_4_code 11 = .ok (.aload_n 0, 1) := by decide +kernel
theorem dP_addTypeSign_12 : decode prog_5_method_4_code 12 = .ok (.getfield 11, 3) := by decide +kernel
theorem dP_addTypeSign_15 : decode prog_5_method_4_code 15 = .ok (.aload_n 0, 1) := by decide +kernel
theorem dP_addTypeSign_16 : decode prog_5_method_4_code 16 = .ok (.getfield 44, 3) := by decide +kernel
theorem dP_addTypeSign_19 : decode prog_5_method_4_code 19 = .ok (.iload_n 1, 1) := by decide +kernel
theorem dP_addTypeSign_20 : decode prog_5_method_4_code 20 = .ok (.iastore, 1) := by decide +kernel
theorem dP_addTypeSign_21 : decode prog_5_method_4_code 21 = .ok (.aload_n 0, 1) := by decide +kernel
theorem dP_addTypeSign_22 : decode prog_5_method_4_code 22 = .ok (.dup, 1) := by decide +kernel
theorem dP_addTypeSign_23 : decode prog_5_method_4_code 23 = .ok (.getfield 44, 3) := by decide +kernel
theorem dP_addTypeSign_26 : decode prog_5_method_4_code 26 = .ok (.iconst 1, 1) := by decide +kernel
theorem dP_addTypeSign_27 : decode prog_5_method_4_code 27 = .ok (.iadd, 1) := by decide +kernel
theorem dP_addTypeSign_28 : decode prog_5_method_4_code 28 = .ok (.putfield 44, 3) := by decide +kernel
theorem dP_addTypeSign_31 : decode prog_5_method_4_code 31 = .ok (.iconst 1, 1) := by decide +kernel
theorem dP_addTypeSign_32 : decode prog_5_method_4_code 32 = .ok (.ireturn, 1) := by decide +kernel
def fP_addTypeSign (o0 : Nat) (a1 : Int32) (z : lc_S) : Option ((Int32) × lc_S) :=
  lc_chk (lc_sh o0 = (0, 1, 0)) (if (lcI z o0 3) < 62 then (lc_chk (lc_in (lcI z o0 3) 62) (some (1, lcUI (lcUI z (o0 + 1) (lcI z o0 3).toNatClampNeg a1) o0 3 ((lcI (lcUI z (o0 + 1) (lcI z o0 3).toNatClampNeg a1) o0 3) + 1)))) else (some (0, z)))
set_option maxHeartbeats 4000000 in
set_option maxRecDepth 100000 in
theorem cP_addTypeSign (l : Launch) (G : lc_G) {o0 : Nat} {a1 : Int32} {r : Int32} {z z' : lc_S} (hf : fP_addTypeSign o0 a1 z = some (r, z')) : lc_M l G yP_addTypeSign wP_addTypeSign 0 [.ref (lc_ad G o0), .int a1] z (some (.int r)) z' := by
  refine lc_M_of (cc := prog_5_method_4_code) (maxL := 2) (ret := (some .boolean)) (own := "LinearCells$Procedure") (by decide) rfl (fun w h => List.mem_cons_of_mem _ h) (Nat.le_of_ble_eq_true rfl) rfl ?_
  intro p e s m below meth c hx hb hml hr hlocks hown hts hE ls hl hH
  replace hl : lv_has ls 2 [(0, .ref (lc_ad G o0)), (1, .int a1)] := hl
  rw [fP_addTypeSign] at hf
  refine lv_aload_n hx hb dP_addTypeSign_0 rfl (lv_at hl 0 rfl) ?_
  obtain ⟨hs1_0, hf⟩ := lc_chk_some hf
  refine lc_geti hx hb hts hown hE hH flP_44 hs1_0 rfl dP_addTypeSign_1 ?_
  refine lv_bipush (v := 62) hx hb dP_addTypeSign_4 (by decide) ?_
  refine lv_icmp_lt (tgt := 11) hx hb dP_addTypeSign_6 (by decide) (fun hc => ?_) (fun hc => ?_)
  · replace hf := lc_ite_pos hc hf
    refine lv_aload_n hx hb dP_addTypeSign_11 rfl (lv_at hl 0 rfl) ?_
    refine lc_getf (d := 1) (q := o0 + 1) hx hb hts hown hE hH flP_11 hs1_0 rfl rfl dP_addTypeSign_12 ?_
    refine lv_aload_n hx hb dP_addTypeSign_15 rfl (lv_at hl 0 rfl) ?_
    refine lc_geti hx hb hts hown hE hH flP_44 hs1_0 rfl dP_addTypeSign_16 ?_
    refine lv_iload_n hx hb dP_addTypeSign_19 rfl (lv_at hl 1 rfl) ?_
    obtain ⟨hi20, hf⟩ := lc_chk_some hf
    refine lc_iast hx hb hE hH (lc_pr1 hs1_0) rfl hi20 dP_addTypeSign_20 (fun H locs hH => ?_)
    refine lv_aload_n hx hb dP_addTypeSign_21 rfl (lv_at hl 0 rfl) ?_
    refine lv_dup hx hb dP_addTypeSign_22 rfl ?_
    refine lc_geti hx hb hts hown hE hH flP_44 hs1_0 rfl dP_addTypeSign_23 ?_
    refine lv_iconst (v := 1) hx hb dP_addTypeSign_26 (by decide) ?_
    refine lv_iadd hx hb dP_addTypeSign_27 ?_
    refine lc_puti hx hb hts hown hE hH fpP_44 hs1_0 rfl rfl rfl dP_addTypeSign_28 (fun H locs hH => ?_)
    refine lv_iconst (v := 1) hx hb dP_addTypeSign_31 (by decide) ?_
    exact lc_zret hx hb hr hlocks (by decide) hH hf dP_addTypeSign_32
  · replace hf := lc_ite_neg hc hf
    refine lv_iconst (v := 0) hx hb dP_addTypeSign_9 (by decide) ?_
    exact lc_zret hx hb hr hlocks (by decide) hH hf dP_addTypeSign_10
theorem dR_readType_0 : decode prog_6_method_7_code 0 = .ok (.iload_n 1, 1) := by decide +kernel
theorem dR_readType_1 : decode prog_6_method_7_code 1 = .ok (.iconst 4, 1) := by decide +kernel
theorem dR_readType_2 : decode prog_6_method_7_code 2 = .ok (.if_icmp .le 5, 3) := by decide +kernel
theorem dR_readType_5 : decode prog_6_method_7_code 5 = .ok (.iconst 0, 1) := by decide +kernel
theorem dR_readType_6 : decode prog_6_method_7_code 6 = .ok (.ireturn, 1) := by decide +kernel
theorem dR_readType_7 : decode prog_6_method_7_code 7 = .ok (.aload_n 0, 1) := by decide +kernel
theorem dR_readType_8 : decode prog_6_method_7_code 8 = .ok (.invokevirtual 48, 3) := by decide +kernel
theorem dR_readType_11 : decode prog_6_method_7_code 11 = .ok (.lookupswitch 97 #[(40, 51), (105, 33), (114, 42)], 33) := by decide +kernel
theorem dR_readType_44 : decode prog_6_method_7_code 44 = .ok (.aload_n 0, 1) := by decide +kernel
theorem dR_readType_45 : decode prog_6_method_7_code 45 = .ok (.getfield 38, 3) := by decide +kernel
theorem dR_readType_48 : decode prog_6_method_7_code 48 = .ok (.iconst 1, 1) := by decide +kernel
theorem dR_readType_49 : decode prog_6_method_7_code 49 = .ok (.invokevirtual 73, 3) := by decide +kernel
theorem dR_readType_52 : decode prog_6_method_7_code 52 = .ok (.ireturn, 1) := by decide +kernel
theorem dR_readType_53 : decode prog_6_method_7_code 53 = .ok (.aload_n 0, 1) := by decide +kernel
theorem dR_readType_54 : decode prog_6_method_7_code 54 = .ok (.getfield 38, 3) := by decide +kernel
theorem dR_readType_57 : decode prog_6_method_7_code 57 = .ok (.iconst 2, 1) := by decide +kernel
theorem dR_readType_58 : decode prog_6_method_7_code 58 = .ok (.invokevirtual 73, 3) := by decide +kernel
theorem dR_readType_61 : decode prog_6_method_7_code 61 = .ok (.ireturn, 1) := by decide +kernel
theorem dR_readType_62 : decode prog_6_method_7_code 62 = .ok (.aload_n 0, 1) := by decide +kernel
theorem dR_readType_63 : decode prog_6_method_7_code 63 = .ok (.iload_n 1, 1) := by decide +kernel
theorem dR_readType_64 : decode prog_6_method_7_code 64 = .ok (.iconst 1, 1) := by decide +kernel
theorem dR_readType_65 : decode prog_6_method_7_code 65 = .ok (.iadd, 1) := by decide +kernel
theorem dR_readType_66 : decode prog_6_method_7_code 66 = .ok (.invokevirtual 56, 3) := by decide +kernel
theorem dR_readType_69 : decode prog_6_method_7_code 69 = .ok (.ifCond .eq 37, 3) := by decide +kernel
theorem dR_readType_72 : decode prog_6_method_7_code 72 = .ok (.aload_n 0, 1) := by decide +kernel
theorem dR_readType_73 : decode prog_6_method_7_code 73 = .ok (.iload_n 1, 1) := by decide +kernel
theorem dR_readType_74 : decode prog_6_method_7_code 74 = .ok (.iconst 1, 1) := by decide +kernel
theorem dR_readType_75 : decode prog_6_method_7_code 75 = .ok (.iadd, 1) := by decide +kernel
theorem dR_readType_76 : decode prog_6_method_7_code 76 = .ok (.invokevirtual 56, 3) := by decide +kernel
theorem dR_readType_79 : decode prog_6_method_7_code 79 = .ok (.ifCond .eq 27, 3) := by decide +kernel
theorem dR_readType_82 : decode prog_6_method_7_code 82 = .ok (.aload_n 0, 1) := by decide +kernel
theorem dR_readType_83 : decode prog_6_method_7_code 83 = .ok (.invokevirtual 48, 3) := by decide +kernel
theorem dR_readType_86 : decode prog_6_method_7_code 86 = .ok (.bipush 41, 2) := by decide +kernel
theorem dR_readType_88 : decode prog_6_method_7_code 88 = .ok (.if_icmp .ne 18, 3) := by decide +kernel
theorem dR_readType_91 : decode prog_6_method_7_code 91 = .ok (.aload_n 0, 1) := by decide +kernel
theorem dR_readType_92 : decode prog_6_method_7_code 92 = .ok (.getfield 38, 3) := by decide +kernel
theorem dR_readType_95 : decode prog_6_method_7_code 95 = .ok (.iconst 3, 1) := by decide +kernel
theorem dR_readType_96 : decode prog_6_method_7_code 96 = .ok (.invokevirtual 73, 3) := by decide +kernel
theorem dR_readType_99 : decode prog_6_method_7_code 99 = .ok (.ifCond .eq 7, 3) := by decide +kernel
theorem dR_readType_102 : decode prog_6_method_7_code 102 = .ok (.iconst 1, 1) := by decide +kernel
theorem dR_readType_103 : decode prog_6_method_7_code 103 = .ok (.goto 4, 3) := by decide +kernel
theorem dR_readType_106 : decode prog_6_method_7_code 106 = .ok (.iconst 0, 1) := by decide +kernel
theorem dR_readType_107 : decode prog_6_method_7_code 107 = .ok (.ireturn, 1) := by decide +kernel
theorem dR_readType_108 : decode prog_6_method_7_code 108 = .ok (.iconst 0, 1) := by decide +kernel
theorem dR_readType_109 : decode prog_6_method_7_code 109 = .ok (.ireturn, 1) := by decide +kernel
def fR_readType_106 (rc : Int32 → lc_S → Option (Int32 × lc_S)) (z : lc_S) : Option ((Int32) × lc_S) :=
  some (0, z)
def fR_readTypeB (rc : Int32 → lc_S → Option (Int32 × lc_S)) (a1 : Int32) (z : lc_S) : Option ((Int32) × lc_S) :=
  if a1 ≤ 4 then (lc_bnd (fR_nextSign z) (fun r8 z8 => if r8 = 40 then (lc_bnd (rc (a1 + 1) z8) (fun r66 z66 => if r66 = 0 then (fR_readType_106 rc z66) else (lc_bnd (rc (a1 + 1) z66) (fun r76 z76 => if r76 = 0 then (fR_readType_106 rc z76) else (lc_bnd (fR_nextSign z76) (fun r83 z83 => if r83 = 41 then (lc_bnr (lcR z83 4 3) (fun q92 => lc_chk (lc_sh q92 = (0, 1, 0)) (lc_bnd (fP_addTypeSign q92 3 z83) (fun r96 z96 => if r96 = 0 then (fR_readType_106 rc z96) else (some (1, z96)))))) else (fR_readType_106 rc z83))))))) else (if r8 = 105 then (lc_bnr (lcR z8 4 3) (fun q45 => lc_chk (lc_sh q45 = (0, 1, 0)) (lc_bnd (fP_addTypeSign q45 1 z8) (fun r49 z49 => lc_chk (lc_zok r49) (some (r49, z49)))))) else (if r8 = 114 then (lc_bnr (lcR z8 4 3) (fun q54 => lc_chk (lc_sh q54 = (0, 1, 0)) (lc_bnd (fP_addTypeSign q54 2 z8) (fun r58 z58 => lc_chk (lc_zok r58) (some (r58, z58)))))) else (some (0, z8)))))) else (some (0, z))
def fR_readType : Nat → Int32 → lc_S → Option ((Int32) × lc_S)
  | 0, _, _ => none
  | n + 1, a1, z => fR_readTypeB (fR_readType n) a1 z
set_option maxHeartbeats 4000000 in
set_option maxRecDepth 100000 in
theorem bR_readType_106 {p : Program} {l : Launch} {e : Env} {s : State} {m : MethodId} {args : Array Value} {below : List Frame} {meth : Method} {c : Code} {G : lc_G} {rc : Int32 → lc_S → Option (Int32 × lc_S)} {h : Nat} (hx : p.tables.exec = Jvm.exec) (hb : c.code = prog_6_method_7_code) (hml : c.maxLocals = 2) (hr : meth.sig.returnType = (some .boolean)) (hlocks : meth.locks = false) (hown : s.vm.findClass "LinearCells$Reader" = some m.cls) (hts : ∀ w ∈ lc_ALL, w.before args s = true) (hE : lc_E G s) (hrc : ∀ {d : Int32} {r : Int32} {z z' : lc_S}, rc d z = some (r, z') → lc_M l G yR_readType wR_readType h [.ref (lc_ad G 4), .int d] z (some (.int r)) z') {r : Int32} {z' : lc_S} : ∀ {z : lc_S} {H : Heap} {locs : List Loc} {ls : Array Slot}, fR_readType_106 rc z = some (r, z') → lv_has ls 2 [] → lc_H G z s.heap H locs → W p l e (lc_rm (h + 1)) s m args below meth c H locs 0 0 (MQ below (lc_Q G (some (.int r)) z') args s 0 0 (lc_A G)) (F0 m 106 ls []) := by
  intro z H locs ls hf hl hH
  rw [fR_readType_106] at hf
  refine lv_iconst (v := 0) hx hb dR_readType_106 (by decide) ?_
  exact lc_zret hx hb hr hlocks (by decide) hH hf dR_readType_107
set_option maxHeartbeats 4000000 in
set_option maxRecDepth 100000 in
theorem cR_readTypeB {l : Launch} {G : lc_G} {rc : Int32 → lc_S → Option (Int32 × lc_S)} {h : Nat} (hrc : ∀ {d : Int32} {r : Int32} {z z' : lc_S}, rc d z = some (r, z') → lc_M l G yR_readType wR_readType h [.ref (lc_ad G 4), .int d] z (some (.int r)) z') {a1 : Int32} {r : Int32} {z z' : lc_S} (hf : fR_readTypeB rc a1 z = some (r, z')) : lc_M l G yR_readType wR_readType (h + 1) [.ref (lc_ad G 4), .int a1] z (some (.int r)) z' := by
  refine lc_M_of (cc := prog_6_method_7_code) (maxL := 2) (ret := (some .boolean)) (own := "LinearCells$Reader") (by decide) rfl (fun w h => List.mem_cons_of_mem _ h) (Nat.le_of_ble_eq_true rfl) rfl ?_
  intro p e s m below meth c hx hb hml hr hlocks hown hts hE ls hl hH
  replace hl : lv_has ls 2 [(0, .ref (lc_ad G 4)), (1, .int a1)] := hl
  rw [fR_readTypeB] at hf
  refine lv_iload_n hx hb dR_readType_0 rfl (lv_at hl 1 rfl) ?_
  refine lv_iconst (v := 4) hx hb dR_readType_1 (by decide) ?_
  refine lv_icmp_le (tgt := 7) hx hb dR_readType_2 (by decide) (fun hc => ?_) (fun hc => ?_)
  · replace hf := lc_ite_pos hc hf
    refine lv_aload_n hx hb dR_readType_7 rfl (lv_at hl 0 rfl) ?_
    obtain ⟨r8, z8, h8, hf⟩ := lc_bnd_some hf
    refine lc_calli (va_runV (As := []) (rest := []) ⟨hx, hb, hml, hown, hts⟩ (cR_nextSign l G h8) (lc_cwV hts kvR_48 (lc_room (by omega) (by decide))) (lc_preV hE hH lc_h4 rfl _) rfl rfl hl.1 rfl (lv_room (Nat.le_of_ble_eq_true rfl)) dR_readType_8 ⟨Nat.zero_le _, Nat.zero_le _⟩) hH (fun H locs hH => ?_)
    by_cases hc40 : r8 = 40
    · replace hf := lc_ite_pos hc40 hf
      refine lv_lookup (tgt := 62) (off := 51) hx hb dR_readType_11 (by decide) (by rw [hc40] <;> rfl) (by decide) ?_
      refine lv_aload_n hx hb dR_readType_62 rfl (lv_at hl 0 rfl) ?_
      refine lv_iload_n hx hb dR_readType_63 rfl (lv_at hl 1 rfl) ?_
      refine lv_iconst (v := 1) hx hb dR_readType_64 (by decide) ?_
      refine lv_iadd hx hb dR_readType_65 ?_
      obtain ⟨r66, z66, h66, hf⟩ := lc_bnd_some hf
      refine lc_calli (va_runV (As := [.int (a1 + 1)]) (rest := []) ⟨hx, hb, hml, hown, hts⟩ (hrc h66) (lc_cwV hts kvR_56 (lc_room (by omega) (by decide))) (lc_preV hE hH lc_h4 rfl _) rfl rfl hl.1 rfl (lv_room (Nat.le_of_ble_eq_true rfl)) dR_readType_66 ⟨Nat.zero_le _, Nat.zero_le _⟩) hH (fun H locs hH => ?_)
      refine lv_if_eq (tgt := 106) hx hb dR_readType_69 (by decide) (fun hc => ?_) (fun hc => ?_)
      · replace hf := lc_ite_pos hc hf
        exact bR_readType_106 hx hb hml hr hlocks hown hts hE hrc hf (lv_sub hl [] rfl) hH
      · replace hf := lc_ite_neg hc hf
        refine lv_aload_n hx hb dR_readType_72 rfl (lv_at hl 0 rfl) ?_
        refine lv_iload_n hx hb dR_readType_73 rfl (lv_at hl 1 rfl) ?_
        refine lv_iconst (v := 1) hx hb dR_readType_74 (by decide) ?_
        refine lv_iadd hx hb dR_readType_75 ?_
        obtain ⟨r76, z76, h76, hf⟩ := lc_bnd_some hf
        refine lc_calli (va_runV (As := [.int (a1 + 1)]) (rest := []) ⟨hx, hb, hml, hown, hts⟩ (hrc h76) (lc_cwV hts kvR_56 (lc_room (by omega) (by decide))) (lc_preV hE hH lc_h4 rfl _) rfl rfl hl.1 rfl (lv_room (Nat.le_of_ble_eq_true rfl)) dR_readType_76 ⟨Nat.zero_le _, Nat.zero_le _⟩) hH (fun H locs hH => ?_)
        refine lv_if_eq (tgt := 106) hx hb dR_readType_79 (by decide) (fun hc => ?_) (fun hc => ?_)
        · replace hf := lc_ite_pos hc hf
          exact bR_readType_106 hx hb hml hr hlocks hown hts hE hrc hf (lv_sub hl [] rfl) hH
        · replace hf := lc_ite_neg hc hf
          refine lv_aload_n hx hb dR_readType_82 rfl (lv_at hl 0 rfl) ?_
          obtain ⟨r83, z83, h83, hf⟩ := lc_bnd_some hf
          refine lc_calli (va_runV (As := []) (rest := []) ⟨hx, hb, hml, hown, hts⟩ (cR_nextSign l G h83) (lc_cwV hts kvR_48 (lc_room (by omega) (by decide))) (lc_preV hE hH lc_h4 rfl _) rfl rfl hl.1 rfl (lv_room (Nat.le_of_ble_eq_true rfl)) dR_readType_83 ⟨Nat.zero_le _, Nat.zero_le _⟩) hH (fun H locs hH => ?_)
          refine lv_bipush (v := 41) hx hb dR_readType_86 (by decide) ?_
          refine lv_icmp_ne (tgt := 106) hx hb dR_readType_88 (by decide) (fun hc => ?_) (fun hc => ?_)
          · replace hf := lc_ite_neg hc hf
            exact bR_readType_106 hx hb hml hr hlocks hown hts hE hrc hf (lv_sub hl [] rfl) hH
          · replace hf := lc_ite_pos hc hf
            refine lv_aload_n hx hb dR_readType_91 rfl (lv_at hl 0 rfl) ?_
            obtain ⟨q92, hq92, hf⟩ := lc_bnr_some hf
            refine lc_getr hx hb hts hown hE hH flR_38 lc_h4 rfl hq92 dR_readType_92 ?_
            refine lv_iconst (v := 3) hx hb dR_readType_95 (by decide) ?_
            obtain ⟨hs96_0, hf⟩ := lc_chk_some hf
            obtain ⟨r96, z96, h96, hf⟩ := lc_bnd_some hf
            refine lc_calli (va_runV (As := [.int 3]) (rest := []) ⟨hx, hb, hml, hown, hts⟩ (cP_addTypeSign l G h96) (lc_cwV hts kvR_73 (lc_room (by omega) (by decide))) (lc_preV hE hH hs96_0 rfl _) rfl rfl hl.1 rfl (lv_room (Nat.le_of_ble_eq_true rfl)) dR_readType_96 ⟨Nat.zero_le _, Nat.zero_le _⟩) hH (fun H locs hH => ?_)
            refine lv_if_eq (tgt := 106) hx hb dR_readType_99 (by decide) (fun hc => ?_) (fun hc => ?_)
            · replace hf := lc_ite_pos hc hf
              exact bR_readType_106 hx hb hml hr hlocks hown hts hE hrc hf (lv_sub hl [] rfl) hH
            · replace hf := lc_ite_neg hc hf
              refine lv_iconst (v := 1) hx hb dR_readType_102 (by decide) ?_
              refine lv_goto (tgt := 107) hx hb dR_readType_103 (by decide) ?_
              exact lc_zret hx hb hr hlocks (by decide) hH hf dR_readType_107
    replace hf := lc_ite_neg hc40 hf
    by_cases hc105 : r8 = 105
    · replace hf := lc_ite_pos hc105 hf
      refine lv_lookup (tgt := 44) (off := 33) hx hb dR_readType_11 (by decide) (by rw [hc105] <;> rfl) (by decide) ?_
      refine lv_aload_n hx hb dR_readType_44 rfl (lv_at hl 0 rfl) ?_
      obtain ⟨q45, hq45, hf⟩ := lc_bnr_some hf
      refine lc_getr hx hb hts hown hE hH flR_38 lc_h4 rfl hq45 dR_readType_45 ?_
      refine lv_iconst (v := 1) hx hb dR_readType_48 (by decide) ?_
      obtain ⟨hs49_0, hf⟩ := lc_chk_some hf
      obtain ⟨r49, z49, h49, hf⟩ := lc_bnd_some hf
      refine lc_calli (va_runV (As := [.int 1]) (rest := []) ⟨hx, hb, hml, hown, hts⟩ (cP_addTypeSign l G h49) (lc_cwV hts kvR_73 (lc_room (by omega) (by decide))) (lc_preV hE hH hs49_0 rfl _) rfl rfl hl.1 rfl (lv_room (Nat.le_of_ble_eq_true rfl)) dR_readType_49 ⟨Nat.zero_le _, Nat.zero_le _⟩) hH (fun H locs hH => ?_)
      obtain ⟨hz52, hf⟩ := lc_chk_some hf
      exact lc_zret hx hb hr hlocks (lc_zn hz52) hH hf dR_readType_52
    replace hf := lc_ite_neg hc105 hf
    by_cases hc114 : r8 = 114
    · replace hf := lc_ite_pos hc114 hf
      refine lv_lookup (tgt := 53) (off := 42) hx hb dR_readType_11 (by decide) (by rw [hc114] <;> rfl) (by decide) ?_
      refine lv_aload_n hx hb dR_readType_53 rfl (lv_at hl 0 rfl) ?_
      obtain ⟨q54, hq54, hf⟩ := lc_bnr_some hf
      refine lc_getr hx hb hts hown hE hH flR_38 lc_h4 rfl hq54 dR_readType_54 ?_
      refine lv_iconst (v := 2) hx hb dR_readType_57 (by decide) ?_
      obtain ⟨hs58_0, hf⟩ := lc_chk_some hf
      obtain ⟨r58, z58, h58, hf⟩ := lc_bnd_some hf
      refine lc_calli (va_runV (As := [.int 2]) (rest := []) ⟨hx, hb, hml, hown, hts⟩ (cP_addTypeSign l G h58) (lc_cwV hts kvR_73 (lc_room (by omega) (by decide))) (lc_preV hE hH hs58_0 rfl _) rfl rfl hl.1 rfl (lv_room (Nat.le_of_ble_eq_true rfl)) dR_readType_58 ⟨Nat.zero_le _, Nat.zero_le _⟩) hH (fun H locs hH => ?_)
      obtain ⟨hz61, hf⟩ := lc_chk_some hf
      exact lc_zret hx hb hr hlocks (lc_zn hz61) hH hf dR_readType_61
    replace hf := lc_ite_neg hc114 hf
    refine lv_lookup (tgt := 108) (off := 97) hx hb dR_readType_11 (by decide) ((lv_osw hc40 (by decide)).trans ((lv_osw hc105 (by decide)).trans ((lv_osw hc114 (by decide)).trans rfl))) (by decide) ?_
    refine lv_iconst (v := 0) hx hb dR_readType_108 (by decide) ?_
    exact lc_zret hx hb hr hlocks (by decide) hH hf dR_readType_109
  · replace hf := lc_ite_neg hc hf
    refine lv_iconst (v := 0) hx hb dR_readType_5 (by decide) ?_
    exact lc_zret hx hb hr hlocks (by decide) hH hf dR_readType_6
theorem cR_readType {l : Launch} {G : lc_G} : ∀ (n : Nat) {a1 : Int32} {r : Int32} {z z' : lc_S}, fR_readType n a1 z = some (r, z') → lc_M l G yR_readType wR_readType (1 * n) [.ref (lc_ad G 4), .int a1] z (some (.int r)) z' := by
  intro n
  induction n with
  | zero =>
    intro a1 r z z' hf
    exact absurd (show (none : Option ((Int32) × lc_S)) = some (r, z') from hf) (fun h => by cases h)
  | succ n ih =>
    intro a1 r z z' hf
    exact cR_readTypeB (h := 1 * n) (fun hf => ih hf) hf
theorem dR_addName_0 : decode prog_6_method_18_code 0 = .ok (.aload_n 0, 1) := by decide +kernel
theorem dR_addName_1 : decode prog_6_method_18_code 1 = .ok (.getfield 45, 3) := by decide +kernel
theorem dR_addName_4 : decode prog_6_method_18_code 4 = .ok (.bipush 33, 2) := by decide +kernel
theorem dR_addName_6 : decode prog_6_method_18_code 6 = .ok (.if_icmp .ge 43, 3) := by decide +kernel
theorem dR_addName_9 : decode prog_6_method_18_code 9 = .ok (.aload_n 0, 1) := by decide +kernel
theorem dR_addName_10 : decode prog_6_method_18_code 10 = .ok (.getfield 13, 3) := by decide +kernel
theorem dR_addName_13 : decode prog_6_method_18_code 13 = .ok (.aload_n 0, 1) := by decide +kernel
theorem dR_addName_14 : decode prog_6_method_18_code 14 = .ok (.getfield 45, 3) := by decide +kernel
theorem dR_addName_17 : decode prog_6_method_18_code 17 = .ok (.iload_n 1, 1) := by decide +kernel
theorem dR_addName_18 : decode prog_6_method_18_code 18 = .ok (.iastore, 1) := by decide +kernel
theorem dR_addName_19 : decode prog_6_method_18_code 19 = .ok (.aload_n 0, 1) := by decide +kernel
theorem dR_addName_20 : decode prog_6_method_18_code 20 = .ok (.getfield 17, 3) := by decide +kernel
theorem dR_addName_23 : decode prog_6_method_18_code 23 = .ok (.aload_n 0, 1) := by decide +kernel
theorem dR_addName_24 : decode prog_6_method_18_code 24 = .ok (.getfield 45, 3) := by decide +kernel
theorem dR_addName_27 : decode prog_6_method_18_code 27 = .ok (.iload_n 2, 1) := by decide +kernel
theorem dR_addName_28 : decode prog_6_method_18_code 28 = .ok (.iastore, 1) := by decide +kernel
theorem dR_addName_29 : decode prog_6_method_18_code 29 = .ok (.aload_n 0, 1) := by decide +kernel
theorem dR_addName_30 : decode prog_6_method_18_code 30 = .ok (.getfield 20, 3) := by decide +kernel
theorem dR_addName_33 : decode prog_6_method_18_code 33 = .ok (.aload_n 0, 1) := by decide +kernel
theorem dR_addName_34 : decode prog_6_method_18_code 34 = .ok (.getfield 45, 3) := by decide +kernel
theorem dR_addName_37 : decode prog_6_method_18_code 37 = .ok (.iload_n 3, 1) := by decide +kernel
theorem dR_addName_38 : decode prog_6_method_18_code 38 = .ok (.iastore, 1) := by decide +kernel
theorem dR_addName_39 : decode prog_6_method_18_code 39 = .ok (.aload_n 0, 1) := by decide +kernel
theorem dR_addName_40 : decode prog_6_method_18_code 40 = .ok (.dup, 1) := by decide +kernel
theorem dR_addName_41 : decode prog_6_method_18_code 41 = .ok (.getfield 45, 3) := by decide +kernel
theorem dR_addName_44 : decode prog_6_method_18_code 44 = .ok (.iconst 1, 1) := by decide +kernel
theorem dR_addName_45 : decode prog_6_method_18_code 45 = .ok (.iadd, 1) := by decide +kernel
theorem dR_addName_46 : decode prog_6_method_18_code 46 = .ok (.putfield 45, 3) := by decide +kernel
theorem dR_addName_49 : decode prog_6_method_18_code 49 = .ok (.return_, 1) := by decide +kernel
def fR_addName (a1 : Int32) (a2 : Int32) (a3 : Int32) (z : lc_S) : Option ((Unit) × lc_S) :=
  if 33 ≤ (lcI z 4 8) then (some ((), z)) else (lc_chk (lc_in (lcI z 4 8) 33) (lc_chk (lc_in (lcI (lcUI z 5 (lcI z 4 8).toNatClampNeg a1) 4 8) 33) (lc_chk (lc_in (lcI (lcUI (lcUI z 5 (lcI z 4 8).toNatClampNeg a1) 6 (lcI (lcUI z 5 (lcI z 4 8).toNatClampNeg a1) 4 8).toNatClampNeg a2) 4 8) 33) (some ((), lcUI (lcUI (lcUI (lcUI z 5 (lcI z 4 8).toNatClampNeg a1) 6 (lcI (lcUI z 5 (lcI z 4 8).toNatClampNeg a1) 4 8).toNatClampNeg a2) 7 (lcI (lcUI (lcUI z 5 (lcI z 4 8).toNatClampNeg a1) 6 (lcI (lcUI z 5 (lcI z 4 8).toNatClampNeg a1) 4 8).toNatClampNeg a2) 4 8).toNatClampNeg a3) 4 8 ((lcI (lcUI (lcUI (lcUI z 5 (lcI z 4 8).toNatClampNeg a1) 6 (lcI (lcUI z 5 (lcI z 4 8).toNatClampNeg a1) 4 8).toNatClampNeg a2) 7 (lcI (lcUI (lcUI z 5 (lcI z 4 8).toNatClampNeg a1) 6 (lcI (lcUI z 5 (lcI z 4 8).toNatClampNeg a1) 4 8).toNatClampNeg a2) 4 8).toNatClampNeg a3) 4 8) + 1))))))
set_option maxHeartbeats 4000000 in
set_option maxRecDepth 100000 in
theorem cR_addName (l : Launch) (G : lc_G) {a1 : Int32} {a2 : Int32} {a3 : Int32} {r : Unit} {z z' : lc_S} (hf : fR_addName a1 a2 a3 z = some (r, z')) : lc_M l G yR_addName wR_addName 0 [.ref (lc_ad G 4), .int a1, .int a2, .int a3] z none z' := by
  refine lc_M_of (cc := prog_6_method_18_code) (maxL := 4) (ret := none) (own := "LinearCells$Reader") (by decide) rfl (fun w h => List.mem_cons_of_mem _ h) (Nat.le_of_ble_eq_true rfl) rfl ?_
  intro p e s m below meth c hx hb hml hr hlocks hown hts hE ls hl hH
  replace hl : lv_has ls 4 [(0, .ref (lc_ad G 4)), (1, .int a1), (2, .int a2), (3, .int a3)] := hl
  rw [fR_addName] at hf
  refine lv_aload_n hx hb dR_addName_0 rfl (lv_at hl 0 rfl) ?_
  refine lc_geti hx hb hts hown hE hH flR_45 lc_h4 rfl dR_addName_1 ?_
  refine lv_bipush (v := 33) hx hb dR_addName_4 (by decide) ?_
  refine lv_icmp_ge (tgt := 49) hx hb dR_addName_6 (by decide) (fun hc => ?_) (fun hc => ?_)
  · replace hf := lc_ite_pos hc hf
    exact lc_vret hx hb hr hlocks hH hf dR_addName_49
  · replace hf := lc_ite_neg hc hf
    refine lv_aload_n hx hb dR_addName_9 rfl (lv_at hl 0 rfl) ?_
    refine lc_getf (d := 1) (q := 5) hx hb hts hown hE hH flR_13 lc_h4 rfl rfl dR_addName_10 ?_
    refine lv_aload_n hx hb dR_addName_13 rfl (lv_at hl 0 rfl) ?_
    refine lc_geti hx hb hts hown hE hH flR_45 lc_h4 rfl dR_addName_14 ?_
    refine lv_iload_n hx hb dR_addName_17 rfl (lv_at hl 1 rfl) ?_
    obtain ⟨hi18, hf⟩ := lc_chk_some hf
    refine lc_iast hx hb hE hH lc_h5 rfl hi18 dR_addName_18 (fun H locs hH => ?_)
    refine lv_aload_n hx hb dR_addName_19 rfl (lv_at hl 0 rfl) ?_
    refine lc_getf (d := 2) (q := 6) hx hb hts hown hE hH flR_17 lc_h4 rfl rfl dR_addName_20 ?_
    refine lv_aload_n hx hb dR_addName_23 rfl (lv_at hl 0 rfl) ?_
    refine lc_geti hx hb hts hown hE hH flR_45 lc_h4 rfl dR_addName_24 ?_
    refine lv_iload_n hx hb dR_addName_27 rfl (lv_at hl 2 rfl) ?_
    obtain ⟨hi28, hf⟩ := lc_chk_some hf
    refine lc_iast hx hb hE hH lc_h6 rfl hi28 dR_addName_28 (fun H locs hH => ?_)
    refine lv_aload_n hx hb dR_addName_29 rfl (lv_at hl 0 rfl) ?_
    refine lc_getf (d := 3) (q := 7) hx hb hts hown hE hH flR_20 lc_h4 rfl rfl dR_addName_30 ?_
    refine lv_aload_n hx hb dR_addName_33 rfl (lv_at hl 0 rfl) ?_
    refine lc_geti hx hb hts hown hE hH flR_45 lc_h4 rfl dR_addName_34 ?_
    refine lv_iload_n hx hb dR_addName_37 rfl (lv_at hl 3 rfl) ?_
    obtain ⟨hi38, hf⟩ := lc_chk_some hf
    refine lc_iast hx hb hE hH lc_h7 rfl hi38 dR_addName_38 (fun H locs hH => ?_)
    refine lv_aload_n hx hb dR_addName_39 rfl (lv_at hl 0 rfl) ?_
    refine lv_dup hx hb dR_addName_40 rfl ?_
    refine lc_geti hx hb hts hown hE hH flR_45 lc_h4 rfl dR_addName_41 ?_
    refine lv_iconst (v := 1) hx hb dR_addName_44 (by decide) ?_
    refine lv_iadd hx hb dR_addName_45 ?_
    refine lc_puti hx hb hts hown hE hH fpR_45 lc_h4 rfl rfl rfl dR_addName_46 (fun H locs hH => ?_)
    exact lc_vret hx hb hr hlocks hH hf dR_addName_49
