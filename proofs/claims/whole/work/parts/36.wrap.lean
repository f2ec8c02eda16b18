/-! THE CLAIM OUT OF ONE WALK OF THE LAW'S BODY. Your part is whole_start (and what it stands on); all else here is the same for every law, but numbers. -/
def R_law : String := "LinearCellsLaw"
def lw_P (b : Addr) (xs : List Int32) (args : Array Value) (s : State) : Prop := args = #[.ref b] ∧ s.IntsAt b xs ∧ xs.length ≤ 1536 ∧ (Jvm.Cond.and given_1 narrow_1).before args s = true
def lw_Q (_ : Array Value) (s : State) (o : Outcome) (t : State) : Prop := o = .returned (some (.int 1)) ∧ Framed s o t [] 601024 7293034
def lw_Z (below : List Frame) (a : Array Value) (s : State) : State → Prop := fun t => ∃ o, t.status = .running ∧ Ended t below o ∧ lw_Q a s o t
/-- the law's own end, with 1 on the stack, nothing written that was there before, its room as the claim has it -/
theorem lw_ret {p : Program} {l : Launch} {e : Env} {s : State} {m : MethodId} {below : List Frame} {meth : Method} {c : Code} {b : Nat} (hx : p.tables.exec = Jvm.exec) (hb : c.code = code) (hr : meth.sig.returnType = ret) (hlocks : meth.locks = false) {pc : Nat} {H : Heap} {ls : Array Slot} (hdg : decode code pc = .ok (.ireturn, 1)) : W p l e room_1 s m #[Value.ref b] below meth c H [] 601024 7293034 (lw_Z below #[Value.ref b] s) (F0 m pc ls [.int 1]) := by
  intro T hT X
  obtain ⟨fs, hret, hrun, hended, hW, hframe⟩ := X.leave (v := some (.int 1)) (hlocks := hlocks) (fun h => by rw [hr] at h; cases h)
  have hmeth' : T.vm.method? m = some meth := X.method'
  refine ⟨T.setFrames fs, ?_, .returned (some (.int 1)), hrun, hended, rfl, ⟨_, rfl⟩, hW, hframe⟩
  jvm_step X.here [X.here.top, hx, hb, hdg, hmeth', hr, ret, narrow_b1]
  (try refine ⟨rfl, ?_⟩); (try refine ⟨rfl, ?_⟩)
  first | (intro acts; rw [hret _ acts rfl rfl rfl]) | rw [hret _ _ rfl rfl rfl]
  exact Steps.refl _
/-- what holds at the law's entry: the machine, the code, the tables' words (any of lw_tbl by 'hts w (by decide +kernel)'), the script of L ints xs at the cell b, what the Statement gives of the start (any of its parts by flat_of_before) -/
def lw_At (p : Program) (s : State) (m : MethodId) (meth : Method) (c : Code) (b L : Nat) (xs : Nat → Int32) : Prop :=
  p.tables.exec = Jvm.exec ∧ c.code = code ∧ meth.sig.returnType = ret ∧ c.maxLocals = 7 ∧ s.vm.findClass R_law = some m.cls ∧ (∀ w ∈ lw_tbl, w.before #[Value.ref b] s = true) ∧ va_X b L xs s s.heap ∧ b < s.heap.size ∧ meth.locks = false ∧ (Jvm.Cond.and given_1 narrow_1).before #[Value.ref b] s = true
/-! the law's own methods that call and catch -/
def lc_MW (l : Launch) (G : lc_G) (y : MethodName) (ws : List Cond) (h : Nat) (av : List Value) (z : lc_S) (k : Int32) (z' : lc_S) : Prop := Met l y ws (lc_rmT h) (lc_PreT G av z) (lc_Q G (some (.int k)) z') 1 6 (lc_A G)
theorem lc_blindT (G : lc_G) (av : List Value) (z : lc_S) : FrameBlind (lc_PreT G av z) := by
  intro a U g mk q
  obtain ⟨q0, q1, q2, q3, q4⟩ := q
  exact ⟨q0, q1, lc_E.call g mk a q2, q3.kept (U := U.calling g mk a) (State.WarmedH.refl U) (fun _ _ => rfl), q4⟩
theorem lc_MW_of {l : Launch} {G : lc_G} {y : MethodName} {ws ws' : List Cond} {h : Nat} {av : List Value} {z z' : lc_S} {k : Int32} {cc : ByteArray} {maxL : Nat} {ret : Option FieldType} {own : String} {hh : List (Nat × Nat × Nat × Nat)}
    (hy : plainName y.cls = true) (hw : ws = Cond.codeWith y cc maxL ret hh :: ws') (hin : ∀ w ∈ lc_ALL, w ∈ ws) (hlen : (lg_sl av).length ≤ maxL) (hcl : y.cls = own)
    (body : ∀ (p : Program) (e : Env) (s : State) (m : MethodId) (below : List Frame) (meth : Method) (c : Code), p.tables.exec = Jvm.exec → c.code = cc → c.maxLocals = maxL → meth.sig.returnType = ret → meth.locks = false → s.vm.findClass own = some m.cls → (∀ w ∈ lc_ALL, w.before av.toArray s = true) → lc_E G s →
      c.exceptionTable.toList.map (fun h => (h.startPc, h.endPc, h.handlerPc, h.catchType)) = hh → lc_T G s → G.2.2.2.2 ≤ s.heap.size →
      ∀ ls : Array Slot, lv_has ls maxL (lv_args 0 av) → lc_H G z s.heap s.heap [] → W p l e (lc_rmT h) s m av.toArray below meth c s.heap [] 0 0 (MQ below (lc_Q G (some (.int k)) z') av.toArray s 1 6 (lc_A G)) (F0 m 0 ls [])) : lc_MW l G y ws h av z k z' := by
  refine va_MetW (cc := cc) (maxL := maxL) (ret := ret) (hh := hh) hy hw ?_
  intro p e s m args below meth c s₁ B hml hv
  obtain ⟨rfl, hP, hE, hT, hz⟩ := hv
  have hts0 := atoms_spec (ws := ws) B.pre
  have hown : s.vm.findClass y.cls = some m.cls := findClass_of_methodNamed B.named
  rw [hcl] at hown
  have hcode : (Cond.codeWith y cc maxL ret hh).before av.toArray s = true := hts0 _ (by rw [hw]; exact List.mem_cons_self)
  obtain ⟨m9, meth9, c9, hn9, hm9, hc9, -, -, ht9, -⟩ := Cond.codeWith_spec hcode
  have e1 : m9 = m := Option.some.inj (hn9.symm.trans B.named)
  subst e1
  have e2 : meth9 = meth := Option.some.inj (hm9.symm.trans B.method)
  subst e2
  have e3 : c9 = c := by
    have X₀ := Stand.of_body B
    exact Option.some.inj (hc9.symm.trans X₀.code)
  subst e3
  have hl := lv_entry av (n := maxL) hlen
  rw [lg_entry_eq]
  exact body p e s m9 below meth9 c9 B.exec B.bytes hml B.returns B.notSynchronized hown (fun w h => hts0 w (hin w h)) hE ht9 hT hz _ hl ⟨hP, va_S.rf⟩
def lc_KW (own : String) (idx : Nat) (y : MethodName) (cc : ByteArray) (maxL : Nat) (ret : Option FieldType) (hh : List (Nat × Nat × Nat × Nat)) (n : Nat) : Prop := Cond.codeWith y cc maxL ret hh ∈ lc_ALL ∧ Cond.methodLink own idx y ∈ lc_ALL ∧ Cond.static y ∈ lc_ALL ∧ Cond.initialized y.cls ∈ lc_ALL ∧ y.cls ≠ "java/lang/invoke/MethodHandle" ∧ y.cls ≠ "java/lang/invoke/VarHandle" ∧ (parseMethodDescriptor y.desc).map (fun d => d.parameters.length) = some n
section LCZ
variable {p : Program} {l : Launch} {e : Env} {R : Room} {s : State} {m : MethodId} {args : Array Value} {below : List Frame} {meth : Method} {c : Code} {H : Heap} {locs : List Loc} {cells slots : Nat} {Q : State → Prop}
variable {cc : ByteArray} {pc : Nat} {ls : Array Slot} {rest As : List Value} {G : lc_G} {z z1 : lc_S} {y : MethodName} {cy : ByteArray} {maxL n idx h : Nat} {ret : Option FieldType} {hh : List (Nat × Nat × Nat × Nat)} {own : String} {k : Int32}
/-- a call of such a method -/
theorem lc_callW (hx : p.tables.exec = Jvm.exec) (hb : c.code = cc) (hml : c.maxLocals = ls.size) (hown : s.vm.findClass own = some m.cls) (hts : ∀ w ∈ lc_ALL, w.before args s = true) (hE : lc_E G s) (hT : lc_T G s) (hz : G.2.2.2.2 ≤ s.heap.size) (hH : lc_H G z s.heap H locs)
    (hM : lc_MW l G y (Cond.codeWith y cy maxL ret hh :: lc_ALL) h As z k z1) (kw : lc_KW own idx y cy maxL ret hh n) (hR : (lc_rmT h).frames + 1 ≤ R.frames ∧ 8 + (maxL + 11) + (lc_rmT h).locals ≤ R.locals) (hn : As.length = n) (hW : (rest.map fun v => v.category).sum ≤ 8) (hcl : cells + 1 ≤ R.cells) (hsl : slots + 6 ≤ R.slots) (hdg : decode cc pc = .ok (.invokestatic idx, 3))
    (kk : ∀ (H1 : Heap) (locs1 : List Loc), lc_H G z1 s.heap H1 locs1 → W p l e R s m args below meth c H1 locs1 (cells + 1) (slots + 6) Q (F0 m (pc + 3) ls (.int k :: rest))) : W p l e R s m args below meth c H locs cells slots Q (F0 m pc ls (As.reverse ++ rest)) := by
  obtain ⟨k1, k2, k3, k4, k5, k6, k7⟩ := kw
  intro T hT0 X
  have hS := hH.2
  have hgood : GoodIn lc_ALL (Cond.codeWith y cy maxL ret hh :: lc_ALL) := fun w hw => (List.mem_cons.mp hw).elim (fun e => by subst e; exact lc_good _ k1) (fun hw => lc_good w hw)
  have hK : Back l R p e below s args y 3 8 (PreOf R 1 6 (lc_PreT G As z)) (PostOf (lc_Q G (some (.int k)) z1) 1 6 (lc_A G)) :=
    va_backW (hh := hh) (bytes := cy) (maxL := maxL) (ret := ret) hM (lc_blindT G As z) rfl rfl hR.1 hR.2 (pay_in hts hgood) List.mem_cons_self (fun a' U hW => word_at hW (Or.inl (by first | rfl | simp [Cond.onTables, Cond.keeps, Cond.steady])) (hts _ k4))
  obtain ⟨mk, methM, cM, hnamed, hmethM, -, -, -, -, -, -, hsigM⟩ := Cond.codeWith_spec (hts _ k1)
  have hstatic : methM.isStatic = true := Cond.static_spec hnamed hmethM (hts _ k3)
  obtain ⟨kP, hkP, -⟩ := className_of_methodNamed hnamed
  have hinitP : kP.init = .initialized := Cond.initialized_spec (findClass_of_methodNamed hnamed) hkP (hts _ k4)
  have hlen : As.length = methM.sig.parameters.length := by
    rw [hsigM] at k7
    rw [hn]
    exact (Option.some.inj k7).symm
  obtain ⟨vm₁, X₁, hstep₁⟩ := X.invokestatic hx hown (hts _ k2) hnamed hmethM hstatic hkP hinitP ⟨k5, k6⟩ (g := F0 m pc ls (As.reverse ++ rest)) rfl (argsL := As) (rest := rest) hlen rfl (by rw [hb]; exact hdg)
  have hpre : lc_PreT G As z As.toArray (T.setVm vm₁) := by
    have hU : (T.setVm vm₁).heap = H := hT0
    refine ⟨rfl, by rw [hU]; exact hH.1, lc_E.warm (U := T.setVm vm₁) X₁.warmed hE, hT.kept (U := T.setVm vm₁) X₁.warmed (fun q hq => ?_), ?_⟩
    · rw [hU]; exact hS.2.1 q (Nat.lt_of_lt_of_le hq hz) (Nat.not_le.mpr hq)
    · rw [hU]; exact Nat.le_trans hz hS.1
  obtain ⟨v, ⟨U', l2, c2, s2⟩, X', ⟨g', mk', t, L, e1, e2, hq, h1, hL, h2, h3⟩, hsteps⟩ := hK m meth c ⟨T.setVm vm₁, locs, cells, slots⟩ { F0 m pc ls (As.reverse ++ rest) with stack := rest } (.invokestatic idx) mk As.toArray X₁ rfl hml.symm (by rw [hb]; exact hdg) (lv_room hW) (X₁.named hnamed) ⟨hcl, hsl, hpre⟩
  dsimp only [Pt.U, Pt.locs, Pt.cells, Pt.slots] at X' e1 e2 h1 h2 h3 hsteps
  subst h1; subst h2; subst h3
  obtain ⟨⟨hv, hP1⟩, hF1, hF2⟩ := hq
  cases hv
  have hst : ((T.setVm vm₁).calling g' mk' As.toArray).heap = H := hT0
  rw [hst] at hF1 hF2
  obtain ⟨t2, a1, b1⟩ := kk U'.heap (locs ++ L) ⟨by rw [e1]; exact hP1, Nat.le_trans hS.1 (by rw [e1]; exact hF1), fun q h1 h2 => by rw [e1, hF2 q (Nat.lt_of_lt_of_le h1 hS.1) h2]; exact hS.2.1 q h1 h2, fun q hq => by
      rcases List.mem_append.mp hq with h | h
      · exact hS.2.2 q h
      · exact hL q h⟩ U' rfl X'
  exact ⟨t2, hstep₁ _ (fun acts => by rw [doInvoke_state]; exact hsteps.trans a1), b1⟩
end LCZ
/-- the answer's code and the state behind such a call -/
def lc_code (k : Nat) : Int32 := if k = 0 then 0 else if k = 2 then 2 else 1
def lc_out (k : Nat) (v : Int32) (z : lc_S) : lc_S := if k = 0 then lcUL z 0 (0 : Int32).toNatClampNeg v.toInt64 else z
theorem lc_roomTT {h h' maxL : Nat} (hh : h + 1 ≤ h') (hm : maxL ≤ 45) : (lc_rmT h).frames + 1 ≤ (lc_rmT h').frames ∧ 8 + (maxL + 11) + (lc_rmT h).locals ≤ (lc_rmT h').locals := by
  simp only [lc_rmT]; omega
theorem dL_define_0 : decode method_3_code 0 = .ok (.aload_n 2, 1) := by decide +kernel
theorem dL_define_1 : decode method_3_code 1 = .ok (.iconst 0, 1) := by decide +kernel
theorem dL_define_2 : decode method_3_code 2 = .ok (.aload_n 0, 1) := by decide +kernel
theorem dL_define_3 : decode method_3_code 3 = .ok (.iload_n 1, 1) := by decide +kernel
theorem dL_define_4 : decode method_3_code 4 = .ok (.invokevirtual 7, 3) := by decide +kernel
theorem dL_define_7 : decode method_3_code 7 = .ok (.i2l, 1) := by decide +kernel
theorem dL_define_8 : decode method_3_code 8 = .ok (.lastore, 1) := by decide +kernel
theorem dL_define_9 : decode method_3_code 9 = .ok (.goto 9, 3) := by decide +kernel
theorem dL_define_12 : decode method_3_code 12 = .ok (.astore_n 3, 1) := by decide +kernel
theorem dL_define_13 : decode method_3_code 13 = .ok (.iconst 1, 1) := by decide +kernel
theorem dL_define_14 : decode method_3_code 14 = .ok (.ireturn, 1) := by decide +kernel
theorem dL_define_15 : decode method_3_code 15 = .ok (.astore_n 3, 1) := by decide +kernel
theorem dL_define_16 : decode method_3_code 16 = .ok (.iconst 2, 1) := by decide +kernel
theorem dL_define_17 : decode method_3_code 17 = .ok (.ireturn, 1) := by decide +kernel
theorem dL_define_18 : decode method_3_code 18 = .ok (.iconst 0, 1) := by decide +kernel
theorem dL_define_19 : decode method_3_code 19 = .ok (.ireturn, 1) := by decide +kernel
def yL_define : MethodName := ⟨"LinearCellsLaw", "define", "(LLinearCells;I[J)I"⟩
def wL_define : List Cond := Cond.codeWith yL_define method_3_code 4 (some .int) [(0, 9, 12, 13), (0, 9, 15, 15)] :: lc_ALL
theorem kvL_define : lc_KV "LinearCellsLaw" 7 yA_define prog_1_method_3_code 4 (some .int) 1 := ⟨(lc_mt rfl (List.mem_append_right _ (List.mem_append_left _ (List.mem_of_getElem? (i := 162) rfl)))), (lc_mt rfl (List.mem_append_right _ (List.mem_append_left _ (List.mem_of_getElem? (i := 159) rfl)))), (lc_mt rfl (List.mem_append_right _ (List.mem_append_left _ (List.mem_of_getElem? (i := 160) rfl)))), (lc_mt rfl (List.mem_append_right _ (List.mem_append_left _ (List.mem_of_getElem? (i := 161) rfl)))), (lc_mt rfl (List.mem_append_left _ (List.mem_of_getElem? (i := 1) rfl))), (by decide), (by decide), (by decide +kernel)⟩
theorem klL_define_13 : Cond.classLink "LinearCellsLaw" 13 (lc_exn 1) ∈ lc_ALL := (lc_mt rfl (List.mem_append_right _ (List.mem_append_left _ (List.mem_of_getElem? (i := 157) rfl))))
theorem klL_define_15 : Cond.classLink "LinearCellsLaw" 15 (lc_exn 2) ∈ lc_ALL := (lc_mt rfl (List.mem_append_right _ (List.mem_append_left _ (List.mem_of_getElem? (i := 158) rfl))))
set_option maxHeartbeats 4000000 in
set_option maxRecDepth 100000 in
theorem cL_define (l : Launch) (G : lc_G) (htr : l.stackTraces = false) {a1 v : Int32} {k : Nat} {z z1 : lc_S} (hf : fA_define a1 z = some ((k, v), z1)) (hk : k = 0 ∨ k = 1 ∨ k = 2) : lc_MW l G yL_define wL_define 79 [.ref (lc_ad G 1), .int a1, .ref (lc_ad G 0)] z (lc_code k) (lc_out k v z1) := by
  refine lc_MW_of (cc := method_3_code) (maxL := 4) (ret := some .int) (own := "LinearCellsLaw") (hh := [(0, 9, 12, 13), (0, 9, 15, 15)]) (by decide) rfl (fun w h => List.mem_cons_of_mem _ h) (Nat.le_of_ble_eq_true rfl) rfl ?_
  intro p e s m below meth c hx hb hml hr hlocks hown hts hE htab hT hz ls hl hH
  replace hl : lv_has ls 4 [(0, .ref (lc_ad G 1)), (1, .int a1), (2, .ref (lc_ad G 0))] := hl
  refine lv_aload_n hx hb dL_define_0 rfl (lv_at hl 2 rfl) ?_
  refine lv_iconst (v := 0) hx hb dL_define_1 (by decide) ?_
  refine lv_aload_n hx hb dL_define_2 rfl (lv_at hl 0 rfl) ?_
  refine lv_iload_n hx hb dL_define_3 rfl (lv_at hl 1 rfl) ?_
  refine lc_tryT (As := [.int a1]) (rest := [.int 0, .ref (lc_ad G 0)]) (o := 1) (ci := 0) (hp := (if k = 1 then 12 else 15)) (r := (k, v)) hx hb (hml.trans hl.1.symm) hown hts hE hT hz hH (cA_define l G htr hf) kvL_define (lc_roomTT (by decide) (by decide)) lc_h1 rfl rfl (Nat.le_of_ble_eq_true rfl) (Nat.le_refl _) (Nat.le_refl _) dL_define_4 (fun hk0 T' L a X' hX => lc_find2 (k := k) (idx := 13) (idx2 := 15) (hp := 12) (hp2 := 15) (b2 := 9) X' hown hts hT klL_define_13 klL_define_15 htab (by decide) (by decide) rfl (Nat.le_of_ble_eq_true rfl) hX (hk.resolve_left hk0)) (fun hk0 H1 locs1 hH => ?_) (fun hk0 a H1 locs1 hH => ?_)
  · have hk0 : k = 0 := hk0
    refine lv_i2l hx hb dL_define_7 rfl ?_
    refine lc_last hx hb hE hH lc_h0 rfl (by decide) dL_define_8 (fun H locs hH => ?_)
    refine lv_goto (tgt := 18) hx hb dL_define_9 (by decide) ?_
    refine lv_iconst (v := 0) hx hb dL_define_18 (by decide) ?_
    exact lc_iret hx hb hr hlocks hH (by rw [hk0]; rfl) dL_define_19
  · have hk0 : k ≠ 0 := hk0
    rcases hk.resolve_left hk0 with hk1 | hk1
    · rw [if_pos hk1]
      refine lv_astore_n hx hb dL_define_12 rfl hl (by decide) rfl (fun ls hl => ?_)
      refine lv_iconst (v := 1) hx hb dL_define_13 (by decide) ?_
      exact lc_iret hx hb hr hlocks hH (by rw [hk1]; rfl) dL_define_14
    · rw [if_neg (by rw [hk1]; decide)]
      refine lv_astore_n hx hb dL_define_15 rfl hl (by decide) rfl (fun ls hl => ?_)
      refine lv_iconst (v := 2) hx hb dL_define_16 (by decide) ?_
      exact lc_iret hx hb hr hlocks hH (by rw [hk1]; rfl) dL_define_17
theorem dL_typed_0 : decode method_4_code 0 = .ok (.aload_n 2, 1) := by decide +kernel
theorem dL_typed_1 : decode method_4_code 1 = .ok (.iconst 0, 1) := by decide +kernel
theorem dL_typed_2 : decode method_4_code 2 = .ok (.aload_n 0, 1) := by decide +kernel
theorem dL_typed_3 : decode method_4_code 3 = .ok (.iload_n 1, 1) := by decide +kernel
theorem dL_typed_4 : decode method_4_code 4 = .ok (.invokevirtual 17, 3) := by decide +kernel
theorem dL_typed_7 : decode method_4_code 7 = .ok (.i2l, 1) := by decide +kernel
theorem dL_typed_8 : decode method_4_code 8 = .ok (.lastore, 1) := by decide +kernel
theorem dL_typed_9 : decode method_4_code 9 = .ok (.goto 6, 3) := by decide +kernel
theorem dL_typed_12 : decode method_4_code 12 = .ok (.astore_n 3, 1) := by decide +kernel
theorem dL_typed_13 : decode method_4_code 13 = .ok (.iconst 1, 1) := by decide +kernel
theorem dL_typed_14 : decode method_4_code 14 = .ok (.ireturn, 1) := by decide +kernel
theorem dL_typed_15 : decode method_4_code 15 = .ok (.iconst 0, 1) := by decide +kernel
theorem dL_typed_16 : decode method_4_code 16 = .ok (.ireturn, 1) := by decide +kernel
def yL_typed : MethodName := ⟨"LinearCellsLaw", "typed", "(LLinearCells;I[J)I"⟩
def wL_typed : List Cond := Cond.codeWith yL_typed method_4_code 4 (some .int) [(0, 9, 12, 20)] :: lc_ALL
theorem kvL_typed : lc_KV "LinearCellsLaw" 17 yA_typed prog_1_method_5_code 2 (some .int) 1 := ⟨(lc_mt rfl (List.mem_append_right _ (List.mem_append_right _ (List.mem_append_left _ (List.mem_of_getElem? (i := 110) rfl))))), (lc_mt rfl (List.mem_append_right _ (List.mem_append_right _ (List.mem_append_left _ (List.mem_of_getElem? (i := 107) rfl))))), (lc_mt rfl (List.mem_append_right _ (List.mem_append_right _ (List.mem_append_left _ (List.mem_of_getElem? (i := 108) rfl))))), (lc_mt rfl (List.mem_append_right _ (List.mem_append_right _ (List.mem_append_left _ (List.mem_of_getElem? (i := 109) rfl))))), (lc_mt rfl (List.mem_append_left _ (List.mem_of_getElem? (i := 1) rfl))), (by decide), (by decide), (by decide +kernel)⟩
theorem klL_typed_20 : Cond.classLink "LinearCellsLaw" 20 (lc_exn 3) ∈ lc_ALL := (lc_mt rfl (List.mem_append_right _ (List.mem_append_right _ (List.mem_append_left _ (List.mem_of_getElem? (i := 106) rfl)))))
set_option maxHeartbeats 4000000 in
set_option maxRecDepth 100000 in
theorem cL_typed (l : Launch) (G : lc_G) (htr : l.stackTraces = false) {a1 v : Int32} {k : Nat} {z z1 : lc_S} (hf : fA_typed a1 z = some ((k, v), z1)) (hk : k = 0 ∨ k = 3) : lc_MW l G yL_typed wL_typed 9 [.ref (lc_ad G 1), .int a1, .ref (lc_ad G 0)] z (lc_code k) (lc_out k v z1) := by
  refine lc_MW_of (cc := method_4_code) (maxL := 4) (ret := some .int) (own := "LinearCellsLaw") (hh := [(0, 9, 12, 20)]) (by decide) rfl (fun w h => List.mem_cons_of_mem _ h) (Nat.le_of_ble_eq_true rfl) rfl ?_
  intro p e s m below meth c hx hb hml hr hlocks hown hts hE htab hT hz ls hl hH
  replace hl : lv_has ls 4 [(0, .ref (lc_ad G 1)), (1, .int a1), (2, .ref (lc_ad G 0))] := hl
  refine lv_aload_n hx hb dL_typed_0 rfl (lv_at hl 2 rfl) ?_
  refine lv_iconst (v := 0) hx hb dL_typed_1 (by decide) ?_
  refine lv_aload_n hx hb dL_typed_2 rfl (lv_at hl 0 rfl) ?_
  refine lv_iload_n hx hb dL_typed_3 rfl (lv_at hl 1 rfl) ?_
  refine lc_tryT (As := [.int a1]) (rest := [.int 0, .ref (lc_ad G 0)]) (o := 1) (ci := 0) (hp := 12) (r := (k, v)) hx hb (hml.trans hl.1.symm) hown hts hE hT hz hH (cA_typed l G htr hf) kvL_typed (lc_roomTT (by decide) (by decide)) lc_h1 rfl rfl (Nat.le_of_ble_eq_true rfl) (Nat.le_refl _) (Nat.le_refl _) dL_typed_4 (fun hk0 T' L a X' hX => lc_find1 (k := 3) (idx := 20) (hp := 12) (b2 := 9) X' hown hts hT klL_typed_20 (List.mem_of_getElem? (i := 2) rfl) htab (by decide) rfl (Nat.le_of_ble_eq_true rfl) (by rcases hk with h | h; exact absurd h hk0; rw [h] at hX; exact hX)) (fun hk0 H1 locs1 hH => ?_) (fun hk0 a H1 locs1 hH => ?_)
  · have hk0 : k = 0 := hk0
    refine lv_i2l hx hb dL_typed_7 rfl ?_
    refine lc_last hx hb hE hH lc_h0 rfl (by decide) dL_typed_8 (fun H locs hH => ?_)
    refine lv_goto (tgt := 15) hx hb dL_typed_9 (by decide) ?_
    refine lv_iconst (v := 0) hx hb dL_typed_15 (by decide) ?_
    exact lc_iret hx hb hr hlocks hH (by rw [hk0]; rfl) dL_typed_16
  · have hk0 : k ≠ 0 := hk0
    have hk1 : k = 3 := hk.resolve_left hk0
    refine lv_astore_n hx hb dL_typed_12 rfl hl (by decide) rfl (fun ls hl => ?_)
    refine lv_iconst (v := 1) hx hb dL_typed_13 (by decide) ?_
    exact lc_iret hx hb hr hlocks hH (by rw [hk1]; rfl) dL_typed_14
theorem dL_run_0 : decode method_5_code 0 = .ok (.aload_n 3, 1) := by decide +kernel
theorem dL_run_1 : decode method_5_code 1 = .ok (.iconst 0, 1) := by decide +kernel
theorem dL_run_2 : decode method_5_code 2 = .ok (.aload_n 0, 1) := by decide +kernel
theorem dL_run_3 : decode method_5_code 3 = .ok (.iload_n 1, 1) := by decide +kernel
theorem dL_run_4 : decode method_5_code 4 = .ok (.iload_n 2, 1) := by decide +kernel
theorem dL_run_5 : decode method_5_code 5 = .ok (.invokevirtual 22, 3) := by decide +kernel
theorem dL_run_8 : decode method_5_code 8 = .ok (.i2l, 1) := by decide +kernel
theorem dL_run_9 : decode method_5_code 9 = .ok (.lastore, 1) := by decide +kernel
theorem dL_run_10 : decode method_5_code 10 = .ok (.goto 7, 3) := by decide +kernel
theorem dL_run_13 : decode method_5_code 13 = .ok (.astore 4, 2) := by decide +kernel
theorem dL_run_15 : decode method_5_code 15 = .ok (.iconst 1, 1) := by decide +kernel
theorem dL_run_16 : decode method_5_code 16 = .ok (.ireturn, 1) := by decide +kernel
theorem dL_run_17 : decode method_5_code 17 = .ok (.iconst 0, 1) := by decide +kernel
theorem dL_run_18 : decode method_5_code 18 = .ok (.ireturn, 1) := by decide +kernel
def yL_run : MethodName := ⟨"LinearCellsLaw", "run", "(LLinearCells;II[J)I"⟩
def wL_run : List Cond := Cond.codeWith yL_run method_5_code 5 (some .int) [(0, 10, 13, 20)] :: lc_ALL
theorem kvL_run : lc_KV "LinearCellsLaw" 22 yA_run prog_1_method_6_code 3 (some .int) 2 := ⟨(lc_mt rfl (List.mem_append_right _ (List.mem_append_right _ (List.mem_append_left _ (List.mem_of_getElem? (i := 140) rfl))))), (lc_mt rfl (List.mem_append_right _ (List.mem_append_right _ (List.mem_append_left _ (List.mem_of_getElem? (i := 137) rfl))))), (lc_mt rfl (List.mem_append_right _ (List.mem_append_right _ (List.mem_append_left _ (List.mem_of_getElem? (i := 138) rfl))))), (lc_mt rfl (List.mem_append_right _ (List.mem_append_right _ (List.mem_append_left _ (List.mem_of_getElem? (i := 139) rfl))))), (lc_mt rfl (List.mem_append_left _ (List.mem_of_getElem? (i := 1) rfl))), (by decide), (by decide), (by decide +kernel)⟩
theorem klL_run_20 : Cond.classLink "LinearCellsLaw" 20 (lc_exn 3) ∈ lc_ALL := (lc_mt rfl (List.mem_append_right _ (List.mem_append_right _ (List.mem_append_left _ (List.mem_of_getElem? (i := 106) rfl)))))
set_option maxHeartbeats 4000000 in
set_option maxRecDepth 100000 in
theorem cL_run (l : Launch) (G : lc_G) (htr : l.stackTraces = false) {a1 a2 v : Int32} {k : Nat} {z z1 : lc_S} (hf : fA_run a1 a2 z = some ((k, v), z1)) (hk : k = 0 ∨ k = 3) : lc_MW l G yL_run wL_run 9 [.ref (lc_ad G 1), .int a1, .int a2, .ref (lc_ad G 0)] z (lc_code k) (lc_out k v z1) := by
  refine lc_MW_of (cc := method_5_code) (maxL := 5) (ret := some .int) (own := "LinearCellsLaw") (hh := [(0, 10, 13, 20)]) (by decide) rfl (fun w h => List.mem_cons_of_mem _ h) (Nat.le_of_ble_eq_true rfl) rfl ?_
  intro p e s m below meth c hx hb hml hr hlocks hown hts hE htab hT hz ls hl hH
  replace hl : lv_has ls 5 [(0, .ref (lc_ad G 1)), (1, .int a1), (2, .int a2), (3, .ref (lc_ad G 0))] := hl
  refine lv_aload_n hx hb dL_run_0 rfl (lv_at hl 3 rfl) ?_
  refine lv_iconst (v := 0) hx hb dL_run_1 (by decide) ?_
  refine lv_aload_n hx hb dL_run_2 rfl (lv_at hl 0 rfl) ?_
  refine lv_iload_n hx hb dL_run_3 rfl (lv_at hl 1 rfl) ?_
  refine lv_iload_n hx hb dL_run_4 rfl (lv_at hl 2 rfl) ?_
  refine lc_tryT (As := [.int a1, .int a2]) (rest := [.int 0, .ref (lc_ad G 0)]) (o := 1) (ci := 0) (hp := 13) (r := (k, v)) hx hb (hml.trans hl.1.symm) hown hts hE hT hz hH (cA_run l G htr hf) kvL_run (lc_roomTT (by decide) (by decide)) lc_h1 rfl rfl (Nat.le_of_ble_eq_true rfl) (Nat.le_refl _) (Nat.le_refl _) dL_run_5 (fun hk0 T' L a X' hX => lc_find1 (k := 3) (idx := 20) (hp := 13) (b2 := 10) X' hown hts hT klL_run_20 (List.mem_of_getElem? (i := 2) rfl) htab (by decide) rfl (Nat.le_of_ble_eq_true rfl) (by rcases hk with h | h; exact absurd h hk0; rw [h] at hX; exact hX)) (fun hk0 H1 locs1 hH => ?_) (fun hk0 a H1 locs1 hH => ?_)
  · have hk0 : k = 0 := hk0
    refine lv_i2l hx hb dL_run_8 rfl ?_
    refine lc_last hx hb hE hH lc_h0 rfl (by decide) dL_run_9 (fun H locs hH => ?_)
    refine lv_goto (tgt := 17) hx hb dL_run_10 (by decide) ?_
    refine lv_iconst (v := 0) hx hb dL_run_17 (by decide) ?_
    exact lc_iret hx hb hr hlocks hH (by rw [hk0]; rfl) dL_run_18
  · have hk0 : k ≠ 0 := hk0
    have hk1 : k = 3 := hk.resolve_left hk0
    refine lv_astore hx hb dL_run_13 hl (by decide) rfl (fun ls hl => ?_)
    refine lv_iconst (v := 1) hx hb dL_run_15 (by decide) ?_
    exact lc_iret hx hb hr hlocks hH (by rw [hk1]; rfl) dL_run_16
theorem dL_value_0 : decode method_6_code 0 = .ok (.aload_n 2, 1) := by decide +kernel
theorem dL_value_1 : decode method_6_code 1 = .ok (.iconst 0, 1) := by decide +kernel
theorem dL_value_2 : decode method_6_code 2 = .ok (.aload_n 0, 1) := by decide +kernel
theorem dL_value_3 : decode method_6_code 3 = .ok (.iload_n 1, 1) := by decide +kernel
theorem dL_value_4 : decode method_6_code 4 = .ok (.invokevirtual 26, 3) := by decide +kernel
theorem dL_value_7 : decode method_6_code 7 = .ok (.i2l, 1) := by decide +kernel
theorem dL_value_8 : decode method_6_code 8 = .ok (.lastore, 1) := by decide +kernel
theorem dL_value_9 : decode method_6_code 9 = .ok (.goto 6, 3) := by decide +kernel
theorem dL_value_12 : decode method_6_code 12 = .ok (.astore_n 3, 1) := by decide +kernel
theorem dL_value_13 : decode method_6_code 13 = .ok (.iconst 1, 1) := by decide +kernel
theorem dL_value_14 : decode method_6_code 14 = .ok (.ireturn, 1) := by decide +kernel
theorem dL_value_15 : decode method_6_code 15 = .ok (.iconst 0, 1) := by decide +kernel
theorem dL_value_16 : decode method_6_code 16 = .ok (.ireturn, 1) := by decide +kernel
def yL_value : MethodName := ⟨"LinearCellsLaw", "value", "(LLinearCells;I[J)I"⟩
def wL_value : List Cond := Cond.codeWith yL_value method_6_code 4 (some .int) [(0, 9, 12, 13)] :: lc_ALL
theorem kvL_value : lc_KV "LinearCellsLaw" 26 yA_value prog_1_method_7_code 2 (some .int) 1 := ⟨(lc_mt rfl (List.mem_append_right _ (List.mem_append_right _ (List.mem_append_right _ (List.mem_append_left _ (List.mem_of_getElem? (i := 66) rfl)))))), (lc_mt rfl (List.mem_append_right _ (List.mem_append_right _ (List.mem_append_right _ (List.mem_append_left _ (List.mem_of_getElem? (i := 63) rfl)))))), (lc_mt rfl (List.mem_append_right _ (List.mem_append_right _ (List.mem_append_right _ (List.mem_append_left _ (List.mem_of_getElem? (i := 64) rfl)))))), (lc_mt rfl (List.mem_append_right _ (List.mem_append_right _ (List.mem_append_right _ (List.mem_append_left _ (List.mem_of_getElem? (i := 65) rfl)))))), (lc_mt rfl (List.mem_append_left _ (List.mem_of_getElem? (i := 1) rfl))), (by decide), (by decide), (by decide +kernel)⟩
theorem klL_value_13 : Cond.classLink "LinearCellsLaw" 13 (lc_exn 1) ∈ lc_ALL := (lc_mt rfl (List.mem_append_right _ (List.mem_append_left _ (List.mem_of_getElem? (i := 157) rfl))))
set_option maxHeartbeats 4000000 in
set_option maxRecDepth 100000 in
theorem cL_value (l : Launch) (G : lc_G) (htr : l.stackTraces = false) {a1 v : Int32} {k : Nat} {z z1 : lc_S} (hf : fA_value a1 z = some ((k, v), z1)) (hk : k = 0 ∨ k = 1) : lc_MW l G yL_value wL_value 9 [.ref (lc_ad G 1), .int a1, .ref (lc_ad G 0)] z (lc_code k) (lc_out k v z1) := by
  refine lc_MW_of (cc := method_6_code) (maxL := 4) (ret := some .int) (own := "LinearCellsLaw") (hh := [(0, 9, 12, 13)]) (by decide) rfl (fun w h => List.mem_cons_of_mem _ h) (Nat.le_of_ble_eq_true rfl) rfl ?_
  intro p e s m below meth c hx hb hml hr hlocks hown hts hE htab hT hz ls hl hH
  replace hl : lv_has ls 4 [(0, .ref (lc_ad G 1)), (1, .int a1), (2, .ref (lc_ad G 0))] := hl
  refine lv_aload_n hx hb dL_value_0 rfl (lv_at hl 2 rfl) ?_
  refine lv_iconst (v := 0) hx hb dL_value_1 (by decide) ?_
  refine lv_aload_n hx hb dL_value_2 rfl (lv_at hl 0 rfl) ?_
  refine lv_iload_n hx hb dL_value_3 rfl (lv_at hl 1 rfl) ?_
  refine lc_tryT (As := [.int a1]) (rest := [.int 0, .ref (lc_ad G 0)]) (o := 1) (ci := 0) (hp := 12) (r := (k, v)) hx hb (hml.trans hl.1.symm) hown hts hE hT hz hH (cA_value l G htr hf) kvL_value (lc_roomTT (by decide) (by decide)) lc_h1 rfl rfl (Nat.le_of_ble_eq_true rfl) (Nat.le_refl _) (Nat.le_refl _) dL_value_4 (fun hk0 T' L a X' hX => lc_find1 (k := 1) (idx := 13) (hp := 12) (b2 := 9) X' hown hts hT klL_value_13 (List.mem_of_getElem? (i := 0) rfl) htab (by decide) rfl (Nat.le_of_ble_eq_true rfl) (by rcases hk with h | h; exact absurd h hk0; rw [h] at hX; exact hX)) (fun hk0 H1 locs1 hH => ?_) (fun hk0 a H1 locs1 hH => ?_)
  · have hk0 : k = 0 := hk0
    refine lv_i2l hx hb dL_value_7 rfl ?_
    refine lc_last hx hb hE hH lc_h0 rfl (by decide) dL_value_8 (fun H locs hH => ?_)
    refine lv_goto (tgt := 15) hx hb dL_value_9 (by decide) ?_
    refine lv_iconst (v := 0) hx hb dL_value_15 (by decide) ?_
    exact lc_iret hx hb hr hlocks hH (by rw [hk0]; rfl) dL_value_16
  · have hk0 : k ≠ 0 := hk0
    have hk1 : k = 1 := hk.resolve_left hk0
    refine lv_astore_n hx hb dL_value_12 rfl hl (by decide) rfl (fun ls hl => ?_)
    refine lv_iconst (v := 1) hx hb dL_value_13 (by decide) ?_
    exact lc_iret hx hb hr hlocks hH (by rw [hk1]; rfl) dL_value_14
theorem dL_heap_0 : decode method_7_code 0 = .ok (.aload_n 2, 1) := by decide +kernel
theorem dL_heap_1 : decode method_7_code 1 = .ok (.iconst 0, 1) := by decide +kernel
theorem dL_heap_2 : decode method_7_code 2 = .ok (.aload_n 0, 1) := by decide +kernel
theorem dL_heap_3 : decode method_7_code 3 = .ok (.iload_n 1, 1) := by decide +kernel
theorem dL_heap_4 : decode method_7_code 4 = .ok (.invokevirtual 29, 3) := by decide +kernel
theorem dL_heap_7 : decode method_7_code 7 = .ok (.i2l, 1) := by decide +kernel
theorem dL_heap_8 : decode method_7_code 8 = .ok (.lastore, 1) := by decide +kernel
theorem dL_heap_9 : decode method_7_code 9 = .ok (.goto 6, 3) := by decide +kernel
theorem dL_heap_12 : decode method_7_code 12 = .ok (.astore_n 3, 1) := by decide +kernel
theorem dL_heap_13 : decode method_7_code 13 = .ok (.iconst 1, 1) := by decide +kernel
theorem dL_heap_14 : decode method_7_code 14 = .ok (.ireturn, 1) := by decide +kernel
theorem dL_heap_15 : decode method_7_code 15 = .ok (.iconst 0, 1) := by decide +kernel
theorem dL_heap_16 : decode method_7_code 16 = .ok (.ireturn, 1) := by decide +kernel
def yL_heap : MethodName := ⟨"LinearCellsLaw", "heap", "(LLinearCells;I[J)I"⟩
def wL_heap : List Cond := Cond.codeWith yL_heap method_7_code 4 (some .int) [(0, 9, 12, 13)] :: lc_ALL
theorem kvL_heap : lc_KV "LinearCellsLaw" 29 yA_heap prog_1_method_8_code 2 (some .int) 1 := ⟨(lc_mt rfl (List.mem_append_right _ (List.mem_append_right _ (List.mem_append_right _ (List.mem_append_left _ (List.mem_of_getElem? (i := 91) rfl)))))), (lc_mt rfl (List.mem_append_right _ (List.mem_append_right _ (List.mem_append_right _ (List.mem_append_left _ (List.mem_of_getElem? (i := 88) rfl)))))), (lc_mt rfl (List.mem_append_right _ (List.mem_append_right _ (List.mem_append_right _ (List.mem_append_left _ (List.mem_of_getElem? (i := 89) rfl)))))), (lc_mt rfl (List.mem_append_right _ (List.mem_append_right _ (List.mem_append_right _ (List.mem_append_left _ (List.mem_of_getElem? (i := 90) rfl)))))), (lc_mt rfl (List.mem_append_left _ (List.mem_of_getElem? (i := 1) rfl))), (by decide), (by decide), (by decide +kernel)⟩
theorem klL_heap_13 : Cond.classLink "LinearCellsLaw" 13 (lc_exn 1) ∈ lc_ALL := (lc_mt rfl (List.mem_append_right _ (List.mem_append_left _ (List.mem_of_getElem? (i := 157) rfl))))
set_option maxHeartbeats 4000000 in
set_option maxRecDepth 100000 in
theorem cL_heap (l : Launch) (G : lc_G) (htr : l.stackTraces = false) {a1 v : Int32} {k : Nat} {z z1 : lc_S} (hf : fA_heap a1 z = some ((k, v), z1)) (hk : k = 0 ∨ k = 1) : lc_MW l G yL_heap wL_heap 9 [.ref (lc_ad G 1), .int a1, .ref (lc_ad G 0)] z (lc_code k) (lc_out k v z1) := by
  refine lc_MW_of (cc := method_7_code) (maxL := 4) (ret := some .int) (own := "LinearCellsLaw") (hh := [(0, 9, 12, 13)]) (by decide) rfl (fun w h => List.mem_cons_of_mem _ h) (Nat.le_of_ble_eq_true rfl) rfl ?_
  intro p e s m below meth c hx hb hml hr hlocks hown hts hE htab hT hz ls hl hH
  replace hl : lv_has ls 4 [(0, .ref (lc_ad G 1)), (1, .int a1), (2, .ref (lc_ad G 0))] := hl
  refine lv_aload_n hx hb dL_heap_0 rfl (lv_at hl 2 rfl) ?_
  refine lv_iconst (v := 0) hx hb dL_heap_1 (by decide) ?_
  refine lv_aload_n hx hb dL_heap_2 rfl (lv_at hl 0 rfl) ?_
  refine lv_iload_n hx hb dL_heap_3 rfl (lv_at hl 1 rfl) ?_
  refine lc_tryT (As := [.int a1]) (rest := [.int 0, .ref (lc_ad G 0)]) (o := 1) (ci := 0) (hp := 12) (r := (k, v)) hx hb (hml.trans hl.1.symm) hown hts hE hT hz hH (cA_heap l G htr hf) kvL_heap (lc_roomTT (by decide) (by decide)) lc_h1 rfl rfl (Nat.le_of_ble_eq_true rfl) (Nat.le_refl _) (Nat.le_refl _) dL_heap_4 (fun hk0 T' L a X' hX => lc_find1 (k := 1) (idx := 13) (hp := 12) (b2 := 9) X' hown hts hT klL_heap_13 (List.mem_of_getElem? (i := 0) rfl) htab (by decide) rfl (Nat.le_of_ble_eq_true rfl) (by rcases hk with h | h; exact absurd h hk0; rw [h] at hX; exact hX)) (fun hk0 H1 locs1 hH => ?_) (fun hk0 a H1 locs1 hH => ?_)
  · have hk0 : k = 0 := hk0
    refine lv_i2l hx hb dL_heap_7 rfl ?_
    refine lc_last hx hb hE hH lc_h0 rfl (by decide) dL_heap_8 (fun H locs hH => ?_)
    refine lv_goto (tgt := 15) hx hb dL_heap_9 (by decide) ?_
    refine lv_iconst (v := 0) hx hb dL_heap_15 (by decide) ?_
    exact lc_iret hx hb hr hlocks hH (by rw [hk0]; rfl) dL_heap_16
  · have hk0 : k ≠ 0 := hk0
    have hk1 : k = 1 := hk.resolve_left hk0
    refine lv_astore_n hx hb dL_heap_12 rfl hl (by decide) rfl (fun ls hl => ?_)
    refine lv_iconst (v := 1) hx hb dL_heap_13 (by decide) ?_
    exact lc_iret hx hb hr hlocks hH (by rw [hk1]; rfl) dL_heap_14
theorem dL_cell_0 : decode method_8_code 0 = .ok (.aload_n 2, 1) := by decide +kernel
theorem dL_cell_1 : decode method_8_code 1 = .ok (.iconst 0, 1) := by decide +kernel
theorem dL_cell_2 : decode method_8_code 2 = .ok (.aload_n 0, 1) := by decide +kernel
theorem dL_cell_3 : decode method_8_code 3 = .ok (.iload_n 1, 1) := by decide +kernel
theorem dL_cell_4 : decode method_8_code 4 = .ok (.invokevirtual 32, 3) := by decide +kernel
theorem dL_cell_7 : decode method_8_code 7 = .ok (.i2l, 1) := by decide +kernel
theorem dL_cell_8 : decode method_8_code 8 = .ok (.lastore, 1) := by decide +kernel
theorem dL_cell_9 : decode method_8_code 9 = .ok (.goto 6, 3) := by decide +kernel
theorem dL_cell_12 : decode method_8_code 12 = .ok (.astore_n 3, 1) := by decide +kernel
theorem dL_cell_13 : decode method_8_code 13 = .ok (.iconst 1, 1) := by decide +kernel
theorem dL_cell_14 : decode method_8_code 14 = .ok (.ireturn, 1) := by decide +kernel
theorem dL_cell_15 : decode method_8_code 15 = .ok (.iconst 0, 1) := by decide +kernel
theorem dL_cell_16 : decode method_8_code 16 = .ok (.ireturn, 1) := by decide +kernel
def yL_cell : MethodName := ⟨"LinearCellsLaw", "cell", "(LLinearCells;I[J)I"⟩
def wL_cell : List Cond := Cond.codeWith yL_cell method_8_code 4 (some .int) [(0, 9, 12, 35)] :: lc_ALL
theorem kvL_cell : lc_KV "LinearCellsLaw" 32 yA_cell prog_1_method_9_code 2 (some .int) 1 := ⟨(lc_mt rfl (List.mem_append_right _ (List.mem_append_right _ (List.mem_append_right _ (List.mem_append_left _ (List.mem_of_getElem? (i := 112) rfl)))))), (lc_mt rfl (List.mem_append_right _ (List.mem_append_right _ (List.mem_append_right _ (List.mem_append_left _ (List.mem_of_getElem? (i := 109) rfl)))))), (lc_mt rfl (List.mem_append_right _ (List.mem_append_right _ (List.mem_append_right _ (List.mem_append_left _ (List.mem_of_getElem? (i := 110) rfl)))))), (lc_mt rfl (List.mem_append_right _ (List.mem_append_right _ (List.mem_append_right _ (List.mem_append_left _ (List.mem_of_getElem? (i := 111) rfl)))))), (lc_mt rfl (List.mem_append_left _ (List.mem_of_getElem? (i := 1) rfl))), (by decide), (by decide), (by decide +kernel)⟩
theorem klL_cell_35 : Cond.classLink "LinearCellsLaw" 35 (lc_exn 4) ∈ lc_ALL := (lc_mt rfl (List.mem_append_right _ (List.mem_append_right _ (List.mem_append_right _ (List.mem_append_left _ (List.mem_of_getElem? (i := 108) rfl))))))
set_option maxHeartbeats 4000000 in
set_option maxRecDepth 100000 in
theorem cL_cell (l : Launch) (G : lc_G) (htr : l.stackTraces = false) {a1 v : Int32} {k : Nat} {z z1 : lc_S} (hf : fA_cell a1 z = some ((k, v), z1)) (hk : k = 0 ∨ k = 4) : lc_MW l G yL_cell wL_cell 9 [.ref (lc_ad G 1), .int a1, .ref (lc_ad G 0)] z (lc_code k) (lc_out k v z1) := by
  refine lc_MW_of (cc := method_8_code) (maxL := 4) (ret := some .int) (own := "LinearCellsLaw") (hh := [(0, 9, 12, 35)]) (by decide) rfl (fun w h => List.mem_cons_of_mem _ h) (Nat.le_of_ble_eq_true rfl) rfl ?_
  intro p e s m below meth c hx hb hml hr hlocks hown hts hE htab hT hz ls hl hH
  replace hl : lv_has ls 4 [(0, .ref (lc_ad G 1)), (1, .int a1), (2, .ref (lc_ad G 0))] := hl
  refine lv_aload_n hx hb dL_cell_0 rfl (lv_at hl 2 rfl) ?_
  refine lv_iconst (v := 0) hx hb dL_cell_1 (by decide) ?_
  refine lv_aload_n hx hb dL_cell_2 rfl (lv_at hl 0 rfl) ?_
  refine lv_iload_n hx hb dL_cell_3 rfl (lv_at hl 1 rfl) ?_
  refine lc_tryT (As := [.int a1]) (rest := [.int 0, .ref (lc_ad G 0)]) (o := 1) (ci := 0) (hp := 12) (r := (k, v)) hx hb (hml.trans hl.1.symm) hown hts hE hT hz hH (cA_cell l G htr hf) kvL_cell (lc_roomTT (by decide) (by decide)) lc_h1 rfl rfl (Nat.le_of_ble_eq_true rfl) (Nat.le_refl _) (Nat.le_refl _) dL_cell_4 (fun hk0 T' L a X' hX => lc_find1 (k := 4) (idx := 35) (hp := 12) (b2 := 9) X' hown hts hT klL_cell_35 (List.mem_of_getElem? (i := 3) rfl) htab (by decide) rfl (Nat.le_of_ble_eq_true rfl) (by rcases hk with h | h; exact absurd h hk0; rw [h] at hX; exact hX)) (fun hk0 H1 locs1 hH => ?_) (fun hk0 a H1 locs1 hH => ?_)
  · have hk0 : k = 0 := hk0
    refine lv_i2l hx hb dL_cell_7 rfl ?_
    refine lc_last hx hb hE hH lc_h0 rfl (by decide) dL_cell_8 (fun H locs hH => ?_)
    refine lv_goto (tgt := 15) hx hb dL_cell_9 (by decide) ?_
    refine lv_iconst (v := 0) hx hb dL_cell_15 (by decide) ?_
    exact lc_iret hx hb hr hlocks hH (by rw [hk0]; rfl) dL_cell_16
  · have hk0 : k ≠ 0 := hk0
    have hk1 : k = 4 := hk.resolve_left hk0
    refine lv_astore_n hx hb dL_cell_12 rfl hl (by decide) rfl (fun ls hl => ?_)
    refine lv_iconst (v := 1) hx hb dL_cell_13 (by decide) ?_
    exact lc_iret hx hb hr hlocks hH (by rw [hk1]; rfl) dL_cell_14
