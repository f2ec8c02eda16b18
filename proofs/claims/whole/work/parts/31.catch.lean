/-! a call that may throw, and its handlers -/
section LCK
variable {E : CtlPost} {e : Env} {d : Bool} {acts : List Action} {f : JFrame} {a : Addr} {Q : Handler → Pre}
/-- a row of the table whose class is resolved here, for the first time or again -/
theorem lc_go_class {s : State} {x : ExceptionTableEntry} {t : List ExceptionTableEntry} {c : ClassId} {cell : Cell} {vm' : Vm} (hx : covers x f.pc = true) (h0 : x.catchType ≠ 0)
    (hg : (Jvm.resolveClass f.method.cls x.catchType).Gives e.toSetting s.vm (.ok c) vm') (hsz : vm'.classes.size ≤ s.vm.classes.size) (hcell : s.heap[a]? = some cell) (hobj : ∀ k, cell.vm ≠ .statics k)
    (hk : ∃ k, vm'.classes[cell.cls]? = some k) (hc : ∃ k, vm'.classes[c]? = some k) :
    wp (findHandler.go f a (x :: t)) Q E e d acts s ↔
      if vm'.assignable cell.cls c = true then Q (.found x.handlerPc) d acts (s.setVm vm') else wp (findHandler.go f a t) Q E e d acts (s.setVm vm') := by
  simp only [covers] at hx
  obtain ⟨ha, ht⟩ := hg.op (op := VmOp.resolveClass f.method.cls x.catchType) rfl
  cases hfit : vm'.assignable cell.cls c <;>
    simp [findHandler.go, hx, h0, ha, ht, hsz, hcell, hobj, hk, hc, hfit, VmOp.dirties, VmOp.acts]
def lc_Fnd (e : Env) (s : State) (f : JFrame) (a : Addr) (pc : Nat) (vm' : Vm) : Prop := ∀ (Q : Handler → Pre) (E : CtlPost) (d : Bool) (acts : List Action), wp (findHandler f a) Q E e d acts s ↔ Q (.found pc) d acts (s.setVm vm')
theorem lc_catch {s : State} {r : List Frame} {pc : Nat} {vm' : Vm} (hfind : lc_Fnd e s f a pc vm') :
    (stepThrowing e s a (.java f :: r)).Is ((s.setVm vm').setFrames (.java { f with pc := pc, stack := [.ref a] } :: r)) [] := by
  simp only [stepThrowing, searchFrame, vmDo]
  generalize hr : Sem.go _ e false [] s = res
  obtain ⟨as, rfl, ha⟩ := Sem.eq_ok_of hr (a := Handler.found pc) (s' := s.setVm vm') (acts' := []) (by simp [hfind _ _ _ _])
  exact ⟨rfl, ha⟩
theorem lc_caught {tb : Tables} {s target : State} {g : JFrame} {c : Code} {below : List Frame} {pc : Nat} {vm' : Vm} (h : At s g.method c below) (hfind : lc_Fnd e ((s.setTop g).pushFrame (.throwing a)) g a pc vm')
    (hrest : Steps tb e below ((s.setVm vm').setTop { g with pc := pc, stack := [.ref a] }) target) : Steps tb e below ((s.setTop g).pushFrame (.throwing a)) target := by
  obtain ⟨hgo, hw⟩ := h.throwing a
  refine Steps.head hgo hw ?_
  rw [stepThread_throwing (frames_entered h.top _), (lc_catch (s := (s.setTop g).pushFrame (.throwing a)) hfind).1]
  obtain ⟨g₀, hg⟩ := Option.isSome_iff_exists.mp h.top
  obtain ⟨r, hr⟩ := State.topJava?_eq_some.mp hg
  have hr' : (s.setVm vm').frames = .java g₀ :: r := hr
  rw [State.setTop_of_frames _ hr'] at hrest
  have e1 : ((((s.setTop g).pushFrame (.throwing a)).setVm vm').setFrames (.java { g with pc := pc, stack := [.ref a] } :: s.frames.tail)) = (s.setVm vm').setFrames (.java { g with pc := pc, stack := [.ref a] } :: r) := by
    rw [State.pushFrame, State.setTop_of_frames _ hr, State.setFrames_setFrames]
    show ((s.setVm vm').setFrames _).setFrames _ = _
    rw [State.setFrames_setFrames, hr]
    rfl
  rw [e1]
  exact hrest
end LCK
section LCV
variable {p : Program} {l : Launch} {e : Env} {R : Room} {s : State} {m : MethodId} {args : Array Value} {below : List Frame} {meth : Method} {c : Code} {T : State} {locs : List Loc} {cells slots : Nat}
variable {G : lc_G} {z z1 : lc_S} {r : Nat × Int32} {y : MethodName} {cy : ByteArray} {maxL n idx h : Nat} {ret : Option FieldType} {own : String} {As rest : List Value} {g : JFrame} {b : Addr}
set_option maxHeartbeats 1000000 in
theorem lc_runT (X : Stand p l e R s m args below meth c T locs cells slots) (hexec : p.tables.exec = Jvm.exec) (hown : s.vm.findClass own = some m.cls) (hts : ∀ w ∈ lc_ALL, w.before args s = true)
    (hM : lc_MT l G y (Cond.code y cy maxL ret :: lc_ALL) h (.ref b :: As) z r z1) (k : lc_KV own idx y cy maxL ret n) (hR : (lc_rmT h).frames + 1 ≤ R.frames ∧ 8 + (maxL + 11) + (lc_rmT h).locals ≤ R.locals)
    (hP : ∀ U : State, U.heap = T.heap → s.WarmedH U.vm → lc_PreT G (.ref b :: As) z (Value.ref b :: As).toArray U) {cellB : Cell} (hcell : T.heap[b]? = some cellB) (hobj : cellB.vm.isStatics = false) (hcls : s.vm.findClass y.cls = some cellB.cls)
    (hg : g.method = m) (hn : As.length = n) (hsize : g.locals.size = c.maxLocals) (hstack : g.stack = As.reverse ++ .ref b :: rest) (hW : 2 * g.monitorRoom + (rest.map fun v => v.category).sum ≤ 8) (hdg : decode c.code g.pc = .ok (.invokevirtual idx, 3))
    (hcl : cells + 1 ≤ R.cells) (hsl : slots + 6 ≤ R.slots) :
    ∃ (o : Outcome) (st t T' : State) (L : List Loc), st.heap = T.heap ∧ Stand p l e R s m args below meth c T' (locs ++ L) (cells + 1) (slots + 6) ∧ (∀ q ∈ L, lc_A G q.base) ∧ T'.heap = t.heap ∧ T'.vm = t.vm ∧ lc_QT G r z1 st o t ∧
      ((∃ v, o = .returned v ∧ ∀ target, Steps p.tables e below (T'.setTop { g with pc := g.pc + 3, stack := v.toList ++ rest }) target → Steps p.tables e below (T.setTop g) target) ∨
       (∃ a, o = .threw a ∧ ∀ target, Steps p.tables e below ((T'.setTop { g with stack := rest }).pushFrame (.throwing a)) target → Steps p.tables e below (T.setTop g) target)) := by
  obtain ⟨k1, k2, k3, k4, k5, k6, k7, k8⟩ := k
  have hcode := hts _ k1
  obtain ⟨mk, methM, hnamed, hmethM, hstM, habM⟩ := Cond.instanceMethod_spec (hts _ k3)
  obtain ⟨methM', cM, hmethM', hcM, -, hlM, -, -, -, hsigM⟩ := Cond.code_spec hnamed hcode
  cases hmethM.symm.trans hmethM'
  obtain ⟨c2, r2, m2, q1, q2, q3, q4, kP, hkP, hkPi⟩ := Cond.selects_spec (hts _ k4)
  cases hcls.symm.trans q1
  cases (State.methodFound?_of_named hnamed ⟨k6, k7⟩).symm.trans q2
  cases hnamed.symm.trans q3
  have hselP : selectMethod e.platform s.vm cellB.cls mk = .method mk := by rw [Launch.admits_selectMethod X.admits]; exact q4
  have hlen : As.length = methM.sig.parameters.length := by
    rw [hsigM] at k8
    rw [hn]
    exact (Option.some.inj k8).symm
  obtain ⟨vm₁, X₁, hstep₁⟩ := X.invokevirtual hexec hown (hts _ k2) hnamed hmethM hstM hkP hkPi ⟨k6, k7⟩ (a := b) (cell := cellB) hcell
    (fun z h => by rw [h] at hobj; cases hobj) hselP hmethM habM hkP hkPi (g := g) hg (argsL := As) (rest := rest) hlen hstack hdg
  have hgood : GoodIn lc_ALL (Cond.code y cy maxL ret :: lc_ALL) := lc_goodc k1
  obtain ⟨U, hU⟩ : ∃ U, U = T.setVm vm₁ := ⟨_, rfl⟩
  rw [← hU] at X₁ hstep₁
  obtain ⟨g', hg'⟩ : ∃ g', g' = { g with stack := rest } := ⟨_, rfl⟩
  have hgm : g'.method = m := by rw [hg']; exact hg
  have hgl : g'.locals.size = c.maxLocals := by rw [hg']; exact hsize
  have hgd : decode c.code g'.pc = .ok (.invokevirtual idx, 3) := by rw [hg']; exact hdg
  have hgs : 2 * g'.monitorRoom + (g'.stack.map fun v => v.category).sum ≤ 8 := by rw [hg']; exact hW
  have hn1 : U.methodNamed? y = some mk := X₁.named hnamed
  have hall : ∀ w ∈ Cond.code y cy maxL ret :: lc_ALL, ∀ a', w.before a' U = true := fun w hw a' => pay_in hts hgood w hw a' U X₁.warmed
  obtain ⟨methY, cY, hmY, hcY, -, hlY, -, -, -, -⟩ := Cond.code_spec hn1 (hall _ List.mem_cons_self (Value.ref b :: As).toArray)
  obtain ⟨kY, hkY, -⟩ := className_of_methodNamed hn1
  have hinitY : kY.init = .initialized := Cond.initialized_spec (findClass_of_methodNamed hn1) hkY (hall _ (List.mem_cons_of_mem _ k5) (Value.ref b :: As).toArray)
  have hh : At U g'.method c below := by rw [hgm]; exact X₁.here
  have happ : (headSpec (Cond.code y cy maxL ret :: lc_ALL) (lc_rmT h)).appliesLoose y e.platform (U.calling g' mk (Value.ref b :: As).toArray) = true :=
    Spec.appliesLoose_calling (g := g') hh hgd hn1 hkY hinitY
      (X₁.room_calling (g := g') (R' := lc_rmT h) hgl hmY hcY hR.1 (by rw [hlY]; have := hR.2; omega) hcl hsl) (atoms_intro fun w hw => hall w hw _)
  obtain ⟨mid, hmid⟩ := hh.above
  have hfr : (U.setTop g').frames = (.java g' :: mid) ++ below := by rw [State.frames_setTop' g' hh.top, hmid]; rfl
  have hUT : U.heap = T.heap := by rw [hU]; rfl
  have hPre : lc_PreT G (.ref b :: As) z (Value.ref b :: As).toArray ((U.setTop g').pushFrame (.invoking mk (Value.ref b :: As).toArray)) := by
    obtain ⟨w0, w1, w2, w3, w4⟩ := hP ((U.setTop g').pushFrame (.invoking mk (Value.ref b :: As).toArray)) hUT X₁.warmed
    exact ⟨w0, w1, w2, w3, w4⟩
  obtain ⟨o, s₂, hsteps, -, hend, hq, hW₂, L, hsame₂, hL⟩ := Steps.callFree hM p X₁.admits X₁.cas X₁.clock (acts := []) hfr happ hPre trivial
  rw [State.frames_setTop' g' hh.top] at hend
  obtain ⟨e2, q2, q3, q4, q5, q6⟩ := id hsame₂
  have e3 : s₂ = ({ (U.calling g' mk (Value.ref b :: As).toArray).setFrames s₂.frames with heap := s₂.heap, slotsUsed := s₂.slotsUsed } : State).setVm s₂.vm := by
    have : s₂ = ({ s₂ with vm := (U.calling g' mk (Value.ref b :: As).toArray).vm } : State).setVm s₂.vm := rfl
    have e2' : ({ s₂ with vm := (U.calling g' mk (Value.ref b :: As).toArray).vm } : State) = _ := e2
    rw [e2'] at this
    exact this
  have hW' : U.WarmedH s₂.vm := hW₂
  obtain ⟨g₀, hg0⟩ := Option.isSome_iff_exists.mp hh.top
  obtain ⟨rr, hr⟩ := State.topJava?_eq_some.mp hg0
  have hr' : (({ U with heap := s₂.heap, slotsUsed := s₂.slotsUsed } : State).setVm s₂.vm).frames = .java g₀ :: rr := hr
  have hsame : U.sameButNew ({ U with heap := s₂.heap, slotsUsed := s₂.slotsUsed } : State) L 1 6 := by
    refine ⟨?_, q2, q3, q4, q5, q6⟩
    obtain ⟨t, ht, -⟩ := State.frames_cons hr
    show ({ U with heap := s₂.heap, slotsUsed := s₂.slotsUsed } : State) = { U.setFrames U.frames with heap := s₂.heap, slotsUsed := s₂.slotsUsed }
    rw [State.setFrames_self ht]
  have X2 : Stand p l e R s m args below meth c (({ U with heap := s₂.heap, slotsUsed := s₂.slotsUsed } : State).setVm s₂.vm) (locs ++ L) (cells + 1) (slots + 6) :=
    ⟨X₁.admits, X₁.cas, X₁.clock, X₁.frames, X₁.room, X₁.hears, X₁.method, X₁.code, (X₁.here.setHeapUsed s₂.heap s₂.slotsUsed).setVm hW'.alike, X₁.tail, State.WarmedH.trans X₁.warmed hW', X₁.limits, X₁.bytes, X₁.same.trans (hsame.setVm s.vm)⟩
  refine ⟨o, _, s₂, _, L, ?_, X2, hL, rfl, rfl, hq, ?_⟩
  · exact hUT
  · cases o with
    | returned v =>
      left
      obtain ⟨c₂, i₂, len₂, hc₂, hd₂, hf₂⟩ := hend
      have hcc : c₂ = c := by
        have h1 : s₂.code? g'.method = U.code? g'.method := by
          rw [State.code?_eq, State.code?_eq, hW'.alike.method?]
        exact Option.some.inj (hc₂.symm.trans (h1.trans hh.code))
      subst hcc
      have hlen3 : len₂ = 3 := by rw [hgd] at hd₂; cases hd₂; rfl
      subst hlen3
      refine ⟨v, rfl, fun target ht => hstep₁ _ fun acts => ?_⟩
      have hs₂ : s₂ = (({ U with heap := s₂.heap, slotsUsed := s₂.slotsUsed } : State).setVm s₂.vm).setTop { g' with pc := g'.pc + 3, stack := v.toList ++ g'.stack } := by
        refine e3.trans ?_
        rw [hf₂, State.calling_eq hh.top, State.setFrames_setFrames, State.setTop_of_frames _ hr', hr]
        rfl
      rw [doInvoke_state]
      subst hg'
      rw [hs₂] at hsteps
      exact hsteps.trans ht
    | threw a =>
      right
      have hf₂ : s₂.frames = .throwing a :: .java g' :: U.frames.tail := hend
      refine ⟨a, rfl, fun target ht => hstep₁ _ fun acts => ?_⟩
      have hs₂ : s₂ = ((({ U with heap := s₂.heap, slotsUsed := s₂.slotsUsed } : State).setVm s₂.vm).setTop g').pushFrame (.throwing a) := by
        refine e3.trans ?_
        rw [hf₂, State.calling_eq hh.top, State.setFrames_setFrames, State.pushFrame, State.frames_setTop _ hr', State.setTop_of_frames _ hr', State.setFrames_setFrames, hr]
        rfl
      rw [doInvoke_state]
      subst hg'
      rw [hs₂] at hsteps
      exact hsteps.trans ht
end LCV
theorem lc_tab1 {l : List ExceptionTableEntry} {a b c d : Nat} (h : l.map (fun h => (h.startPc, h.endPc, h.handlerPc, h.catchType)) = [(a, b, c, d)]) : ∃ x, l = [x] ∧ x.startPc = a ∧ x.endPc = b ∧ x.handlerPc = c ∧ x.catchType = d := by
  match l, h with
  | [x], h =>
    simp only [List.map_cons, List.map_nil, List.cons.injEq, Prod.mk.injEq, and_true] at h
    exact ⟨x, rfl, h⟩
theorem lc_tab2 {l : List ExceptionTableEntry} {a b c d a2 b2 c2 d2 : Nat} (h : l.map (fun h => (h.startPc, h.endPc, h.handlerPc, h.catchType)) = [(a, b, c, d), (a2, b2, c2, d2)]) : ∃ x y, l = [x, y] ∧ (x.startPc = a ∧ x.endPc = b ∧ x.handlerPc = c ∧ x.catchType = d) ∧ y.startPc = a2 ∧ y.endPc = b2 ∧ y.handlerPc = c2 ∧ y.catchType = d2 := by
  match l, h with
  | [x, y], h =>
    simp only [List.map_cons, List.map_nil, List.cons.injEq, Prod.mk.injEq, and_true] at h
    exact ⟨x, y, rfl, h.1, h.2⟩
section LCX
variable {p : Program} {l : Launch} {e : Env} {R : Room} {s : State} {m : MethodId} {args : Array Value} {below : List Frame} {meth : Method} {c : Code} {T : State} {locs : List Loc} {cells slots : Nat} {G : lc_G}
/-- the class of a handler's row is resolved: what comes of it -/
theorem lc_hcl (X : Stand p l e R s m args below meth c T locs cells slots) {own : String} (hown : s.vm.findClass own = some m.cls) (hts : ∀ w ∈ lc_ALL, w.before args s = true) {idx : Nat} {C : String} (hcl : Cond.classLink own idx C ∈ lc_ALL) :
    ∃ (cc : ClassId) (vm' : Vm), s.vm.findClass C = some cc ∧ (Jvm.resolveClass m.cls idx).Gives e.toSetting T.vm (.ok cc) vm' ∧ s.WarmedH vm' ∧ vm'.classes.size ≤ T.vm.classes.size := by
  have hpl : e.platform.magicAccessors = ({} : Platform).magicAccessors := by rw [X.admits.platform]
  obtain ⟨cc, hfcc, hcl⟩ := Cond.classLink_spec hown (hts _ hcl) e.platform hpl
  obtain ⟨hg₁, hwarm₁, hready₁⟩ := State.classEntry (e := e) X.warmed hcl
  exact ⟨cc, _, hfcc, hg₁, hwarm₁, by rw [Vm.size_noted]; exact Nat.le_refl _⟩
/-- one handler, for the kind k -/
theorem lc_find1 (X : Stand p l e R s m args below meth c T locs cells slots) {own : String} (hown : s.vm.findClass own = some m.cls) (hts : ∀ w ∈ lc_ALL, w.before args s = true) (hT : lc_T G s) {k idx hp b2 : Nat} (hcl : Cond.classLink own idx (lc_exn k) ∈ lc_ALL) (hca : Cond.castable (lc_exn k) (lc_exn k) ∈ lc_XA)
    (htab : c.exceptionTable.toList.map (fun h => (h.startPc, h.endPc, h.handlerPc, h.catchType)) = [(0, b2, hp, idx)]) (hidx : idx ≠ 0) {g : JFrame} (hg : g.method = m) (hpc : g.pc < b2) {a : Nat} (hX : lc_X k a T) :
    ∃ vm', s.WarmedH vm' ∧ lc_Fnd e ((T.setTop g).pushFrame (.throwing a)) g a hp vm' := by
  obtain ⟨x, hx, x1, x2, x3, x4⟩ := lc_tab1 htab
  obtain ⟨cell, hcell, hv, hfc⟩ := hX
  obtain ⟨cc, vm', f1, f2, f3, f4⟩ := lc_hcl X hown hts hcl
  have hcc : cell.cls = cc := by
    rw [X.warmed.alike.findClass] at hfc
    exact Option.some.inj (hfc.symm.trans f1)
  have hk : ∃ k, vm'.classes[cc]? = some k := Vm.classAt_of_findClass (by rw [f3.alike.findClass]; exact f1)
  have has : vm'.assignable cc cc = true := by
    obtain ⟨c1, c2, g1, g2, g3⟩ := Cond.castable_spec (hT.1 _ hca)
    cases g1.symm.trans f1
    cases g2.symm.trans f1
    rw [f3.alike.assignable]; exact g3
  refine ⟨vm', f3, fun Q E d acts => ?_⟩
  rw [W.findHandler_eq (meth := meth) (code := c) (by rw [hg]; exact X.method') X.code, hx]
  rw [lc_go_class (s := (T.setTop g).pushFrame (.throwing a)) (x := x) (t := []) (c := cc) (cell := cell) (vm' := vm') (by simp [covers, x1, x2, hpc]) (by rw [x4]; exact hidx) (by rw [hg, x4]; exact f2) f4 hcell (fun q h => by rw [hv] at h; cases h) (by rw [hcc]; exact hk) hk, hcc, if_pos has, x3]
/-- two handlers: for the kinds 1 and 2 -/
theorem lc_find2 (X : Stand p l e R s m args below meth c T locs cells slots) {own : String} (hown : s.vm.findClass own = some m.cls) (hts : ∀ w ∈ lc_ALL, w.before args s = true) (hT : lc_T G s) {k idx idx2 hp hp2 b2 : Nat} (hcl : Cond.classLink own idx (lc_exn 1) ∈ lc_ALL) (hcl2 : Cond.classLink own idx2 (lc_exn 2) ∈ lc_ALL)
    (htab : c.exceptionTable.toList.map (fun h => (h.startPc, h.endPc, h.handlerPc, h.catchType)) = [(0, b2, hp, idx), (0, b2, hp2, idx2)]) (hidx : idx ≠ 0) (hidx2 : idx2 ≠ 0) {g : JFrame} (hg : g.method = m) (hpc : g.pc < b2) {a : Nat} (hX : lc_X k a T) (hk12 : k = 1 ∨ k = 2) :
    ∃ vm', s.WarmedH vm' ∧ lc_Fnd e ((T.setTop g).pushFrame (.throwing a)) g a (if k = 1 then hp else hp2) vm' := by
  obtain ⟨x, y, hx, ⟨x1, x2, x3, x4⟩, y1, y2, y3, y4⟩ := lc_tab2 htab
  obtain ⟨cell, hcell, hv, hfc⟩ := hX
  obtain ⟨cc, vm', f1, f2, f3, f4⟩ := lc_hcl X hown hts hcl
  have hk : ∃ k, vm'.classes[cc]? = some k := Vm.classAt_of_findClass (by rw [f3.alike.findClass]; exact f1)
  have hcv : ∃ k, vm'.classes[cell.cls]? = some k := by
    refine Vm.classAt_of_findClass (name := lc_exn k) ?_
    rw [X.warmed.alike.findClass] at hfc
    rw [f3.alike.findClass]; exact hfc
  rcases hk12 with rfl | rfl
  · have hcc : cell.cls = cc := by
      rw [X.warmed.alike.findClass] at hfc
      exact Option.some.inj (hfc.symm.trans f1)
    have has : vm'.assignable cc cc = true := by
      obtain ⟨c1, c2, g1, g2, g3⟩ := Cond.castable_spec (hT.1 _ (List.mem_of_getElem? (i := 0) rfl))
      cases g1.symm.trans f1
      cases g2.symm.trans f1
      rw [f3.alike.assignable]; exact g3
    refine ⟨vm', f3, fun Q E d acts => ?_⟩
    rw [W.findHandler_eq (meth := meth) (code := c) (by rw [hg]; exact X.method') X.code, hx]
    rw [lc_go_class (s := (T.setTop g).pushFrame (.throwing a)) (x := x) (t := [y]) (c := cc) (cell := cell) (vm' := vm') (by simp [covers, x1, x2, hpc]) (by rw [x4]; exact hidx) (by rw [hg, x4]; exact f2) f4 hcell (fun q h => by rw [hv] at h; cases h) (by rw [hcc]; exact hk) hk, hcc, if_pos has, x3, if_pos rfl]
  · have hno : vm'.assignable cell.cls cc = false := by
      obtain ⟨c1, c2, g1, g2, g3⟩ := hT.2.2.2
      rw [X.warmed.alike.findClass] at hfc
      cases g1.symm.trans hfc
      cases g2.symm.trans f1
      rw [f3.alike.assignable]; exact g3
    have X' := X.noted f3
    obtain ⟨cc2, vm2, w1, w2, w3, w4⟩ := lc_hcl X' hown hts hcl2
    have hcc2 : cell.cls = cc2 := by
      rw [X.warmed.alike.findClass] at hfc
      exact Option.some.inj (hfc.symm.trans w1)
    have hk2 : ∃ k, vm2.classes[cc2]? = some k := Vm.classAt_of_findClass (by rw [w3.alike.findClass]; exact w1)
    have has : vm2.assignable cc2 cc2 = true := by
      obtain ⟨c1, c2, g1, g2, g3⟩ := Cond.castable_spec (hT.1 _ (List.mem_of_getElem? (i := 1) rfl))
      cases g1.symm.trans w1
      cases g2.symm.trans w1
      rw [w3.alike.assignable]; exact g3
    refine ⟨vm2, w3, fun Q E d acts => ?_⟩
    rw [W.findHandler_eq (meth := meth) (code := c) (by rw [hg]; exact X.method') X.code, hx]
    rw [lc_go_class (s := (T.setTop g).pushFrame (.throwing a)) (x := x) (t := [y]) (c := cc) (cell := cell) (vm' := vm') (by simp [covers, x1, x2, hpc]) (by rw [x4]; exact hidx) (by rw [hg, x4]; exact f2) f4 hcell (fun q h => by rw [hv] at h; cases h) hcv hk, if_neg (by rw [hno]; decide)]
    rw [lc_go_class (s := ((T.setTop g).pushFrame (.throwing a)).setVm vm') (x := y) (t := []) (c := cc2) (cell := cell) (vm' := vm2) (by simp [covers, y1, y2, hpc]) (by rw [y4]; exact hidx2) (by rw [hg, y4]; exact w2) w4 hcell (fun q h => by rw [hv] at h; cases h) (by rw [hcc2]; exact hk2) hk2, hcc2, if_pos has, y3, if_neg (by decide)]
    exact Iff.rfl
end LCX
section LCY
variable {p : Program} {l : Launch} {e : Env} {R : Room} {s : State} {m : MethodId} {args : Array Value} {below : List Frame} {meth : Method} {c : Code} {H : Heap} {locs : List Loc} {cells slots : Nat} {Q : State → Prop}
variable {cc : ByteArray} {pc : Nat} {ls : Array Slot} {rest As : List Value} {G : lc_G} {z z1 : lc_S} {H0 : Heap} {r : Nat × Int32} {y : MethodName} {cy : ByteArray} {maxL n idx h o ci n' hp : Nat} {ret : Option FieldType} {own : String}
/-- a call that may throw, in a method that catches it -/
theorem lc_tryT (hx : p.tables.exec = Jvm.exec) (hb : c.code = cc) (hml : c.maxLocals = ls.size) (hown : s.vm.findClass own = some m.cls) (hts : ∀ w ∈ lc_ALL, w.before args s = true) (hE : lc_E G s) (hT : lc_T G s) (hz : G.2.2.2.2 ≤ s.heap.size) (hH : lc_H G z s.heap H locs)
    (hM : lc_MT l G y (Cond.code y cy maxL ret :: lc_ALL) h (.ref (lc_ad G o) :: As) z r z1) (k : lc_KV own idx y cy maxL ret n) (hR : (lc_rmT h).frames + 1 ≤ R.frames ∧ 8 + (maxL + 11) + (lc_rmT h).locals ≤ R.locals)
    (ho : lc_sh o = (0, ci, n')) {T : u_T} {N : Nat} (hc : lc_cl[ci]? = some (y.cls, T, N)) (hn : As.length = n) (hW : (rest.map fun v => v.category).sum ≤ 8) (hcl : cells + 1 ≤ R.cells) (hsl : slots + 6 ≤ R.slots) (hdg : decode cc pc = .ok (.invokevirtual idx, 3))
    (hfind : r.1 ≠ 0 → ∀ (T' : State) (L : List Loc) (a : Nat), Stand p l e R s m args below meth c T' (locs ++ L) (cells + 1) (slots + 6) → lc_X r.1 a T' → ∃ vm', s.WarmedH vm' ∧ lc_Fnd e ((T'.setTop (F0 m pc ls rest)).pushFrame (.throwing a)) (F0 m pc ls rest) a hp vm')
    (kk0 : r.1 = 0 → ∀ (H1 : Heap) (locs1 : List Loc), lc_H G z1 s.heap H1 locs1 → W p l e R s m args below meth c H1 locs1 (cells + 1) (slots + 6) Q (F0 m (pc + 3) ls (.int r.2 :: rest)))
    (kk1 : r.1 ≠ 0 → ∀ (a : Nat) (H1 : Heap) (locs1 : List Loc), lc_H G z1 s.heap H1 locs1 → W p l e R s m args below meth c H1 locs1 (cells + 1) (slots + 6) Q (F0 m hp ls [.ref a])) : W p l e R s m args below meth c H locs cells slots Q (F0 m pc ls (As.reverse ++ .ref (lc_ad G o) :: rest)) := by
  intro T0 hT0 X
  have hS := hH.2
  obtain ⟨cellB, hcB, hoB, hclB⟩ := va_recv (q := (y.cls, T, N)) hE.1 hH.1.1 hc (q0 := o) (by rw [lc_wd_at G z (lc_sh_lt ho (by decide)), lc_ct_obj ho])
  obtain ⟨o1, st, t, T', L, e0, X', hL, e1, e2, ⟨hq, hP1, hF⟩, hgo⟩ := lc_runT (g := F0 m pc ls (As.reverse ++ .ref (lc_ad G o) :: rest)) (rest := rest) X hx hown hts hM k hR (fun U hU hW => by
      refine ⟨rfl, by rw [hU, hT0]; exact hH.1, lc_E.warm hW hE, hT.kept hW (fun q hq => ?_), ?_⟩
      · rw [hU, hT0]; exact hS.2.1 q (Nat.lt_of_lt_of_le hq hz) (Nat.not_le.mpr hq)
      · rw [hU, hT0]; exact Nat.le_trans hz hS.1) (by rw [hT0]; exact hcB) hoB hclB rfl hn hml.symm rfl (lv_room hW) (by rw [hb]; exact hdg) hcl hsl
  have hH1 : lc_H G z1 s.heap T'.heap (locs ++ L) := by
    obtain ⟨hF1, hF2⟩ := hF
    rw [e0, hT0] at hF1 hF2
    refine ⟨by rw [e1]; exact hP1, Nat.le_trans hS.1 (by rw [e1]; exact hF1), fun q h1 h2 => ?_, fun q hq => ?_⟩
    · rw [e1, hF2 q (Nat.lt_of_lt_of_le h1 hS.1) h2]; exact hS.2.1 q h1 h2
    · rcases List.mem_append.mp hq with h | h
      · exact hS.2.2 q h
      · exact hL q h
  rcases hgo with ⟨v, rfl, go⟩ | ⟨a, rfl, go⟩
  · rcases hq with ⟨r0, hv⟩ | ⟨-, a, hv, -⟩
    · cases hv
      obtain ⟨t2, a1, b1⟩ := kk0 r0 T'.heap (locs ++ L) hH1 T' rfl X'
      exact ⟨t2, go t2 a1, b1⟩
    · cases hv
  · rcases hq with ⟨-, hv⟩ | ⟨r0, a', hv, hX⟩
    · cases hv
    · cases hv
      have hX' : lc_X r.1 a T' := by
        obtain ⟨cell, h1, h2, h3⟩ := hX
        exact ⟨cell, by rw [e1]; exact h1, h2, by rw [e2]; exact h3⟩
      obtain ⟨vm', hw', hf⟩ := hfind r0 T' L a X' hX'
      obtain ⟨t2, a1, b1⟩ := kk1 r0 a T'.heap (locs ++ L) hH1 (T'.setVm vm') rfl (X'.noted hw')
      exact ⟨t2, go t2 (lc_caught (g := F0 m pc ls rest) X'.here hf a1), b1⟩
end LCY
