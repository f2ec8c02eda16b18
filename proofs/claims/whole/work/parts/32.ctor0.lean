/-! constructors: worlds written out, cell by cell -/
def lc_rmC (h C S : Nat) : Room := { frames := h, cells := C, slots := S, locals := 64 * h }
def lc_PreC (G : lc_G) (h0 sz : Nat) (ws : va_W) : Array Value → State → Prop := va_Pc [.ref h0] (fun U => U.heap.size = sz ∧ va_P (lc_D G) lc_cl ws U.heap ∧ lc_E G U ∧ va_D (fun _ => True) ws)
def lc_QC (sz : Nat) (ws : va_W) (B : State → Prop) : Array Value → State → Outcome → State → Prop := va_Qv (S := Unit) (fun _ => True) (fun _ t => B t) (va_A ws sz)
theorem lc_blindC (G : lc_G) (h0 sz : Nat) (ws : va_W) : FrameBlind (lc_PreC G h0 sz ws) := by
  intro a U g mk q
  obtain ⟨q0, q1, q2, q3, q4⟩ := q
  exact ⟨q0, q1, q2, lc_E.call g mk a q3, q4⟩
section LCO
variable {p : Program} {l : Launch} {e : Env} {R : Room} {s : State} {m : MethodId} {args : Array Value} {below : List Frame} {meth : Method} {c : Code} {H : Heap} {locs : List Loc} {cells slots : Nat} {Q : State → Prop}
variable {cc : ByteArray} {pc : Nat} {ls : Array Slot} {rest : List Value} {G : lc_G} {H0 : Heap} {A : Nat → Prop} {ws : va_W}
theorem lc_preC {h0 : Nat} (hE : lc_E G s) (hP : va_P (lc_D G) lc_cl ws H) (hD : va_D A ws) : PreS s H (lc_PreC G h0 H.size ws) [.ref h0] :=
  ⟨lc_blindC G h0 H.size ws, fun U hU hW => ⟨rfl, by rw [hU], by rw [hU]; exact hP, lc_E.warm hW hE, hD.weaken (fun _ _ _ _ => trivial)⟩⟩
theorem lc_newa (hx : p.tables.exec = Jvm.exec) (hb : c.code = cc) {atype : ArrayType} {ty : FieldType} {t : Nat} (hts : ∀ w ∈ lc_ALL, w.before args s = true) (harr : Cond.arrayClass (newarray.typeOf atype) ∈ lc_ALL) (hty : newarray.typeOf atype = ty) (ht : lc_tys[t]? = some ty) (hE : lc_E G s) (hP : va_P (lc_D G) lc_cl ws H) (hD : va_D A ws) (hS : va_S A H0 H locs) (hA : ∀ q, H0.size ≤ q → A q)
    {n : Int32} {N' : Nat} {a0 : vp_A} (ha : ∀ cA : ClassId, vp_cell cA a0 = arrV cA N' (fun _ => defaultValue ty)) (hn : ¬ n < 0) (hN : n.toNatClampNeg = N') (hbytes : N' * componentBytes ty ≤ 536870912) (hcells : cells + 1 ≤ R.cells) (hslots : slots + N' ≤ R.slots) (hdg : decode cc pc = .ok (.newarray atype, 2))
    (kk : ∀ (q : Nat) (H1 : Heap), va_P (lc_D G) lc_cl (ws ++ [(q, .inl (lc_cA G t, a0))]) H1 → va_D A (ws ++ [(q, .inl (lc_cA G t, a0))]) → va_S A H0 H1 locs →
      W p l e R s m args below meth c H1 locs (cells + 1) (slots + N') Q (F0 m (pc + 2) ls (.ref q :: rest))) : W p l e R s m args below meth c H locs cells slots Q (F0 m pc ls (.int n :: rest)) := by
  refine va_newa hx hb (hts _ harr) hty hE.1 hP hD hS hA ha hn hN hbytes hcells hslots hdg (fun q cA H1 hK hP hD hS => ?_)
  have h1 : va_RA s cA ty := (hK.2 (lc_tysG G).length (cA, ty) (by rw [List.getElem?_append_right (Nat.le_refl _), Nat.sub_self]; rfl)).2
  have h2 : va_RA s (lc_cA G t) ty := (hE.1.2 t _ (lc_tys_at G ht)).2
  have e1 : cA = lc_cA G t := by
    subst hty
    cases atype <;> exact Option.some.inj (h1.symm.trans h2)
  subst e1
  exact kk q H1 hP hD hS
theorem lc_newq (hx : p.tables.exec = Jvm.exec) (hb : c.code = cc) {own C : String} {index t : Nat} (hown : s.vm.findClass own = some m.cls) (hts : ∀ w ∈ lc_ALL, w.before args s = true) (hcl : Cond.classLink own index C ∈ lc_ALL) (hov : va_AO C s) (ht : lc_tys[t]? = some (.object C)) (hE : lc_E G s) (hP : va_P (lc_D G) lc_cl ws H) (hD : va_D A ws) (hS : va_S A H0 H locs) (hA : ∀ q, H0.size ≤ q → A q)
    {n : Int32} {N' : Nat} (hn : ¬ n < 0) (hN : n.toNatClampNeg = N') (hbytes : N' * 4 ≤ 536870912) (hcells : cells + 1 ≤ R.cells) (hslots : slots + N' ≤ R.slots) (hdg : decode cc pc = .ok (.anewarray index, 3))
    (kk : ∀ (q : Nat) (H1 : Heap), va_P (lc_D G) lc_cl (ws ++ [(q, .inl (lc_cA G t, N', .inr (.inr (.inr (.inr (fun _ => none))))))]) H1 → va_D A (ws ++ [(q, .inl (lc_cA G t, N', .inr (.inr (.inr (.inr (fun _ => none))))))]) → va_S A H0 H1 locs →
      W p l e R s m args below meth c H1 locs (cells + 1) (slots + N') Q (F0 m (pc + 3) ls (.ref q :: rest))) : W p l e R s m args below meth c H locs cells slots Q (F0 m pc ls (.int n :: rest)) := by
  refine va_newq hx hb hown (hts _ hcl) hov hE.1 hP hD hS hA hn hN hbytes hcells hslots hdg (fun q cA H1 hK hP hD hS => ?_)
  have h1 : va_RA s cA (.object C) := (hK.2 (lc_tysG G).length (cA, .object C) (by rw [List.getElem?_append_right (Nat.le_refl _), Nat.sub_self]; rfl)).2
  have h2 : va_RA s (lc_cA G t) (.object C) := (hE.1.2 t _ (lc_tys_at G ht)).2
  have e1 : cA = lc_cA G t := by
    obtain ⟨_, _, _, _, _, g1⟩ := h1
    obtain ⟨_, _, _, _, _, g2⟩ := h2
    exact Option.some.inj (g1.symm.trans g2)
  subst e1
  exact kk q H1 hP hD hS
end LCO
section LCP
variable {R : Room} {s : State} {args : Array Value} {own host : String} {idx maxL h C S : Nat} {y : MethodName} {cc : ByteArray} {G : lc_G}
theorem lc_cwNI (hts : ∀ w ∈ lc_ALL, w.before args s = true) (hE : lc_E G s) (hc : Cond.code y cc maxL none ∈ lc_ALL) (hl : Cond.methodLinkNest own idx y host ∈ lc_NW) (hi : Cond.instanceMethod y ∈ lc_ALL) (hn : Cond.initialized y.cls ∈ lc_ALL) (hd : y.cls ≠ "java/lang/invoke/MethodHandle" ∧ y.cls ≠ "java/lang/invoke/VarHandle" ∧ (parseMethodDescriptor y.desc).map (fun d => d.parameters.length) = some 0) (hy : y.name = "<init>")
    (hR : (lc_rmC h C S).frames + 1 ≤ R.frames ∧ 8 + (maxL + 11) + (lc_rmC h C S).locals ≤ R.locals) : va_CN R s args own idx y host cc maxL none (Cond.code y cc maxL none :: lc_ALL) (lc_rmC h C S) C S 0 ∧ y.name = "<init>" ∧ (Cond.instanceMethod y).before args s = true :=
  ⟨va_cnB 0 hts (lc_goodc hc) rfl rfl rfl (hE.2.1 _ hl) (hts _ hn) hd hR, hy, hts _ hi⟩
theorem lc_cwPI (hts : ∀ w ∈ lc_ALL, w.before args s = true) (hc : Cond.code y cc maxL none ∈ lc_ALL) (hl : Cond.methodLink own idx y ∈ lc_ALL) (hi : Cond.instanceMethod y ∈ lc_ALL) (hn : Cond.initialized y.cls ∈ lc_ALL) (hd : y.cls ≠ "java/lang/invoke/MethodHandle" ∧ y.cls ≠ "java/lang/invoke/VarHandle" ∧ (parseMethodDescriptor y.desc).map (fun d => d.parameters.length) = some 0) (hy : y.name = "<init>")
    (hR : (lc_rmC h C S).frames + 1 ≤ R.frames ∧ 8 + (maxL + 11) + (lc_rmC h C S).locals ≤ R.locals) : CallB R s args own idx y cc maxL none (Cond.code y cc maxL none :: lc_ALL) (lc_rmC h C S) C S 0 ∧ y.name = "<init>" ∧ (Cond.instanceMethod y).before args s = true :=
  ⟨callB_of 0 hts (lc_goodc hc) rfl rfl rfl (hts _ hn) (hts _ hl) hd hR, hy, hts _ hi⟩
end LCP
theorem lc_rooms {h C S h' C' S' maxL : Nat} (hh : h + 1 ≤ h') (hm : maxL ≤ 45) : (lc_rmC h C S).frames + 1 ≤ (lc_rmC h' C' S').frames ∧ 8 + (maxL + 11) + (lc_rmC h C S).locals ≤ (lc_rmC h' C' S').locals := by
  simp only [lc_rmC]; omega
theorem kobj_i : Cond.instanceMethod objectInit ∈ lc_ALL := (lc_mt rfl (List.mem_append_left _ (List.mem_of_getElem? (i := 23) rfl)))
theorem kobj_c : Cond.code objectInit ⟨#[0xb1]⟩ 1 none ∈ lc_ALL := (lc_mt rfl (List.mem_append_left _ (List.mem_of_getElem? (i := 24) rfl)))
theorem ka_int : Cond.arrayClass (newarray.typeOf .int) ∈ lc_ALL := (lc_mt rfl (List.mem_append_left _ (List.mem_of_getElem? (i := 101) rfl)))
theorem ka_boolean : Cond.arrayClass (newarray.typeOf .boolean) ∈ lc_ALL := (lc_mt rfl (List.mem_append_left _ (List.mem_of_getElem? (i := 167) rfl)))
theorem ka_char : Cond.arrayClass (newarray.typeOf .char) ∈ lc_ALL := (lc_mt rfl (List.mem_append_left _ (List.mem_of_getElem? (i := 100) rfl)))
theorem ka_long : Cond.arrayClass (newarray.typeOf .long) ∈ lc_ALL := (lc_mt rfl (List.mem_append_left _ (List.mem_of_getElem? (i := 236) rfl)))
theorem klA_13 : Cond.classLink "LinearCells" 13 "LinearCells$Procedure" ∈ lc_ALL := (lc_mt rfl (List.mem_append_left _ (List.mem_of_getElem? (i := 25) rfl)))
theorem klA_24 : Cond.classLink "LinearCells" 24 "LinearCells$Reader" ∈ lc_ALL := (lc_mt rfl (List.mem_append_left _ (List.mem_of_getElem? (i := 102) rfl)))
theorem klA_31 : Cond.classLink "LinearCells" 31 "LinearCells$Checker" ∈ lc_ALL := (lc_mt rfl (List.mem_append_left _ (List.mem_of_getElem? (i := 136) rfl)))
theorem klA_38 : Cond.classLink "LinearCells" 38 "LinearCells$Machine" ∈ lc_ALL := (lc_mt rfl (List.mem_append_left _ (List.mem_of_getElem? (i := 190) rfl)))
theorem klK_9 : Cond.classLink "LinearCells$Checker" 9 "LinearCells$Types" ∈ lc_ALL := (lc_mt rfl (List.mem_append_left _ (List.mem_of_getElem? (i := 142) rfl)))
theorem klM_13 : Cond.classLink "LinearCells$Machine" 13 "LinearCells$Memory" ∈ lc_ALL := (lc_mt rfl (List.mem_append_left _ (List.mem_of_getElem? (i := 196) rfl)))
theorem klM_20 : Cond.classLink "LinearCells$Machine" 20 "LinearCells$Procedure" ∈ lc_ALL := (lc_mt rfl (List.mem_append_left _ (List.mem_of_getElem? (i := 237) rfl)))
theorem kt_A : Cond.instantiable "LinearCells" 7 ∈ lc_ALL := (lc_mt rfl (List.mem_append_left _ (List.mem_of_getElem? (i := 18) rfl)))
theorem ki_A : Cond.initialized "LinearCells" ∈ lc_ALL := (lc_mt rfl (List.mem_append_left _ (List.mem_of_getElem? (i := 1) rfl)))
theorem kc_A : Cond.code yA_init prog_1_method_1_code 2 none ∈ lc_ALL := (lc_mt rfl (List.mem_append_left _ (List.mem_of_getElem? (i := 21) rfl)))
theorem km_A : Cond.instanceMethod yA_init ∈ lc_ALL := (lc_mt rfl (List.mem_append_left _ (List.mem_of_getElem? (i := 20) rfl)))
theorem kt_K : Cond.instantiable "LinearCells$Checker" 7 ∈ lc_ALL := (lc_mt rfl (List.mem_append_left _ (List.mem_of_getElem? (i := 137) rfl)))
theorem ki_K : Cond.initialized "LinearCells$Checker" ∈ lc_ALL := (lc_mt rfl (List.mem_append_left _ (List.mem_of_getElem? (i := 4) rfl)))
theorem kc_K : Cond.code yK_init prog_2_method_1_code 1 none ∈ lc_ALL := (lc_mt rfl (List.mem_append_left _ (List.mem_of_getElem? (i := 140) rfl)))
theorem km_K : Cond.instanceMethod yK_init ∈ lc_ALL := (lc_mt rfl (List.mem_append_left _ (List.mem_of_getElem? (i := 139) rfl)))
theorem kt_M : Cond.instantiable "LinearCells$Machine" 12 ∈ lc_ALL := (lc_mt rfl (List.mem_append_left _ (List.mem_of_getElem? (i := 191) rfl)))
theorem ki_M : Cond.initialized "LinearCells$Machine" ∈ lc_ALL := (lc_mt rfl (List.mem_append_left _ (List.mem_of_getElem? (i := 6) rfl)))
theorem kc_M : Cond.code yM_init prog_3_method_1_code 1 none ∈ lc_ALL := (lc_mt rfl (List.mem_append_left _ (List.mem_of_getElem? (i := 194) rfl)))
theorem km_M : Cond.instanceMethod yM_init ∈ lc_ALL := (lc_mt rfl (List.mem_append_left _ (List.mem_of_getElem? (i := 193) rfl)))
theorem kt_Y : Cond.instantiable "LinearCells$Memory" 11 ∈ lc_ALL := (lc_mt rfl (List.mem_append_left _ (List.mem_of_getElem? (i := 197) rfl)))
theorem ki_Y : Cond.initialized "LinearCells$Memory" ∈ lc_ALL := (lc_mt rfl (List.mem_append_left _ (List.mem_of_getElem? (i := 7) rfl)))
theorem kc_Y : Cond.code yY_init prog_4_method_1_code 1 none ∈ lc_ALL := (lc_mt rfl (List.mem_append_left _ (List.mem_of_getElem? (i := 200) rfl)))
theorem km_Y : Cond.instanceMethod yY_init ∈ lc_ALL := (lc_mt rfl (List.mem_append_left _ (List.mem_of_getElem? (i := 199) rfl)))
theorem kt_P : Cond.instantiable "LinearCells$Procedure" 14 ∈ lc_ALL := (lc_mt rfl (List.mem_append_left _ (List.mem_of_getElem? (i := 27) rfl)))
theorem ki_P : Cond.initialized "LinearCells$Procedure" ∈ lc_ALL := (lc_mt rfl (List.mem_append_left _ (List.mem_of_getElem? (i := 2) rfl)))
theorem kc_P : Cond.code yP_init prog_5_method_1_code 1 none ∈ lc_ALL := (lc_mt rfl (List.mem_append_left _ (List.mem_of_getElem? (i := 30) rfl)))
theorem km_P : Cond.instanceMethod yP_init ∈ lc_ALL := (lc_mt rfl (List.mem_append_left _ (List.mem_of_getElem? (i := 29) rfl)))
theorem kt_R : Cond.instantiable "LinearCells$Reader" 9 ∈ lc_ALL := (lc_mt rfl (List.mem_append_left _ (List.mem_of_getElem? (i := 103) rfl)))
theorem ki_R : Cond.initialized "LinearCells$Reader" ∈ lc_ALL := (lc_mt rfl (List.mem_append_left _ (List.mem_of_getElem? (i := 3) rfl)))
theorem kc_R : Cond.code yR_init prog_6_method_1_code 1 none ∈ lc_ALL := (lc_mt rfl (List.mem_append_left _ (List.mem_of_getElem? (i := 106) rfl)))
theorem km_R : Cond.instanceMethod yR_init ∈ lc_ALL := (lc_mt rfl (List.mem_append_left _ (List.mem_of_getElem? (i := 105) rfl)))
theorem kt_T : Cond.instantiable "LinearCells$Types" 6 ∈ lc_ALL := (lc_mt rfl (List.mem_append_left _ (List.mem_of_getElem? (i := 143) rfl)))
theorem ki_T : Cond.initialized "LinearCells$Types" ∈ lc_ALL := (lc_mt rfl (List.mem_append_left _ (List.mem_of_getElem? (i := 5) rfl)))
theorem kc_T : Cond.code yT_init prog_7_method_1_code 1 none ∈ lc_ALL := (lc_mt rfl (List.mem_append_left _ (List.mem_of_getElem? (i := 146) rfl)))
theorem km_T : Cond.instanceMethod yT_init ∈ lc_ALL := (lc_mt rfl (List.mem_append_left _ (List.mem_of_getElem? (i := 145) rfl)))
theorem kt_Q : Cond.instantiable "LinearCellsModel" 59 ∈ lc_ALL := (lc_mt rfl (List.mem_append_right _ (List.mem_append_right _ (List.mem_append_right _ (List.mem_append_left _ (List.mem_of_getElem? (i := 131) rfl))))))
theorem ki_Q : Cond.initialized "LinearCellsModel" ∈ lc_ALL := (lc_mt rfl (List.mem_append_left _ (List.mem_of_getElem? (i := 8) rfl)))
theorem kc_Q : Cond.code yQ_init prog_10_method_1_code 1 none ∈ lc_ALL := (lc_mt rfl (List.mem_append_right _ (List.mem_append_right _ (List.mem_append_right _ (List.mem_append_left _ (List.mem_of_getElem? (i := 134) rfl))))))
theorem km_Q : Cond.instanceMethod yQ_init ∈ lc_ALL := (lc_mt rfl (List.mem_append_right _ (List.mem_append_right _ (List.mem_append_right _ (List.mem_append_left _ (List.mem_of_getElem? (i := 133) rfl))))))
theorem kfA_15 : Cond.fieldLink "LinearCells" 15 "LinearCells" "procedures" "[LLinearCells$Procedure;" ∈ lc_ALL := (lc_mt rfl (List.mem_append_right _ (List.mem_append_left _ (List.mem_of_getElem? (i := 37) rfl))))
theorem kfA_20 : Cond.fieldLink "LinearCells" 20 "LinearCells" "spare" "LLinearCells$Procedure;" ∈ lc_ALL := (lc_mt rfl (List.mem_append_right _ (List.mem_append_left _ (List.mem_of_getElem? (i := 38) rfl))))
theorem kfA_27 : Cond.fieldLink "LinearCells" 27 "LinearCells" "reader" "LLinearCells$Reader;" ∈ lc_ALL := (lc_mt rfl (List.mem_append_right _ (List.mem_append_left _ (List.mem_of_getElem? (i := 39) rfl))))
theorem kfA_34 : Cond.fieldLink "LinearCells" 34 "LinearCells" "checker" "LLinearCells$Checker;" ∈ lc_ALL := (lc_mt rfl (List.mem_append_right _ (List.mem_append_left _ (List.mem_of_getElem? (i := 40) rfl))))
theorem kfA_41 : Cond.fieldLink "LinearCells" 41 "LinearCells" "machine" "LLinearCells$Machine;" ∈ lc_ALL := (lc_mt rfl (List.mem_append_right _ (List.mem_append_left _ (List.mem_of_getElem? (i := 41) rfl))))
theorem kfA_9 : Cond.fieldLink "LinearCells" 9 "LinearCells" "characters" "[C" ∈ lc_ALL := (lc_mt rfl (List.mem_append_right _ (List.mem_append_left _ (List.mem_of_getElem? (i := 35) rfl))))
theorem kfK_12 : Cond.fieldLink "LinearCells$Checker" 12 "LinearCells$Checker" "types" "LLinearCells$Types;" ∈ lc_ALL := (lc_mt rfl (List.mem_append_left _ (List.mem_of_getElem? (i := 168) rfl)))
theorem kfK_18 : Cond.fieldLink "LinearCells$Checker" 18 "LinearCells$Checker" "variableTypes" "[I" ∈ lc_ALL := (lc_mt rfl (List.mem_append_left _ (List.mem_of_getElem? (i := 169) rfl)))
theorem kfK_22 : Cond.fieldLink "LinearCells$Checker" 22 "LinearCells$Checker" "givenTypes" "[I" ∈ lc_ALL := (lc_mt rfl (List.mem_append_left _ (List.mem_of_getElem? (i := 170) rfl)))
theorem kfK_27 : Cond.fieldLink "LinearCells$Checker" 27 "LinearCells$Checker" "typeOf" "[I" ∈ lc_ALL := (lc_mt rfl (List.mem_append_left _ (List.mem_of_getElem? (i := 173) rfl)))
theorem kfK_30 : Cond.fieldLink "LinearCells$Checker" 30 "LinearCells$Checker" "uses" "[I" ∈ lc_ALL := (lc_mt rfl (List.mem_append_left _ (List.mem_of_getElem? (i := 174) rfl)))
theorem kfM_16 : Cond.fieldLink "LinearCells$Machine" 16 "LinearCells$Machine" "memory" "LLinearCells$Memory;" ∈ lc_ALL := (lc_mt rfl (List.mem_append_left _ (List.mem_of_getElem? (i := 238) rfl)))
theorem kfM_22 : Cond.fieldLink "LinearCells$Machine" 22 "LinearCells$Machine" "running" "[LLinearCells$Procedure;" ∈ lc_ALL := (lc_mt rfl (List.mem_append_right _ (List.mem_append_left _ (List.mem_of_getElem? (i := 3) rfl))))
theorem kfM_26 : Cond.fieldLink "LinearCells$Machine" 26 "LinearCells$Machine" "bound" "[J" ∈ lc_ALL := (lc_mt rfl (List.mem_append_right _ (List.mem_append_left _ (List.mem_of_getElem? (i := 4) rfl))))
theorem kfM_30 : Cond.fieldLink "LinearCells$Machine" 30 "LinearCells$Machine" "expressions" "[I" ∈ lc_ALL := (lc_mt rfl (List.mem_append_right _ (List.mem_append_left _ (List.mem_of_getElem? (i := 5) rfl))))
theorem kfM_34 : Cond.fieldLink "LinearCells$Machine" 34 "LinearCells$Machine" "depths" "[I" ∈ lc_ALL := (lc_mt rfl (List.mem_append_right _ (List.mem_append_left _ (List.mem_of_getElem? (i := 6) rfl))))
theorem kfM_37 : Cond.fieldLink "LinearCells$Machine" 37 "LinearCells$Machine" "stages" "[I" ∈ lc_ALL := (lc_mt rfl (List.mem_append_right _ (List.mem_append_left _ (List.mem_of_getElem? (i := 7) rfl))))
theorem kfM_40 : Cond.fieldLink "LinearCells$Machine" 40 "LinearCells$Machine" "kept" "[J" ∈ lc_ALL := (lc_mt rfl (List.mem_append_right _ (List.mem_append_left _ (List.mem_of_getElem? (i := 8) rfl))))
theorem kfP_11 : Cond.fieldLink "LinearCells$Procedure" 11 "LinearCells$Procedure" "typeSigns" "[I" ∈ lc_ALL := (lc_mt rfl (List.mem_append_left _ (List.mem_of_getElem? (i := 39) rfl)))
theorem kfP_15 : Cond.fieldLink "LinearCells$Procedure" 15 "LinearCells$Procedure" "kind" "[I" ∈ lc_ALL := (lc_mt rfl (List.mem_append_left _ (List.mem_of_getElem? (i := 47) rfl)))
theorem kfP_18 : Cond.fieldLink "LinearCells$Procedure" 18 "LinearCells$Procedure" "first" "[I" ∈ lc_ALL := (lc_mt rfl (List.mem_append_left _ (List.mem_of_getElem? (i := 50) rfl)))
theorem kfP_21 : Cond.fieldLink "LinearCells$Procedure" 21 "LinearCells$Procedure" "second" "[I" ∈ lc_ALL := (lc_mt rfl (List.mem_append_left _ (List.mem_of_getElem? (i := 53) rfl)))
theorem kfP_24 : Cond.fieldLink "LinearCells$Procedure" 24 "LinearCells$Procedure" "third" "[I" ∈ lc_ALL := (lc_mt rfl (List.mem_append_left _ (List.mem_of_getElem? (i := 56) rfl)))
theorem kfP_27 : Cond.fieldLink "LinearCells$Procedure" 27 "LinearCells$Procedure" "number" "[I" ∈ lc_ALL := (lc_mt rfl (List.mem_append_left _ (List.mem_of_getElem? (i := 59) rfl)))
theorem kfP_30 : Cond.fieldLink "LinearCells$Procedure" 30 "LinearCells$Procedure" "binder" "[I" ∈ lc_ALL := (lc_mt rfl (List.mem_append_left _ (List.mem_of_getElem? (i := 62) rfl)))
theorem kfP_33 : Cond.fieldLink "LinearCells$Procedure" 33 "LinearCells$Procedure" "bound" "[I" ∈ lc_ALL := (lc_mt rfl (List.mem_append_left _ (List.mem_of_getElem? (i := 68) rfl)))
theorem kfQ_102 : Cond.fieldLink "LinearCellsModel" 102 "LinearCellsModel" "nameBinder" "[I" ∈ lc_ALL := (lc_mt rfl (List.mem_append_right _ (List.mem_append_right _ (List.mem_append_right _ (List.mem_append_left _ (List.mem_of_getElem? (i := 177) rfl))))))
theorem kfQ_105 : Cond.fieldLink "LinearCellsModel" 105 "LinearCellsModel" "nameOther" "[Z" ∈ lc_ALL := (lc_mt rfl (List.mem_append_right _ (List.mem_append_right _ (List.mem_append_right _ (List.mem_append_left _ (List.mem_of_getElem? (i := 178) rfl))))))
theorem kfQ_108 : Cond.fieldLink "LinearCellsModel" 108 "LinearCellsModel" "nameValue" "[J" ∈ lc_ALL := (lc_mt rfl (List.mem_append_right _ (List.mem_append_right _ (List.mem_append_right _ (List.mem_append_left _ (List.mem_of_getElem? (i := 179) rfl))))))
theorem kfQ_111 : Cond.fieldLink "LinearCellsModel" 111 "LinearCellsModel" "nameBehind" "[I" ∈ lc_ALL := (lc_mt rfl (List.mem_append_right _ (List.mem_append_right _ (List.mem_append_right _ (List.mem_append_left _ (List.mem_of_getElem? (i := 180) rfl))))))
theorem kfQ_114 : Cond.fieldLink "LinearCellsModel" 114 "LinearCellsModel" "full" "[Z" ∈ lc_ALL := (lc_mt rfl (List.mem_append_right _ (List.mem_append_right _ (List.mem_append_right _ (List.mem_append_left _ (List.mem_of_getElem? (i := 187) rfl))))))
theorem kfQ_117 : Cond.fieldLink "LinearCellsModel" 117 "LinearCellsModel" "cell" "[I" ∈ lc_ALL := (lc_mt rfl (List.mem_append_right _ (List.mem_append_right _ (List.mem_append_right _ (List.mem_append_left _ (List.mem_of_getElem? (i := 188) rfl))))))
theorem kfQ_120 : Cond.fieldLink "LinearCellsModel" 120 "LinearCellsModel" "pairFirst" "[J" ∈ lc_ALL := (lc_mt rfl (List.mem_append_right _ (List.mem_append_right _ (List.mem_append_right _ (List.mem_append_left _ (List.mem_of_getElem? (i := 190) rfl))))))
theorem kfQ_123 : Cond.fieldLink "LinearCellsModel" 123 "LinearCellsModel" "pairSecond" "[J" ∈ lc_ALL := (lc_mt rfl (List.mem_append_right _ (List.mem_append_right _ (List.mem_append_right _ (List.mem_append_left _ (List.mem_of_getElem? (i := 191) rfl))))))
theorem kfQ_126 : Cond.fieldLink "LinearCellsModel" 126 "LinearCellsModel" "typeRow" "[I" ∈ lc_ALL := (lc_mt rfl (List.mem_append_right _ (List.mem_append_right _ (List.mem_append_right _ (List.mem_append_left _ (List.mem_of_getElem? (i := 192) rfl))))))
theorem kfQ_129 : Cond.fieldLink "LinearCellsModel" 129 "LinearCellsModel" "linear" "[Z" ∈ lc_ALL := (lc_mt rfl (List.mem_append_right _ (List.mem_append_right _ (List.mem_append_right _ (List.mem_append_left _ (List.mem_of_getElem? (i := 193) rfl))))))
theorem kfQ_13 : Cond.fieldLink "LinearCellsModel" 13 "LinearCellsModel" "sign" "[I" ∈ lc_ALL := (lc_mt rfl (List.mem_append_right _ (List.mem_append_right _ (List.mem_append_right _ (List.mem_append_left _ (List.mem_of_getElem? (i := 139) rfl))))))
theorem kfQ_132 : Cond.fieldLink "LinearCellsModel" 132 "LinearCellsModel" "number" "[I" ∈ lc_ALL := (lc_mt rfl (List.mem_append_right _ (List.mem_append_right _ (List.mem_append_right _ (List.mem_append_left _ (List.mem_of_getElem? (i := 194) rfl))))))
theorem kfQ_16 : Cond.fieldLink "LinearCellsModel" 16 "LinearCellsModel" "value" "[I" ∈ lc_ALL := (lc_mt rfl (List.mem_append_right _ (List.mem_append_right _ (List.mem_append_right _ (List.mem_append_left _ (List.mem_of_getElem? (i := 140) rfl))))))
theorem kfQ_19 : Cond.fieldLink "LinearCellsModel" 19 "LinearCellsModel" "first" "[I" ∈ lc_ALL := (lc_mt rfl (List.mem_append_right _ (List.mem_append_right _ (List.mem_append_right _ (List.mem_append_left _ (List.mem_of_getElem? (i := 141) rfl))))))
theorem kfQ_22 : Cond.fieldLink "LinearCellsModel" 22 "LinearCellsModel" "second" "[I" ∈ lc_ALL := (lc_mt rfl (List.mem_append_right _ (List.mem_append_right _ (List.mem_append_right _ (List.mem_append_left _ (List.mem_of_getElem? (i := 142) rfl))))))
theorem kfQ_25 : Cond.fieldLink "LinearCellsModel" 25 "LinearCellsModel" "third" "[I" ∈ lc_ALL := (lc_mt rfl (List.mem_append_right _ (List.mem_append_right _ (List.mem_append_right _ (List.mem_append_left _ (List.mem_of_getElem? (i := 143) rfl))))))
theorem kfQ_28 : Cond.fieldLink "LinearCellsModel" 28 "LinearCellsModel" "binder" "[I" ∈ lc_ALL := (lc_mt rfl (List.mem_append_right _ (List.mem_append_right _ (List.mem_append_right _ (List.mem_append_left _ (List.mem_of_getElem? (i := 144) rfl))))))
theorem kfQ_31 : Cond.fieldLink "LinearCellsModel" 31 "LinearCellsModel" "other" "[Z" ∈ lc_ALL := (lc_mt rfl (List.mem_append_right _ (List.mem_append_right _ (List.mem_append_right _ (List.mem_append_left _ (List.mem_of_getElem? (i := 145) rfl))))))
theorem kfQ_35 : Cond.fieldLink "LinearCellsModel" 35 "LinearCellsModel" "parts" "[I" ∈ lc_ALL := (lc_mt rfl (List.mem_append_right _ (List.mem_append_right _ (List.mem_append_right _ (List.mem_append_left _ (List.mem_of_getElem? (i := 146) rfl))))))
theorem kfQ_38 : Cond.fieldLink "LinearCellsModel" 38 "LinearCellsModel" "taken" "[I" ∈ lc_ALL := (lc_mt rfl (List.mem_append_right _ (List.mem_append_right _ (List.mem_append_right _ (List.mem_append_left _ (List.mem_of_getElem? (i := 147) rfl))))))
theorem kfQ_41 : Cond.fieldLink "LinearCellsModel" 41 "LinearCellsModel" "given" "[I" ∈ lc_ALL := (lc_mt rfl (List.mem_append_right _ (List.mem_append_right _ (List.mem_append_right _ (List.mem_append_left _ (List.mem_of_getElem? (i := 148) rfl))))))
theorem kfQ_44 : Cond.fieldLink "LinearCellsModel" 44 "LinearCellsModel" "openPart" "[I" ∈ lc_ALL := (lc_mt rfl (List.mem_append_right _ (List.mem_append_right _ (List.mem_append_right _ (List.mem_append_left _ (List.mem_of_getElem? (i := 153) rfl))))))
theorem kfQ_47 : Cond.fieldLink "LinearCellsModel" 47 "LinearCellsModel" "stage" "[I" ∈ lc_ALL := (lc_mt rfl (List.mem_append_right _ (List.mem_append_right _ (List.mem_append_right _ (List.mem_append_left _ (List.mem_of_getElem? (i := 154) rfl))))))
theorem kfQ_50 : Cond.fieldLink "LinearCellsModel" 50 "LinearCellsModel" "name" "[I" ∈ lc_ALL := (lc_mt rfl (List.mem_append_right _ (List.mem_append_right _ (List.mem_append_right _ (List.mem_append_left _ (List.mem_of_getElem? (i := 156) rfl))))))
theorem kfQ_53 : Cond.fieldLink "LinearCellsModel" 53 "LinearCellsModel" "boundBy" "[I" ∈ lc_ALL := (lc_mt rfl (List.mem_append_right _ (List.mem_append_right _ (List.mem_append_right _ (List.mem_append_left _ (List.mem_of_getElem? (i := 157) rfl))))))
theorem kfQ_56 : Cond.fieldLink "LinearCellsModel" 56 "LinearCellsModel" "boundOther" "[Z" ∈ lc_ALL := (lc_mt rfl (List.mem_append_right _ (List.mem_append_right _ (List.mem_append_right _ (List.mem_append_left _ (List.mem_of_getElem? (i := 158) rfl))))))
theorem kfQ_59 : Cond.fieldLink "LinearCellsModel" 59 "LinearCellsModel" "holdTypes" "[I" ∈ lc_ALL := (lc_mt rfl (List.mem_append_right _ (List.mem_append_right _ (List.mem_append_right _ (List.mem_append_left _ (List.mem_of_getElem? (i := 160) rfl))))))
theorem kfQ_62 : Cond.fieldLink "LinearCellsModel" 62 "LinearCellsModel" "left" "[I" ∈ lc_ALL := (lc_mt rfl (List.mem_append_right _ (List.mem_append_right _ (List.mem_append_right _ (List.mem_append_left _ (List.mem_of_getElem? (i := 162) rfl))))))
theorem kfQ_65 : Cond.fieldLink "LinearCellsModel" 65 "LinearCellsModel" "right" "[I" ∈ lc_ALL := (lc_mt rfl (List.mem_append_right _ (List.mem_append_right _ (List.mem_append_right _ (List.mem_append_left _ (List.mem_of_getElem? (i := 163) rfl))))))
theorem kfQ_68 : Cond.fieldLink "LinearCellsModel" 68 "LinearCellsModel" "typeOf" "[I" ∈ lc_ALL := (lc_mt rfl (List.mem_append_right _ (List.mem_append_right _ (List.mem_append_right _ (List.mem_append_left _ (List.mem_of_getElem? (i := 164) rfl))))))
theorem kfQ_7 : Cond.fieldLink "LinearCellsModel" 7 "LinearCellsModel" "draft" "[I" ∈ lc_ALL := (lc_mt rfl (List.mem_append_right _ (List.mem_append_right _ (List.mem_append_right _ (List.mem_append_left _ (List.mem_of_getElem? (i := 138) rfl))))))
theorem kfQ_71 : Cond.fieldLink "LinearCellsModel" 71 "LinearCellsModel" "takes" "[I" ∈ lc_ALL := (lc_mt rfl (List.mem_append_right _ (List.mem_append_right _ (List.mem_append_right _ (List.mem_append_left _ (List.mem_of_getElem? (i := 165) rfl))))))
theorem kfQ_74 : Cond.fieldLink "LinearCellsModel" 74 "LinearCellsModel" "gives" "[I" ∈ lc_ALL := (lc_mt rfl (List.mem_append_right _ (List.mem_append_right _ (List.mem_append_right _ (List.mem_append_left _ (List.mem_of_getElem? (i := 166) rfl))))))
theorem kfQ_77 : Cond.fieldLink "LinearCellsModel" 77 "LinearCellsModel" "fewest" "[I" ∈ lc_ALL := (lc_mt rfl (List.mem_append_right _ (List.mem_append_right _ (List.mem_append_right _ (List.mem_append_left _ (List.mem_of_getElem? (i := 167) rfl))))))
theorem kfQ_80 : Cond.fieldLink "LinearCellsModel" 80 "LinearCellsModel" "mostOften" "[I" ∈ lc_ALL := (lc_mt rfl (List.mem_append_right _ (List.mem_append_right _ (List.mem_append_right _ (List.mem_append_left _ (List.mem_of_getElem? (i := 168) rfl))))))
theorem kfQ_83 : Cond.fieldLink "LinearCellsModel" 83 "LinearCellsModel" "pilePart" "[I" ∈ lc_ALL := (lc_mt rfl (List.mem_append_right _ (List.mem_append_right _ (List.mem_append_right _ (List.mem_append_left _ (List.mem_of_getElem? (i := 170) rfl))))))
theorem kfQ_86 : Cond.fieldLink "LinearCellsModel" 86 "LinearCellsModel" "pileBase" "[I" ∈ lc_ALL := (lc_mt rfl (List.mem_append_right _ (List.mem_append_right _ (List.mem_append_right _ (List.mem_append_left _ (List.mem_of_getElem? (i := 171) rfl))))))
theorem kfQ_89 : Cond.fieldLink "LinearCellsModel" 89 "LinearCellsModel" "pileNames" "[I" ∈ lc_ALL := (lc_mt rfl (List.mem_append_right _ (List.mem_append_right _ (List.mem_append_right _ (List.mem_append_left _ (List.mem_of_getElem? (i := 172) rfl))))))
theorem kfQ_92 : Cond.fieldLink "LinearCellsModel" 92 "LinearCellsModel" "pileDepth" "[I" ∈ lc_ALL := (lc_mt rfl (List.mem_append_right _ (List.mem_append_right _ (List.mem_append_right _ (List.mem_append_left _ (List.mem_of_getElem? (i := 173) rfl))))))
theorem kfQ_95 : Cond.fieldLink "LinearCellsModel" 95 "LinearCellsModel" "pileStage" "[I" ∈ lc_ALL := (lc_mt rfl (List.mem_append_right _ (List.mem_append_right _ (List.mem_append_right _ (List.mem_append_left _ (List.mem_of_getElem? (i := 174) rfl))))))
theorem kfQ_98 : Cond.fieldLink "LinearCellsModel" 98 "LinearCellsModel" "pileValue" "[J" ∈ lc_ALL := (lc_mt rfl (List.mem_append_right _ (List.mem_append_right _ (List.mem_append_right _ (List.mem_append_left _ (List.mem_of_getElem? (i := 175) rfl))))))
theorem kfR_13 : Cond.fieldLink "LinearCells$Reader" 13 "LinearCells$Reader" "names" "[I" ∈ lc_ALL := (lc_mt rfl (List.mem_append_left _ (List.mem_of_getElem? (i := 113) rfl)))
theorem kfR_17 : Cond.fieldLink "LinearCells$Reader" 17 "LinearCells$Reader" "binders" "[I" ∈ lc_ALL := (lc_mt rfl (List.mem_append_left _ (List.mem_of_getElem? (i := 114) rfl)))
theorem kfR_20 : Cond.fieldLink "LinearCells$Reader" 20 "LinearCells$Reader" "parts" "[I" ∈ lc_ALL := (lc_mt rfl (List.mem_append_left _ (List.mem_of_getElem? (i := 115) rfl)))
theorem kfT_13 : Cond.fieldLink "LinearCells$Types" 13 "LinearCells$Types" "first" "[I" ∈ lc_ALL := (lc_mt rfl (List.mem_append_left _ (List.mem_of_getElem? (i := 148) rfl)))
theorem kfT_17 : Cond.fieldLink "LinearCells$Types" 17 "LinearCells$Types" "second" "[I" ∈ lc_ALL := (lc_mt rfl (List.mem_append_left _ (List.mem_of_getElem? (i := 149) rfl)))
theorem kfT_20 : Cond.fieldLink "LinearCells$Types" 20 "LinearCells$Types" "number" "[I" ∈ lc_ALL := (lc_mt rfl (List.mem_append_left _ (List.mem_of_getElem? (i := 150) rfl)))
theorem kfT_23 : Cond.fieldLink "LinearCells$Types" 23 "LinearCells$Types" "linear" "[Z" ∈ lc_ALL := (lc_mt rfl (List.mem_append_left _ (List.mem_of_getElem? (i := 151) rfl)))
theorem kfT_27 : Cond.fieldLink "LinearCells$Types" 27 "LinearCells$Types" "count" "I" ∈ lc_ALL := (lc_mt rfl (List.mem_append_left _ (List.mem_of_getElem? (i := 152) rfl)))
theorem kfT_31 : Cond.fieldLink "LinearCells$Types" 31 "LinearCells$Types" "waiting" "[I" ∈ lc_ALL := (lc_mt rfl (List.mem_append_left _ (List.mem_of_getElem? (i := 153) rfl)))
theorem kfY_11 : Cond.fieldLink "LinearCells$Memory" 11 "LinearCells$Memory" "taken" "[Z" ∈ lc_ALL := (lc_mt rfl (List.mem_append_left _ (List.mem_of_getElem? (i := 202) rfl)))
theorem kfY_15 : Cond.fieldLink "LinearCells$Memory" 15 "LinearCells$Memory" "numbers" "[I" ∈ lc_ALL := (lc_mt rfl (List.mem_append_left _ (List.mem_of_getElem? (i := 203) rfl)))
theorem kfY_19 : Cond.fieldLink "LinearCells$Memory" 19 "LinearCells$Memory" "first" "[J" ∈ lc_ALL := (lc_mt rfl (List.mem_append_left _ (List.mem_of_getElem? (i := 206) rfl)))
theorem kfY_23 : Cond.fieldLink "LinearCells$Memory" 23 "LinearCells$Memory" "second" "[J" ∈ lc_ALL := (lc_mt rfl (List.mem_append_left _ (List.mem_of_getElem? (i := 207) rfl)))
theorem kfY_26 : Cond.fieldLink "LinearCells$Memory" 26 "LinearCells$Memory" "cellCount" "[I" ∈ lc_ALL := (lc_mt rfl (List.mem_append_left _ (List.mem_of_getElem? (i := 208) rfl)))
theorem kfY_29 : Cond.fieldLink "LinearCells$Memory" 29 "LinearCells$Memory" "numberCount" "[I" ∈ lc_ALL := (lc_mt rfl (List.mem_append_left _ (List.mem_of_getElem? (i := 209) rfl)))
theorem kfY_32 : Cond.fieldLink "LinearCells$Memory" 32 "LinearCells$Memory" "withNumber" "[Z" ∈ lc_ALL := (lc_mt rfl (List.mem_append_left _ (List.mem_of_getElem? (i := 210) rfl)))
theorem kfY_35 : Cond.fieldLink "LinearCells$Memory" 35 "LinearCells$Memory" "firstNumber" "[I" ∈ lc_ALL := (lc_mt rfl (List.mem_append_left _ (List.mem_of_getElem? (i := 211) rfl)))
theorem koA_1 : Cond.methodLink "LinearCells" 1 objectInit ∈ lc_ALL := (lc_mt rfl (List.mem_append_left _ (List.mem_of_getElem? (i := 22) rfl)))
theorem koK_3 : Cond.methodLink "LinearCells$Checker" 3 objectInit ∈ lc_ALL := (lc_mt rfl (List.mem_append_left _ (List.mem_of_getElem? (i := 141) rfl)))
theorem koM_7 : Cond.methodLink "LinearCells$Machine" 7 objectInit ∈ lc_ALL := (lc_mt rfl (List.mem_append_left _ (List.mem_of_getElem? (i := 195) rfl)))
theorem koP_3 : Cond.methodLink "LinearCells$Procedure" 3 objectInit ∈ lc_ALL := (lc_mt rfl (List.mem_append_left _ (List.mem_of_getElem? (i := 31) rfl)))
theorem koQ_1 : Cond.methodLink "LinearCellsModel" 1 objectInit ∈ lc_ALL := (lc_mt rfl (List.mem_append_right _ (List.mem_append_right _ (List.mem_append_right _ (List.mem_append_left _ (List.mem_of_getElem? (i := 135) rfl))))))
theorem koR_7 : Cond.methodLink "LinearCells$Reader" 7 objectInit ∈ lc_ALL := (lc_mt rfl (List.mem_append_left _ (List.mem_of_getElem? (i := 107) rfl)))
theorem koT_7 : Cond.methodLink "LinearCells$Types" 7 objectInit ∈ lc_ALL := (lc_mt rfl (List.mem_append_left _ (List.mem_of_getElem? (i := 147) rfl)))
theorem koY_3 : Cond.methodLink "LinearCells$Memory" 3 objectInit ∈ lc_ALL := (lc_mt rfl (List.mem_append_left _ (List.mem_of_getElem? (i := 201) rfl)))
theorem kxK_11 : Cond.methodLink "LinearCells$Checker" 11 yT_init ∈ lc_ALL := (lc_mt rfl (List.mem_append_left _ (List.mem_of_getElem? (i := 144) rfl)))
