theorem klLaw_8 : Cond.classLink "LinearCellsLaw" 8 "LinearCells" ∈ lc_ALL := (lc_mt rfl (List.mem_append_left _ (List.mem_of_getElem? (i := 17) rfl)))
theorem klLaw_38 : Cond.classLink "LinearCellsLaw" 38 "LinearCellsModel" ∈ lc_ALL := (lc_mt rfl (List.mem_append_right _ (List.mem_append_right _ (List.mem_append_right _ (List.mem_append_left _ (List.mem_of_getElem? (i := 130) rfl))))))
theorem kxLaw_37 : Cond.methodLink "LinearCellsLaw" 37 yA_init ∈ lc_ALL := (lc_mt rfl (List.mem_append_left _ (List.mem_of_getElem? (i := 19) rfl)))
theorem kxLaw_40 : Cond.methodLink "LinearCellsLaw" 40 yQ_init ∈ lc_ALL := (lc_mt rfl (List.mem_append_right _ (List.mem_append_right _ (List.mem_append_right _ (List.mem_append_left _ (List.mem_of_getElem? (i := 132) rfl))))))
theorem kov_P : Cond.arrayOver (.object "LinearCells$Procedure") ∈ lw_tbl := List.mem_append_right _ (List.mem_append_left _ (List.mem_of_getElem? (i := 26) rfl))
theorem lc_NW_in : ∀ w ∈ lc_NW, w ∈ lw_tbl := fun w hw => by
  simp only [lc_NW, List.mem_cons, List.not_mem_nil, or_false] at hw
  rcases hw with rfl | rfl | rfl | rfl | rfl | rfl
  · exact List.mem_append_right _ (List.mem_append_right _ (List.mem_append_right _ (List.mem_append_left _ (List.mem_of_getElem? (i := 19) rfl))))
  · exact List.mem_append_right _ (List.mem_append_left _ (List.mem_of_getElem? (i := 28) rfl))
  · exact List.mem_append_right _ (List.mem_append_left _ (List.mem_of_getElem? (i := 104) rfl))
  · exact List.mem_append_right _ (List.mem_append_left _ (List.mem_of_getElem? (i := 138) rfl))
  · exact List.mem_append_right _ (List.mem_append_left _ (List.mem_of_getElem? (i := 192) rfl))
  · exact List.mem_append_right _ (List.mem_append_left _ (List.mem_of_getElem? (i := 198) rfl))
theorem lc_XA_in : ∀ w ∈ lc_XA, w ∈ lw_tbl := fun w hw => by
  simp only [lc_XA, List.mem_cons, List.not_mem_nil, or_false] at hw
  rcases hw with rfl | rfl | rfl | rfl
  · exact List.mem_append_right _ (List.mem_append_right _ (List.mem_append_right _ (List.mem_append_left _ (List.mem_of_getElem? (i := 22) rfl))))
  · exact List.mem_append_right _ (List.mem_append_right _ (List.mem_append_right _ (List.mem_append_left _ (List.mem_of_getElem? (i := 90) rfl))))
  · exact List.mem_append_right _ (List.mem_append_right _ (List.mem_append_right _ (List.mem_append_left _ (List.mem_of_getElem? (i := 113) rfl))))
  · exact List.mem_append_right _ (List.mem_append_right _ (List.mem_append_right _ (List.mem_append_right _ (List.mem_append_left _ (List.mem_of_getElem? (i := 116) rfl)))))
theorem lc_XD_in : ∀ w ∈ lc_XD, w ∈ lw_tbl := fun w hw => by
  simp only [lc_XD, List.mem_cons, List.not_mem_nil, or_false] at hw
  rcases hw with rfl | rfl | rfl
  · exact List.mem_append_right _ (List.mem_append_right _ (List.mem_append_right _ (List.mem_append_left _ (List.mem_of_getElem? (i := 23) rfl))))
  · exact List.mem_append_right _ (List.mem_append_right _ (List.mem_append_right _ (List.mem_append_left _ (List.mem_of_getElem? (i := 25) rfl))))
  · exact List.mem_append_right _ (List.mem_append_right _ (List.mem_append_right _ (List.mem_append_left _ (List.mem_of_getElem? (i := 27) rfl))))
theorem lc_sts_in : ∀ q ∈ lc_sts, Cond.laysStatic Bundle.tN q.1 q.2 ∈ lw_tbl := fun q hq => by
  simp only [lc_sts, List.mem_cons, List.not_mem_nil, or_false] at hq
  rcases hq with rfl | rfl
  · exact List.mem_append_right _ (List.mem_append_right _ (List.mem_append_right _ (List.mem_append_left _ (List.mem_of_getElem? (i := 47) rfl))))
  · exact List.mem_append_right _ (List.mem_append_right _ (List.mem_append_right _ (List.mem_append_left _ (List.mem_of_getElem? (i := 49) rfl))))
/-! from the law's entry to its loop -/
/-- the state behind the constructors -/
def lc_z0 : lc_S := (fun c k => if c = 9 ∧ k = 4 then 3 else if c = 12 then upd (upd (fun _ => 0) (1 : Int32).toNatClampNeg 1) (2 : Int32).toNatClampNeg 2 k else if c = 13 then upd (fun _ => 0) (2 : Int32).toNatClampNeg (vp_nar .boolean 1) k else 0,
  fun _ _ => 0,
  fun c k => if c = 1 ∧ k = 3 then some 35 else if c = 3 ∧ k < 4 then some (44 + 9 * k) else none)
theorem lc_D_of {A : Nat → Prop} {ws : va_W} {QL P : List Nat} (hD : va_D A ws) (hn : va_nd P = true) (hs : P.map (fun i => (ws.map Prod.fst)[i]?) = QL.map some) : (∀ i j, i < QL.length → j < QL.length → QL.getD i 0 = QL.getD j 0 → i = j) ∧ ∀ i, i < QL.length → A (QL.getD i 0) := by
  have key : ∀ i, i < QL.length → ∃ k q, P[i]? = some k ∧ ws[k]? = some q ∧ q.1 = QL.getD i 0 := by
    intro i hi
    have h1 : (P.map (fun i => (ws.map Prod.fst)[i]?))[i]? = some (some (QL.getD i 0)) := by
      rw [hs, List.getElem?_map, List.getElem?_eq_getElem hi, List.getD_eq_getElem?_getD, List.getElem?_eq_getElem hi]; rfl
    rw [List.getElem?_map] at h1
    cases hk : P[i]? with
    | none => rw [hk] at h1; cases h1
    | some k =>
      rw [hk] at h1
      have h2 : (ws.map Prod.fst)[k]? = some (QL.getD i 0) := Option.some.inj h1
      rw [List.getElem?_map] at h2
      cases hq : ws[k]? with
      | none => rw [hq] at h2; cases h2
      | some q => rw [hq] at h2; exact ⟨k, q, rfl, hq, Option.some.inj h2⟩
  refine ⟨fun i j hi hj h => ?_, fun i hi => ?_⟩
  · obtain ⟨k1, q1, a1, b1, c1⟩ := key i hi
    obtain ⟨k2, q2, a2, b2, c2⟩ := key j hj
    have := hD.1 k1 k2 q1 q2 b1 b2 (c1.trans (h.trans c2.symm))
    subst this
    exact va_nd_inj P hn i j k1 a1 a2
  · obtain ⟨k1, q1, a1, b1, c1⟩ := key i hi
    rw [← c1]; exact hD.2 k1 q1 b1
theorem lc_P_of {G : lc_G} {z : lc_S} {H : Heap} (h : ∀ c, c < lc_NC → va_at (lc_D G) lc_cl (lc_ad G c, lc_ct G z c) H) (hi : ∀ i j, i < lc_NC → j < lc_NC → lc_ad G i = lc_ad G j → i = j) (hA : ∀ i, i < lc_NC → lc_A G (lc_ad G i)) : lc_P G z H := by
  have key : ∀ (k : Nat) (q : Nat × va_E), (lc_wd G z)[k]? = some q → k < lc_NC ∧ q = (lc_ad G k, lc_ct G z k) := by
    intro k q hk
    by_cases hl : k < lc_NC
    · rw [lc_wd_at G z hl] at hk; exact ⟨hl, (Option.some.inj hk).symm⟩
    · rw [lc_wd_out G z hl] at hk; cases hk
  refine ⟨fun k q hk => ?_, fun i j p q h1 h2 h3 => ?_, fun k q hk => ?_⟩
  · obtain ⟨h1, rfl⟩ := key k q hk; exact h k h1
  · obtain ⟨a1, rfl⟩ := key i p h1
    obtain ⟨a2, rfl⟩ := key j q h2
    exact hi i j a1 a2 h3
  · obtain ⟨h1, rfl⟩ := key k q hk; exact hA k h1
/-- what the tables say of the classes, at the law's start -/
theorem lc_env {s : State} {args : Array Value} (hts1 : ∀ w ∈ lw_tbl, w.before args s = true) : ∃ (dC : Nat → ClassId) (dI : Nat → Nat → Nat) (cA : Nat → ClassId), ∀ (ad : Nat → Nat) (b0 : Nat), lc_E (dC, dI, ad, cA, b0) s := by
  have hts : ∀ w ∈ lc_ALL, w.before args s = true := fun w h => hts1 w (List.mem_filter.mp h).1
  obtain ⟨c0, i0, h0⟩ := u_known (C := "LinearCells") (T := TA_) (N := 7) hts inwA_ (hts _ kt_A)
  obtain ⟨c1, i1, h1⟩ := u_known (C := "LinearCells$Procedure") (T := TP_) (N := 14) hts inwP_ (hts _ kt_P)
  obtain ⟨c2, i2, h2⟩ := u_known (C := "LinearCells$Reader") (T := TR_) (N := 9) hts inwR_ (hts _ kt_R)
  obtain ⟨c3, i3, h3⟩ := u_known (C := "LinearCells$Types") (T := TT_) (N := 6) hts inwT_ (hts _ kt_T)
  obtain ⟨c4, i4, h4⟩ := u_known (C := "LinearCells$Checker") (T := TK_) (N := 7) hts inwK_ (hts _ kt_K)
  obtain ⟨c5, i5, h5⟩ := u_known (C := "LinearCells$Memory") (T := TY_) (N := 11) hts inwY_ (hts _ kt_Y)
  obtain ⟨c6, i6, h6⟩ := u_known (C := "LinearCells$Machine") (T := TM_) (N := 12) hts inwM_ (hts _ kt_M)
  obtain ⟨c7, i7, h7⟩ := u_known (C := "LinearCellsModel") (T := TQ_) (N := 59) hts inwQ_ (hts _ kt_Q)
  have pr : ∀ ty : FieldType, Cond.arrayClass ty ∈ lc_ALL → (∀ C, ty ≠ .object C) → ∃ cA, ArrOfT s cA ty ∧ va_RA s cA ty := by
    intro ty h hno
    obtain ⟨cc, k, comp, g1, g2, g3⟩ := Cond.arrayClass_spec (hts _ h)
    refine ⟨cc, fun n z => ⟨fun k h => (by cases h), k, g2, comp, g3⟩, ?_⟩
    cases ty <;> first | exact g1 | exact absurd rfl (hno _)
  obtain ⟨a0, ha0⟩ := pr .int ka_int (fun C h => by cases h)
  obtain ⟨a1, ha1⟩ := pr .boolean ka_boolean (fun C h => by cases h)
  obtain ⟨a2, ha2⟩ := pr .char ka_char (fun C h => by cases h)
  obtain ⟨a3, ha3⟩ := pr .long ka_long (fun C h => by cases h)
  have hov : (Cond.arrayOver (.object "LinearCells$Procedure")).before args s = true := hts1 _ kov_P
  obtain ⟨comp, a4, k4, g1, g2, g3, g4, g5⟩ := Cond.arrayOver_spec hov
  have ha4 : ArrOfT s a4 (.object "LinearCells$Procedure") ∧ va_RA s a4 (.object "LinearCells$Procedure") := ⟨fun n z => ⟨fun k h => (by cases h), k4, g3, comp, g4⟩, k4, comp, g3, g4, g1, g5⟩
  refine ⟨fun k => [c0, c1, c2, c3, c4, c5, c6, c7].getD k 0, fun k => [i0, i1, i2, i3, i4, i5, i6, i7].getD k (fun _ => 0), fun k => [a0, a1, a2, a3, a4].getD k 0, fun ad b0 => ⟨⟨fun k q hk => ?_, fun k q hk => ?_⟩, fun w hw => ?_, va_AO.of hov⟩⟩
  · have hlt : k < 8 := (List.getElem?_eq_some_iff.mp hk).1
    match k, hlt, hk with
    | 0, _, hk => cases hk; exact h0
    | 1, _, hk => cases hk; exact h1
    | 2, _, hk => cases hk; exact h2
    | 3, _, hk => cases hk; exact h3
    | 4, _, hk => cases hk; exact h4
    | 5, _, hk => cases hk; exact h5
    | 6, _, hk => cases hk; exact h6
    | 7, _, hk => cases hk; exact h7
  · have hlt : k < 5 := (List.getElem?_eq_some_iff.mp hk).1
    match k, hlt, hk with
    | 0, _, hk => cases hk; exact ha0
    | 1, _, hk => cases hk; exact ha1
    | 2, _, hk => cases hk; exact ha2
    | 3, _, hk => cases hk; exact ha3
    | 4, _, hk => cases hk; exact ha4
  · exact va_Nw.of (lc_NW_tab w hw) (hts1 w (lc_NW_in w hw))
theorem lc_T0 {s : State} {args : Array Value} {G : lc_G} (hts1 : ∀ w ∈ lw_tbl, w.before args s = true) (hgv : (Jvm.Cond.and given_1 narrow_1).before args s = true) (hb0 : G.2.2.2.2 = s.heap.size) : lc_T G s := by
  have hs := flat_of_before _ hgv
  refine ⟨fun w hw => ?_, fun w hw => ?_, fun q hq => ?_, va_Nc.of (hs (Cond.not (.castable "java/lang/UnsupportedOperationException" "java/lang/IllegalArgumentException")) (by decide +kernel))⟩
  · have h := hts1 w (lc_XA_in w hw)
    refine va_Nw.of ?_ h
    simp only [lc_XA, List.mem_cons, List.not_mem_nil, or_false] at hw
    rcases hw with rfl | rfl | rfl | rfl <;> rfl
  · have h := hts1 w (lc_XD_in w hw)
    refine va_Nw.of ?_ h
    simp only [lc_XD, List.mem_cons, List.not_mem_nil, or_false] at hw
    rcases hw with rfl | rfl | rfl <;> rfl
  · have h1 : (Cond.laysStatic Bundle.tN q.1 q.2).before args s = true := hts1 _ (lc_sts_in q hq)
    have h2 : (Cond.isRef (.static Bundle.tN q.1 q.2)).before args s = true := by
      simp only [lc_sts, List.mem_cons, List.not_mem_nil, or_false] at hq
      rcases hq with rfl | rfl
      · exact hs (Cond.isRef (.static "java/lang/Throwable" "UNASSIGNED_STACK" "[Ljava/lang/StackTraceElement;")) (by decide +kernel)
      · exact hs (Cond.isRef (.static "java/lang/Throwable" "SUPPRESSED_SENTINEL" "Ljava/util/List;")) (by decide +kernel)
    refine ⟨lc_ls #[] h1, lc_ir #[] h2, ?_⟩
    obtain ⟨c, k, i, fd, a, cell, hc, hi, hst, ha, hcell, -⟩ := Cond.laysStatic_spec h1
    exact ⟨c, k, i, fd, a, hi, ha, by rw [hb0]; exact (Array.getElem?_eq_some_iff.mp hcell).1⟩
theorem lc_z0i (c : Nat) (h1 : c ≠ 9) (h2 : c ≠ 12) (h3 : c ≠ 13) : (fun j => lcI lc_z0 c j) = fun _ => 0 := by
  funext j
  show (if c = 9 ∧ j = 4 then (3 : Int32) else if c = 12 then _ else if c = 13 then _ else 0) = 0
  rw [if_neg (fun h => h1 h.1), if_neg h2, if_neg h3]
theorem lc_z0n (c j : Nat) (h1 : c ≠ 1) (h3 : c ≠ 3) : lcR lc_z0 c j = none := by
  show (if c = 1 ∧ j = 3 then some 35 else if c = 3 ∧ j < 4 then some (44 + 9 * j) else none) = none
  rw [if_neg (fun h => h1 h.1), if_neg (fun h => h3 h.1)]
theorem lc_getmap (f : Nat → Nat) {n i : Nat} (h : i < n) : ((List.range n).map f).getD i 0 = f i := by
  rw [List.getD_eq_getElem?_getD, List.getElem?_map, List.getElem?_range h]; rfl
def lc_WG (G : lc_G) : va_W := [(lc_ad G 1, .inr (0, [.ref (lc_ad G 2), .int 0, .ref (lc_ad G 3), .ref (lc_ad G 35), .ref (lc_ad G 4), .ref (lc_ad G 8), .ref (lc_ad G 19)])), (lc_ad G 2, .inl (lc_cA G 2, 120, .inl (fun _ => 0))), (lc_ad G 3, .inl (lc_cA G 4, 4, .inr (.inr (.inr (.inr (va_up (va_up (va_up (va_up (fun _ => none) (0 : Int32).toNatClampNeg (some (lc_ad G 44))) (1 : Int32).toNatClampNeg (some (lc_ad G 53))) (2 : Int32).toNatClampNeg (some (lc_ad G 62))) (3 : Int32).toNatClampNeg (some (lc_ad G 71)))))))), (lc_ad G 35, .inr (1, [.int 0, .int 0, .ref (lc_ad G 36), .int 0, .int 0, .ref (lc_ad G 37), .ref (lc_ad G 38), .ref (lc_ad G 39), .ref (lc_ad G 40), .ref (lc_ad G 41), .ref (lc_ad G 42), .int 0, .ref (lc_ad G 43), .int 0])), (lc_ad G 36, .inl (lc_cA G 0, 62, .inl (fun _ => 0))), (lc_ad G 37, .inl (lc_cA G 0, 120, .inl (fun _ => 0))), (lc_ad G 38, .inl (lc_cA G 0, 120, .inl (fun _ => 0))), (lc_ad G 39, .inl (lc_cA G 0, 120, .inl (fun _ => 0))), (lc_ad G 40, .inl (lc_cA G 0, 120, .inl (fun _ => 0))), (lc_ad G 41, .inl (lc_cA G 0, 120, .inl (fun _ => 0))), (lc_ad G 42, .inl (lc_cA G 0, 120, .inl (fun _ => 0))), (lc_ad G 43, .inl (lc_cA G 0, 24, .inl (fun _ => 0))), (lc_ad G 4, .inr (2, [.null, .int 0, .int 0, .null, .int 0, .ref (lc_ad G 5), .ref (lc_ad G 6), .ref (lc_ad G 7), .int 0])), (lc_ad G 5, .inl (lc_cA G 0, 33, .inl (fun _ => 0))), (lc_ad G 6, .inl (lc_cA G 0, 33, .inl (fun _ => 0))), (lc_ad G 7, .inl (lc_cA G 0, 33, .inl (fun _ => 0))), (lc_ad G 8, .inr (4, [.ref (lc_ad G 9), .ref (lc_ad G 15), .ref (lc_ad G 16), .int 0, .null, .ref (lc_ad G 17), .ref (lc_ad G 18)])), (lc_ad G 9, .inr (3, [.ref (lc_ad G 10), .ref (lc_ad G 11), .ref (lc_ad G 12), .ref (lc_ad G 13), .int 3, .ref (lc_ad G 14)])), (lc_ad G 10, .inl (lc_cA G 0, 243, .inl (fun _ => 0))), (lc_ad G 11, .inl (lc_cA G 0, 243, .inl (fun _ => 0))), (lc_ad G 12, .inl (lc_cA G 0, 243, .inl (upd (upd (fun _ => 0) (1 : Int32).toNatClampNeg 1) (2 : Int32).toNatClampNeg 2))), (lc_ad G 13, .inl (lc_cA G 1, 243, .inl (upd (fun _ => 0) (2 : Int32).toNatClampNeg (vp_nar .boolean 1)))), (lc_ad G 14, .inl (lc_cA G 0, 5, .inl (fun _ => 0))), (lc_ad G 15, .inl (lc_cA G 0, 4, .inl (fun _ => 0))), (lc_ad G 16, .inl (lc_cA G 0, 4, .inl (fun _ => 0))), (lc_ad G 17, .inl (lc_cA G 0, 120, .inl (fun _ => 0))), (lc_ad G 18, .inl (lc_cA G 0, 120, .inl (fun _ => 0))), (lc_ad G 19, .inr (6, [.ref (lc_ad G 20), .null, .int 0, .int 0, .long 0, .ref (lc_ad G 29), .ref (lc_ad G 30), .ref (lc_ad G 31), .ref (lc_ad G 32), .ref (lc_ad G 33), .ref (lc_ad G 34), .int 0])), (lc_ad G 20, .inr (5, [.ref (lc_ad G 21), .ref (lc_ad G 22), .int 0, .int 0, .ref (lc_ad G 23), .ref (lc_ad G 24), .ref (lc_ad G 25), .ref (lc_ad G 26), .ref (lc_ad G 27), .ref (lc_ad G 28), .int 0])), (lc_ad G 21, .inl (lc_cA G 1, 12, .inl (fun _ => 0))), (lc_ad G 22, .inl (lc_cA G 0, 12, .inl (fun _ => 0))), (lc_ad G 23, .inl (lc_cA G 3, 120, .inr (.inl (fun _ => 0)))), (lc_ad G 24, .inl (lc_cA G 3, 120, .inr (.inl (fun _ => 0)))), (lc_ad G 25, .inl (lc_cA G 0, 120, .inl (fun _ => 0))), (lc_ad G 26, .inl (lc_cA G 0, 120, .inl (fun _ => 0))), (lc_ad G 27, .inl (lc_cA G 1, 120, .inl (fun _ => 0))), (lc_ad G 28, .inl (lc_cA G 0, 120, .inl (fun _ => 0))), (lc_ad G 29, .inl (lc_cA G 4, 25, .inr (.inr (.inr (.inr (fun _ => none)))))), (lc_ad G 30, .inl (lc_cA G 3, 600, .inr (.inl (fun _ => 0)))), (lc_ad G 31, .inl (lc_cA G 0, 408, .inl (fun _ => 0))), (lc_ad G 32, .inl (lc_cA G 0, 408, .inl (fun _ => 0))), (lc_ad G 33, .inl (lc_cA G 0, 408, .inl (fun _ => 0))), (lc_ad G 34, .inl (lc_cA G 3, 408, .inr (.inl (fun _ => 0)))), (lc_ad G 44, .inr (1, [.int 0, .int 0, .ref (lc_ad G 45), .int 0, .int 0, .ref (lc_ad G 46), .ref (lc_ad G 47), .ref (lc_ad G 48), .ref (lc_ad G 49), .ref (lc_ad G 50), .ref (lc_ad G 51), .int 0, .ref (lc_ad G 52), .int 0])), (lc_ad G 45, .inl (lc_cA G 0, 62, .inl (fun _ => 0))), (lc_ad G 46, .inl (lc_cA G 0, 120, .inl (fun _ => 0))), (lc_ad G 47, .inl (lc_cA G 0, 120, .inl (fun _ => 0))), (lc_ad G 48, .inl (lc_cA G 0, 120, .inl (fun _ => 0))), (lc_ad G 49, .inl (lc_cA G 0, 120, .inl (fun _ => 0))), (lc_ad G 50, .inl (lc_cA G 0, 120, .inl (fun _ => 0))), (lc_ad G 51, .inl (lc_cA G 0, 120, .inl (fun _ => 0))), (lc_ad G 52, .inl (lc_cA G 0, 24, .inl (fun _ => 0))), (lc_ad G 53, .inr (1, [.int 0, .int 0, .ref (lc_ad G 54), .int 0, .int 0, .ref (lc_ad G 55), .ref (lc_ad G 56), .ref (lc_ad G 57), .ref (lc_ad G 58), .ref (lc_ad G 59), .ref (lc_ad G 60), .int 0, .ref (lc_ad G 61), .int 0])), (lc_ad G 54, .inl (lc_cA G 0, 62, .inl (fun _ => 0))), (lc_ad G 55, .inl (lc_cA G 0, 120, .inl (fun _ => 0))), (lc_ad G 56, .inl (lc_cA G 0, 120, .inl (fun _ => 0))), (lc_ad G 57, .inl (lc_cA G 0, 120, .inl (fun _ => 0))), (lc_ad G 58, .inl (lc_cA G 0, 120, .inl (fun _ => 0))), (lc_ad G 59, .inl (lc_cA G 0, 120, .inl (fun _ => 0))), (lc_ad G 60, .inl (lc_cA G 0, 120, .inl (fun _ => 0))), (lc_ad G 61, .inl (lc_cA G 0, 24, .inl (fun _ => 0))), (lc_ad G 62, .inr (1, [.int 0, .int 0, .ref (lc_ad G 63), .int 0, .int 0, .ref (lc_ad G 64), .ref (lc_ad G 65), .ref (lc_ad G 66), .ref (lc_ad G 67), .ref (lc_ad G 68), .ref (lc_ad G 69), .int 0, .ref (lc_ad G 70), .int 0])), (lc_ad G 63, .inl (lc_cA G 0, 62, .inl (fun _ => 0))), (lc_ad G 64, .inl (lc_cA G 0, 120, .inl (fun _ => 0))), (lc_ad G 65, .inl (lc_cA G 0, 120, .inl (fun _ => 0))), (lc_ad G 66, .inl (lc_cA G 0, 120, .inl (fun _ => 0))), (lc_ad G 67, .inl (lc_cA G 0, 120, .inl (fun _ => 0))), (lc_ad G 68, .inl (lc_cA G 0, 120, .inl (fun _ => 0))), (lc_ad G 69, .inl (lc_cA G 0, 120, .inl (fun _ => 0))), (lc_ad G 70, .inl (lc_cA G 0, 24, .inl (fun _ => 0))), (lc_ad G 71, .inr (1, [.int 0, .int 0, .ref (lc_ad G 72), .int 0, .int 0, .ref (lc_ad G 73), .ref (lc_ad G 74), .ref (lc_ad G 75), .ref (lc_ad G 76), .ref (lc_ad G 77), .ref (lc_ad G 78), .int 0, .ref (lc_ad G 79), .int 0])), (lc_ad G 72, .inl (lc_cA G 0, 62, .inl (fun _ => 0))), (lc_ad G 73, .inl (lc_cA G 0, 120, .inl (fun _ => 0))), (lc_ad G 74, .inl (lc_cA G 0, 120, .inl (fun _ => 0))), (lc_ad G 75, .inl (lc_cA G 0, 120, .inl (fun _ => 0))), (lc_ad G 76, .inl (lc_cA G 0, 120, .inl (fun _ => 0))), (lc_ad G 77, .inl (lc_cA G 0, 120, .inl (fun _ => 0))), (lc_ad G 78, .inl (lc_cA G 0, 120, .inl (fun _ => 0))), (lc_ad G 79, .inl (lc_cA G 0, 24, .inl (fun _ => 0))), (lc_ad G 80, .inr (7, [.int 0, .int 0, .ref (lc_ad G 81), .ref (lc_ad G 82), .ref (lc_ad G 83), .ref (lc_ad G 84), .ref (lc_ad G 85), .ref (lc_ad G 86), .ref (lc_ad G 87), .ref (lc_ad G 88), .ref (lc_ad G 89), .ref (lc_ad G 90), .ref (lc_ad G 91), .int 0, .int 0, .int 0, .int 0, .ref (lc_ad G 92), .ref (lc_ad G 93), .int 0, .ref (lc_ad G 94), .ref (lc_ad G 95), .ref (lc_ad G 96), .int 0, .ref (lc_ad G 97), .int 0, .ref (lc_ad G 98), .ref (lc_ad G 99), .ref (lc_ad G 100), .ref (lc_ad G 101), .ref (lc_ad G 102), .ref (lc_ad G 103), .ref (lc_ad G 104), .int 0, .ref (lc_ad G 105), .ref (lc_ad G 106), .ref (lc_ad G 107), .ref (lc_ad G 108), .ref (lc_ad G 109), .ref (lc_ad G 110), .int 0, .ref (lc_ad G 111), .ref (lc_ad G 112), .ref (lc_ad G 113), .ref (lc_ad G 114), .int 0, .int 0, .long 0, .int 0, .int 0, .int 0, .ref (lc_ad G 115), .ref (lc_ad G 116), .int 0, .ref (lc_ad G 117), .ref (lc_ad G 118), .ref (lc_ad G 119), .ref (lc_ad G 120), .ref (lc_ad G 121)])), (lc_ad G 81, .inl (lc_cA G 0, 120, .inl (fun _ => 0))), (lc_ad G 82, .inl (lc_cA G 0, 600, .inl (fun _ => 0))), (lc_ad G 83, .inl (lc_cA G 0, 600, .inl (fun _ => 0))), (lc_ad G 84, .inl (lc_cA G 0, 600, .inl (fun _ => 0))), (lc_ad G 85, .inl (lc_cA G 0, 600, .inl (fun _ => 0))), (lc_ad G 86, .inl (lc_cA G 0, 600, .inl (fun _ => 0))), (lc_ad G 87, .inl (lc_cA G 0, 600, .inl (fun _ => 0))), (lc_ad G 88, .inl (lc_cA G 1, 600, .inl (fun _ => 0))), (lc_ad G 89, .inl (lc_cA G 0, 5, .inl (fun _ => 0))), (lc_ad G 90, .inl (lc_cA G 0, 600, .inl (fun _ => 0))), (lc_ad G 91, .inl (lc_cA G 0, 600, .inl (fun _ => 0))), (lc_ad G 92, .inl (lc_cA G 0, 24, .inl (fun _ => 0))), (lc_ad G 93, .inl (lc_cA G 0, 24, .inl (fun _ => 0))), (lc_ad G 94, .inl (lc_cA G 0, 64, .inl (fun _ => 0))), (lc_ad G 95, .inl (lc_cA G 0, 64, .inl (fun _ => 0))), (lc_ad G 96, .inl (lc_cA G 1, 64, .inl (fun _ => 0))), (lc_ad G 97, .inl (lc_cA G 0, 128, .inl (fun _ => 0))), (lc_ad G 98, .inl (lc_cA G 0, 340, .inl (fun _ => 0))), (lc_ad G 99, .inl (lc_cA G 0, 340, .inl (fun _ => 0))), (lc_ad G 100, .inl (lc_cA G 0, 120, .inl (fun _ => 0))), (lc_ad G 101, .inl (lc_cA G 0, 4, .inl (fun _ => 0))), (lc_ad G 102, .inl (lc_cA G 0, 4, .inl (fun _ => 0))), (lc_ad G 103, .inl (lc_cA G 0, 120, .inl (fun _ => 0))), (lc_ad G 104, .inl (lc_cA G 0, 120, .inl (fun _ => 0))), (lc_ad G 105, .inl (lc_cA G 0, 430, .inl (fun _ => 0))), (lc_ad G 106, .inl (lc_cA G 0, 430, .inl (fun _ => 0))), (lc_ad G 107, .inl (lc_cA G 0, 430, .inl (fun _ => 0))), (lc_ad G 108, .inl (lc_cA G 0, 430, .inl (fun _ => 0))), (lc_ad G 109, .inl (lc_cA G 0, 430, .inl (fun _ => 0))), (lc_ad G 110, .inl (lc_cA G 3, 430, .inr (.inl (fun _ => 0)))), (lc_ad G 111, .inl (lc_cA G 0, 2100, .inl (fun _ => 0))), (lc_ad G 112, .inl (lc_cA G 1, 2100, .inl (fun _ => 0))), (lc_ad G 113, .inl (lc_cA G 3, 2100, .inr (.inl (fun _ => 0)))), (lc_ad G 114, .inl (lc_cA G 0, 2100, .inl (fun _ => 0))), (lc_ad G 115, .inl (lc_cA G 1, 12, .inl (fun _ => 0))), (lc_ad G 116, .inl (lc_cA G 0, 12, .inl (fun _ => 0))), (lc_ad G 117, .inl (lc_cA G 3, 120, .inr (.inl (fun _ => 0)))), (lc_ad G 118, .inl (lc_cA G 3, 120, .inr (.inl (fun _ => 0)))), (lc_ad G 119, .inl (lc_cA G 0, 130, .inl (fun _ => 0))), (lc_ad G 120, .inl (lc_cA G 1, 340, .inl (fun _ => 0))), (lc_ad G 121, .inl (lc_cA G 0, 340, .inl (fun _ => 0))), (lc_ad G 0, .inl (lc_cA G 3, 1, .inr (.inl (fun _ => 0))))]
theorem lc_e3 (ad : Nat → Nat) : (fun j => (lcR lc_z0 3 j).map ad) = va_up (va_up (va_up (va_up (fun _ => none) (0 : Int32).toNatClampNeg (some (ad 44))) (1 : Int32).toNatClampNeg (some (ad 53))) (2 : Int32).toNatClampNeg (some (ad 62))) (3 : Int32).toNatClampNeg (some (ad 71)) := by
  funext j
  match j with
  | 0 => rfl
  | 1 => rfl
  | 2 => rfl
  | 3 => rfl
  | j + 4 =>
    have h1 : lcR lc_z0 3 (j + 4) = none := by
      show (if 3 = 1 ∧ j + 4 = 3 then some 35 else if 3 = 3 ∧ j + 4 < 4 then some (44 + 9 * (j + 4)) else none) = none
      rw [if_neg (by omega), if_neg (by omega)]
    rw [h1]
    rfl
set_option maxRecDepth 100000 in
theorem lc_k0 {G : lc_G} {H : Heap} (hP : va_P (lc_D G) lc_cl (lc_WG G) H) : va_at (lc_D G) lc_cl (lc_ad G 0, lc_ct G lc_z0 0) H := by
  rw [lc_ct_long lc_h0]; exact hP 121 _ rfl
set_option maxRecDepth 100000 in
theorem lc_f1 (G : lc_G) : lc_fs G lc_z0 1 0 = [.ref (lc_ad G 2), .int 0, .ref (lc_ad G 3), .ref (lc_ad G 35), .ref (lc_ad G 4), .ref (lc_ad G 8), .ref (lc_ad G 19)] := rfl
set_option maxRecDepth 100000 in
theorem lc_k1 {G : lc_G} {H : Heap} (hP : va_P (lc_D G) lc_cl (lc_WG G) H) : va_at (lc_D G) lc_cl (lc_ad G 1, lc_ct G lc_z0 1) H := by
  rw [lc_ct_obj lc_h1, lc_f1]; exact hP 0 _ rfl
set_option maxRecDepth 100000 in
theorem lc_k2 {G : lc_G} {H : Heap} (hP : va_P (lc_D G) lc_cl (lc_WG G) H) : va_at (lc_D G) lc_cl (lc_ad G 2, lc_ct G lc_z0 2) H := by
  rw [lc_ct_int lc_h2, lc_z0i 2 (by decide) (by decide) (by decide)]; exact hP 1 _ rfl
set_option maxRecDepth 100000 in
theorem lc_k3 {G : lc_G} {H : Heap} (hP : va_P (lc_D G) lc_cl (lc_WG G) H) : va_at (lc_D G) lc_cl (lc_ad G 3, lc_ct G lc_z0 3) H := by
  rw [lc_ct_ref lc_h3, lc_e3]; exact hP 2 _ rfl
set_option maxRecDepth 100000 in
theorem lc_f4 (G : lc_G) : lc_fs G lc_z0 4 2 = [.null, .int 0, .int 0, .null, .int 0, .ref (lc_ad G 5), .ref (lc_ad G 6), .ref (lc_ad G 7), .int 0] := rfl
set_option maxRecDepth 100000 in
theorem lc_k4 {G : lc_G} {H : Heap} (hP : va_P (lc_D G) lc_cl (lc_WG G) H) : va_at (lc_D G) lc_cl (lc_ad G 4, lc_ct G lc_z0 4) H := by
  rw [lc_ct_obj lc_h4, lc_f4]; exact hP 12 _ rfl
set_option maxRecDepth 100000 in
theorem lc_k5 {G : lc_G} {H : Heap} (hP : va_P (lc_D G) lc_cl (lc_WG G) H) : va_at (lc_D G) lc_cl (lc_ad G 5, lc_ct G lc_z0 5) H := by
  rw [lc_ct_int lc_h5, lc_z0i 5 (by decide) (by decide) (by decide)]; exact hP 13 _ rfl
set_option maxRecDepth 100000 in
theorem lc_k6 {G : lc_G} {H : Heap} (hP : va_P (lc_D G) lc_cl (lc_WG G) H) : va_at (lc_D G) lc_cl (lc_ad G 6, lc_ct G lc_z0 6) H := by
  rw [lc_ct_int lc_h6, lc_z0i 6 (by decide) (by decide) (by decide)]; exact hP 14 _ rfl
set_option maxRecDepth 100000 in
theorem lc_k7 {G : lc_G} {H : Heap} (hP : va_P (lc_D G) lc_cl (lc_WG G) H) : va_at (lc_D G) lc_cl (lc_ad G 7, lc_ct G lc_z0 7) H := by
  rw [lc_ct_int lc_h7, lc_z0i 7 (by decide) (by decide) (by decide)]; exact hP 15 _ rfl
set_option maxRecDepth 100000 in
theorem lc_f8 (G : lc_G) : lc_fs G lc_z0 8 4 = [.ref (lc_ad G 9), .ref (lc_ad G 15), .ref (lc_ad G 16), .int 0, .null, .ref (lc_ad G 17), .ref (lc_ad G 18)] := rfl
set_option maxRecDepth 100000 in
theorem lc_k8 {G : lc_G} {H : Heap} (hP : va_P (lc_D G) lc_cl (lc_WG G) H) : va_at (lc_D G) lc_cl (lc_ad G 8, lc_ct G lc_z0 8) H := by
  rw [lc_ct_obj lc_h8, lc_f8]; exact hP 16 _ rfl
set_option maxRecDepth 100000 in
theorem lc_f9 (G : lc_G) : lc_fs G lc_z0 9 3 = [.ref (lc_ad G 10), .ref (lc_ad G 11), .ref (lc_ad G 12), .ref (lc_ad G 13), .int 3, .ref (lc_ad G 14)] := rfl
set_option maxRecDepth 100000 in
theorem lc_k9 {G : lc_G} {H : Heap} (hP : va_P (lc_D G) lc_cl (lc_WG G) H) : va_at (lc_D G) lc_cl (lc_ad G 9, lc_ct G lc_z0 9) H := by
  rw [lc_ct_obj lc_h9, lc_f9]; exact hP 17 _ rfl
set_option maxRecDepth 100000 in
theorem lc_k10 {G : lc_G} {H : Heap} (hP : va_P (lc_D G) lc_cl (lc_WG G) H) : va_at (lc_D G) lc_cl (lc_ad G 10, lc_ct G lc_z0 10) H := by
  rw [lc_ct_int lc_h10, lc_z0i 10 (by decide) (by decide) (by decide)]; exact hP 18 _ rfl
set_option maxRecDepth 100000 in
theorem lc_k11 {G : lc_G} {H : Heap} (hP : va_P (lc_D G) lc_cl (lc_WG G) H) : va_at (lc_D G) lc_cl (lc_ad G 11, lc_ct G lc_z0 11) H := by
  rw [lc_ct_int lc_h11, lc_z0i 11 (by decide) (by decide) (by decide)]; exact hP 19 _ rfl
set_option maxRecDepth 100000 in
theorem lc_k12 {G : lc_G} {H : Heap} (hP : va_P (lc_D G) lc_cl (lc_WG G) H) : va_at (lc_D G) lc_cl (lc_ad G 12, lc_ct G lc_z0 12) H := by
  rw [lc_ct_int lc_h12]; exact hP 20 _ rfl
set_option maxRecDepth 100000 in
theorem lc_k13 {G : lc_G} {H : Heap} (hP : va_P (lc_D G) lc_cl (lc_WG G) H) : va_at (lc_D G) lc_cl (lc_ad G 13, lc_ct G lc_z0 13) H := by
  rw [lc_ct_int lc_h13]; exact hP 21 _ rfl
set_option maxRecDepth 100000 in
theorem lc_k14 {G : lc_G} {H : Heap} (hP : va_P (lc_D G) lc_cl (lc_WG G) H) : va_at (lc_D G) lc_cl (lc_ad G 14, lc_ct G lc_z0 14) H := by
  rw [lc_ct_int lc_h14, lc_z0i 14 (by decide) (by decide) (by decide)]; exact hP 22 _ rfl
set_option maxRecDepth 100000 in
theorem lc_k15 {G : lc_G} {H : Heap} (hP : va_P (lc_D G) lc_cl (lc_WG G) H) : va_at (lc_D G) lc_cl (lc_ad G 15, lc_ct G lc_z0 15) H := by
  rw [lc_ct_int lc_h15, lc_z0i 15 (by decide) (by decide) (by decide)]; exact hP 23 _ rfl
set_option maxRecDepth 100000 in
theorem lc_k16 {G : lc_G} {H : Heap} (hP : va_P (lc_D G) lc_cl (lc_WG G) H) : va_at (lc_D G) lc_cl (lc_ad G 16, lc_ct G lc_z0 16) H := by
  rw [lc_ct_int lc_h16, lc_z0i 16 (by decide) (by decide) (by decide)]; exact hP 24 _ rfl
set_option maxRecDepth 100000 in
theorem lc_k17 {G : lc_G} {H : Heap} (hP : va_P (lc_D G) lc_cl (lc_WG G) H) : va_at (lc_D G) lc_cl (lc_ad G 17, lc_ct G lc_z0 17) H := by
  rw [lc_ct_int lc_h17, lc_z0i 17 (by decide) (by decide) (by decide)]; exact hP 25 _ rfl
set_option maxRecDepth 100000 in
theorem lc_k18 {G : lc_G} {H : Heap} (hP : va_P (lc_D G) lc_cl (lc_WG G) H) : va_at (lc_D G) lc_cl (lc_ad G 18, lc_ct G lc_z0 18) H := by
  rw [lc_ct_int lc_h18, lc_z0i 18 (by decide) (by decide) (by decide)]; exact hP 26 _ rfl
set_option maxRecDepth 100000 in
theorem lc_f19 (G : lc_G) : lc_fs G lc_z0 19 6 = [.ref (lc_ad G 20), .null, .int 0, .int 0, .long 0, .ref (lc_ad G 29), .ref (lc_ad G 30), .ref (lc_ad G 31), .ref (lc_ad G 32), .ref (lc_ad G 33), .ref (lc_ad G 34), .int 0] := rfl
set_option maxRecDepth 100000 in
theorem lc_k19 {G : lc_G} {H : Heap} (hP : va_P (lc_D G) lc_cl (lc_WG G) H) : va_at (lc_D G) lc_cl (lc_ad G 19, lc_ct G lc_z0 19) H := by
  rw [lc_ct_obj lc_h19, lc_f19]; exact hP 27 _ rfl
set_option maxRecDepth 100000 in
theorem lc_f20 (G : lc_G) : lc_fs G lc_z0 20 5 = [.ref (lc_ad G 21), .ref (lc_ad G 22), .int 0, .int 0, .ref (lc_ad G 23), .ref (lc_ad G 24), .ref (lc_ad G 25), .ref (lc_ad G 26), .ref (lc_ad G 27), .ref (lc_ad G 28), .int 0] := rfl
set_option maxRecDepth 100000 in
theorem lc_k20 {G : lc_G} {H : Heap} (hP : va_P (lc_D G) lc_cl (lc_WG G) H) : va_at (lc_D G) lc_cl (lc_ad G 20, lc_ct G lc_z0 20) H := by
  rw [lc_ct_obj lc_h20, lc_f20]; exact hP 28 _ rfl
set_option maxRecDepth 100000 in
theorem lc_k21 {G : lc_G} {H : Heap} (hP : va_P (lc_D G) lc_cl (lc_WG G) H) : va_at (lc_D G) lc_cl (lc_ad G 21, lc_ct G lc_z0 21) H := by
  rw [lc_ct_int lc_h21, lc_z0i 21 (by decide) (by decide) (by decide)]; exact hP 29 _ rfl
set_option maxRecDepth 100000 in
theorem lc_k22 {G : lc_G} {H : Heap} (hP : va_P (lc_D G) lc_cl (lc_WG G) H) : va_at (lc_D G) lc_cl (lc_ad G 22, lc_ct G lc_z0 22) H := by
  rw [lc_ct_int lc_h22, lc_z0i 22 (by decide) (by decide) (by decide)]; exact hP 30 _ rfl
set_option maxRecDepth 100000 in
theorem lc_k23 {G : lc_G} {H : Heap} (hP : va_P (lc_D G) lc_cl (lc_WG G) H) : va_at (lc_D G) lc_cl (lc_ad G 23, lc_ct G lc_z0 23) H := by
  rw [lc_ct_long lc_h23]; exact hP 31 _ rfl
set_option maxRecDepth 100000 in
theorem lc_k24 {G : lc_G} {H : Heap} (hP : va_P (lc_D G) lc_cl (lc_WG G) H) : va_at (lc_D G) lc_cl (lc_ad G 24, lc_ct G lc_z0 24) H := by
  rw [lc_ct_long lc_h24]; exact hP 32 _ rfl
set_option maxRecDepth 100000 in
theorem lc_k25 {G : lc_G} {H : Heap} (hP : va_P (lc_D G) lc_cl (lc_WG G) H) : va_at (lc_D G) lc_cl (lc_ad G 25, lc_ct G lc_z0 25) H := by
  rw [lc_ct_int lc_h25, lc_z0i 25 (by decide) (by decide) (by decide)]; exact hP 33 _ rfl
set_option maxRecDepth 100000 in
theorem lc_k26 {G : lc_G} {H : Heap} (hP : va_P (lc_D G) lc_cl (lc_WG G) H) : va_at (lc_D G) lc_cl (lc_ad G 26, lc_ct G lc_z0 26) H := by
  rw [lc_ct_int lc_h26, lc_z0i 26 (by decide) (by decide) (by decide)]; exact hP 34 _ rfl
set_option maxRecDepth 100000 in
theorem lc_k27 {G : lc_G} {H : Heap} (hP : va_P (lc_D G) lc_cl (lc_WG G) H) : va_at (lc_D G) lc_cl (lc_ad G 27, lc_ct G lc_z0 27) H := by
  rw [lc_ct_int lc_h27, lc_z0i 27 (by decide) (by decide) (by decide)]; exact hP 35 _ rfl
set_option maxRecDepth 100000 in
theorem lc_k28 {G : lc_G} {H : Heap} (hP : va_P (lc_D G) lc_cl (lc_WG G) H) : va_at (lc_D G) lc_cl (lc_ad G 28, lc_ct G lc_z0 28) H := by
  rw [lc_ct_int lc_h28, lc_z0i 28 (by decide) (by decide) (by decide)]; exact hP 36 _ rfl
set_option maxRecDepth 100000 in
theorem lc_k29 {G : lc_G} {H : Heap} (hP : va_P (lc_D G) lc_cl (lc_WG G) H) : va_at (lc_D G) lc_cl (lc_ad G 29, lc_ct G lc_z0 29) H := by
  rw [lc_ct_ref lc_h29, show (fun j => (lcR lc_z0 29 j).map (lc_ad G)) = fun _ => none from funext (fun j => by rw [lc_z0n 29 j (by decide) (by decide)]; rfl)]; exact hP 37 _ rfl
set_option maxRecDepth 100000 in
theorem lc_k30 {G : lc_G} {H : Heap} (hP : va_P (lc_D G) lc_cl (lc_WG G) H) : va_at (lc_D G) lc_cl (lc_ad G 30, lc_ct G lc_z0 30) H := by
  rw [lc_ct_long lc_h30]; exact hP 38 _ rfl
set_option maxRecDepth 100000 in
theorem lc_k31 {G : lc_G} {H : Heap} (hP : va_P (lc_D G) lc_cl (lc_WG G) H) : va_at (lc_D G) lc_cl (lc_ad G 31, lc_ct G lc_z0 31) H := by
  rw [lc_ct_int lc_h31, lc_z0i 31 (by decide) (by decide) (by decide)]; exact hP 39 _ rfl
set_option maxRecDepth 100000 in
theorem lc_k32 {G : lc_G} {H : Heap} (hP : va_P (lc_D G) lc_cl (lc_WG G) H) : va_at (lc_D G) lc_cl (lc_ad G 32, lc_ct G lc_z0 32) H := by
  rw [lc_ct_int lc_h32, lc_z0i 32 (by decide) (by decide) (by decide)]; exact hP 40 _ rfl
set_option maxRecDepth 100000 in
theorem lc_k33 {G : lc_G} {H : Heap} (hP : va_P (lc_D G) lc_cl (lc_WG G) H) : va_at (lc_D G) lc_cl (lc_ad G 33, lc_ct G lc_z0 33) H := by
  rw [lc_ct_int lc_h33, lc_z0i 33 (by decide) (by decide) (by decide)]; exact hP 41 _ rfl
set_option maxRecDepth 100000 in
theorem lc_k34 {G : lc_G} {H : Heap} (hP : va_P (lc_D G) lc_cl (lc_WG G) H) : va_at (lc_D G) lc_cl (lc_ad G 34, lc_ct G lc_z0 34) H := by
  rw [lc_ct_long lc_h34]; exact hP 42 _ rfl
set_option maxRecDepth 100000 in
theorem lc_f35 (G : lc_G) : lc_fs G lc_z0 35 1 = [.int 0, .int 0, .ref (lc_ad G 36), .int 0, .int 0, .ref (lc_ad G 37), .ref (lc_ad G 38), .ref (lc_ad G 39), .ref (lc_ad G 40), .ref (lc_ad G 41), .ref (lc_ad G 42), .int 0, .ref (lc_ad G 43), .int 0] := rfl
set_option maxRecDepth 100000 in
theorem lc_k35 {G : lc_G} {H : Heap} (hP : va_P (lc_D G) lc_cl (lc_WG G) H) : va_at (lc_D G) lc_cl (lc_ad G 35, lc_ct G lc_z0 35) H := by
  rw [lc_ct_obj lc_h35, lc_f35]; exact hP 3 _ rfl
set_option maxRecDepth 100000 in
theorem lc_k36 {G : lc_G} {H : Heap} (hP : va_P (lc_D G) lc_cl (lc_WG G) H) : va_at (lc_D G) lc_cl (lc_ad G 36, lc_ct G lc_z0 36) H := by
  rw [lc_ct_int lc_h36, lc_z0i 36 (by decide) (by decide) (by decide)]; exact hP 4 _ rfl
set_option maxRecDepth 100000 in
theorem lc_k37 {G : lc_G} {H : Heap} (hP : va_P (lc_D G) lc_cl (lc_WG G) H) : va_at (lc_D G) lc_cl (lc_ad G 37, lc_ct G lc_z0 37) H := by
  rw [lc_ct_int lc_h37, lc_z0i 37 (by decide) (by decide) (by decide)]; exact hP 5 _ rfl
set_option maxRecDepth 100000 in
theorem lc_k38 {G : lc_G} {H : Heap} (hP : va_P (lc_D G) lc_cl (lc_WG G) H) : va_at (lc_D G) lc_cl (lc_ad G 38, lc_ct G lc_z0 38) H := by
  rw [lc_ct_int lc_h38, lc_z0i 38 (by decide) (by decide) (by decide)]; exact hP 6 _ rfl
set_option maxRecDepth 100000 in
theorem lc_k39 {G : lc_G} {H : Heap} (hP : va_P (lc_D G) lc_cl (lc_WG G) H) : va_at (lc_D G) lc_cl (lc_ad G 39, lc_ct G lc_z0 39) H := by
  rw [lc_ct_int lc_h39, lc_z0i 39 (by decide) (by decide) (by decide)]; exact hP 7 _ rfl
set_option maxRecDepth 100000 in
theorem lc_k40 {G : lc_G} {H : Heap} (hP : va_P (lc_D G) lc_cl (lc_WG G) H) : va_at (lc_D G) lc_cl (lc_ad G 40, lc_ct G lc_z0 40) H := by
  rw [lc_ct_int lc_h40, lc_z0i 40 (by decide) (by decide) (by decide)]; exact hP 8 _ rfl
set_option maxRecDepth 100000 in
theorem lc_k41 {G : lc_G} {H : Heap} (hP : va_P (lc_D G) lc_cl (lc_WG G) H) : va_at (lc_D G) lc_cl (lc_ad G 41, lc_ct G lc_z0 41) H := by
  rw [lc_ct_int lc_h41, lc_z0i 41 (by decide) (by decide) (by decide)]; exact hP 9 _ rfl
set_option maxRecDepth 100000 in
theorem lc_k42 {G : lc_G} {H : Heap} (hP : va_P (lc_D G) lc_cl (lc_WG G) H) : va_at (lc_D G) lc_cl (lc_ad G 42, lc_ct G lc_z0 42) H := by
  rw [lc_ct_int lc_h42, lc_z0i 42 (by decide) (by decide) (by decide)]; exact hP 10 _ rfl
set_option maxRecDepth 100000 in
theorem lc_k43 {G : lc_G} {H : Heap} (hP : va_P (lc_D G) lc_cl (lc_WG G) H) : va_at (lc_D G) lc_cl (lc_ad G 43, lc_ct G lc_z0 43) H := by
  rw [lc_ct_int lc_h43, lc_z0i 43 (by decide) (by decide) (by decide)]; exact hP 11 _ rfl
set_option maxRecDepth 100000 in
theorem lc_f44 (G : lc_G) : lc_fs G lc_z0 44 1 = [.int 0, .int 0, .ref (lc_ad G 45), .int 0, .int 0, .ref (lc_ad G 46), .ref (lc_ad G 47), .ref (lc_ad G 48), .ref (lc_ad G 49), .ref (lc_ad G 50), .ref (lc_ad G 51), .int 0, .ref (lc_ad G 52), .int 0] := rfl
set_option maxRecDepth 100000 in
theorem lc_k44 {G : lc_G} {H : Heap} (hP : va_P (lc_D G) lc_cl (lc_WG G) H) : va_at (lc_D G) lc_cl (lc_ad G 44, lc_ct G lc_z0 44) H := by
  rw [lc_ct_obj lc_h44, lc_f44]; exact hP 43 _ rfl
set_option maxRecDepth 100000 in
theorem lc_k45 {G : lc_G} {H : Heap} (hP : va_P (lc_D G) lc_cl (lc_WG G) H) : va_at (lc_D G) lc_cl (lc_ad G 45, lc_ct G lc_z0 45) H := by
  rw [lc_ct_int lc_h45, lc_z0i 45 (by decide) (by decide) (by decide)]; exact hP 44 _ rfl
set_option maxRecDepth 100000 in
theorem lc_k46 {G : lc_G} {H : Heap} (hP : va_P (lc_D G) lc_cl (lc_WG G) H) : va_at (lc_D G) lc_cl (lc_ad G 46, lc_ct G lc_z0 46) H := by
  rw [lc_ct_int lc_h46, lc_z0i 46 (by decide) (by decide) (by decide)]; exact hP 45 _ rfl
set_option maxRecDepth 100000 in
theorem lc_k47 {G : lc_G} {H : Heap} (hP : va_P (lc_D G) lc_cl (lc_WG G) H) : va_at (lc_D G) lc_cl (lc_ad G 47, lc_ct G lc_z0 47) H := by
  rw [lc_ct_int lc_h47, lc_z0i 47 (by decide) (by decide) (by decide)]; exact hP 46 _ rfl
set_option maxRecDepth 100000 in
theorem lc_k48 {G : lc_G} {H : Heap} (hP : va_P (lc_D G) lc_cl (lc_WG G) H) : va_at (lc_D G) lc_cl (lc_ad G 48, lc_ct G lc_z0 48) H := by
  rw [lc_ct_int lc_h48, lc_z0i 48 (by decide) (by decide) (by decide)]; exact hP 47 _ rfl
set_option maxRecDepth 100000 in
theorem lc_k49 {G : lc_G} {H : Heap} (hP : va_P (lc_D G) lc_cl (lc_WG G) H) : va_at (lc_D G) lc_cl (lc_ad G 49, lc_ct G lc_z0 49) H := by
  rw [lc_ct_int lc_h49, lc_z0i 49 (by decide) (by decide) (by decide)]; exact hP 48 _ rfl
set_option maxRecDepth 100000 in
theorem lc_k50 {G : lc_G} {H : Heap} (hP : va_P (lc_D G) lc_cl (lc_WG G) H) : va_at (lc_D G) lc_cl (lc_ad G 50, lc_ct G lc_z0 50) H := by
  rw [lc_ct_int lc_h50, lc_z0i 50 (by decide) (by decide) (by decide)]; exact hP 49 _ rfl
set_option maxRecDepth 100000 in
theorem lc_k51 {G : lc_G} {H : Heap} (hP : va_P (lc_D G) lc_cl (lc_WG G) H) : va_at (lc_D G) lc_cl (lc_ad G 51, lc_ct G lc_z0 51) H := by
  rw [lc_ct_int lc_h51, lc_z0i 51 (by decide) (by decide) (by decide)]; exact hP 50 _ rfl
set_option maxRecDepth 100000 in
theorem lc_k52 {G : lc_G} {H : Heap} (hP : va_P (lc_D G) lc_cl (lc_WG G) H) : va_at (lc_D G) lc_cl (lc_ad G 52, lc_ct G lc_z0 52) H := by
  rw [lc_ct_int lc_h52, lc_z0i 52 (by decide) (by decide) (by decide)]; exact hP 51 _ rfl
set_option maxRecDepth 100000 in
theorem lc_f53 (G : lc_G) : lc_fs G lc_z0 53 1 = [.int 0, .int 0, .ref (lc_ad G 54), .int 0, .int 0, .ref (lc_ad G 55), .ref (lc_ad G 56), .ref (lc_ad G 57), .ref (lc_ad G 58), .ref (lc_ad G 59), .ref (lc_ad G 60), .int 0, .ref (lc_ad G 61), .int 0] := rfl
set_option maxRecDepth 100000 in
theorem lc_k53 {G : lc_G} {H : Heap} (hP : va_P (lc_D G) lc_cl (lc_WG G) H) : va_at (lc_D G) lc_cl (lc_ad G 53, lc_ct G lc_z0 53) H := by
  rw [lc_ct_obj lc_h53, lc_f53]; exact hP 52 _ rfl
set_option maxRecDepth 100000 in
theorem lc_k54 {G : lc_G} {H : Heap} (hP : va_P (lc_D G) lc_cl (lc_WG G) H) : va_at (lc_D G) lc_cl (lc_ad G 54, lc_ct G lc_z0 54) H := by
  rw [lc_ct_int lc_h54, lc_z0i 54 (by decide) (by decide) (by decide)]; exact hP 53 _ rfl
set_option maxRecDepth 100000 in
theorem lc_k55 {G : lc_G} {H : Heap} (hP : va_P (lc_D G) lc_cl (lc_WG G) H) : va_at (lc_D G) lc_cl (lc_ad G 55, lc_ct G lc_z0 55) H := by
  rw [lc_ct_int lc_h55, lc_z0i 55 (by decide) (by decide) (by decide)]; exact hP 54 _ rfl
set_option maxRecDepth 100000 in
theorem lc_k56 {G : lc_G} {H : Heap} (hP : va_P (lc_D G) lc_cl (lc_WG G) H) : va_at (lc_D G) lc_cl (lc_ad G 56, lc_ct G lc_z0 56) H := by
  rw [lc_ct_int lc_h56, lc_z0i 56 (by decide) (by decide) (by decide)]; exact hP 55 _ rfl
set_option maxRecDepth 100000 in
theorem lc_k57 {G : lc_G} {H : Heap} (hP : va_P (lc_D G) lc_cl (lc_WG G) H) : va_at (lc_D G) lc_cl (lc_ad G 57, lc_ct G lc_z0 57) H := by
  rw [lc_ct_int lc_h57, lc_z0i 57 (by decide) (by decide) (by decide)]; exact hP 56 _ rfl
set_option maxRecDepth 100000 in
theorem lc_k58 {G : lc_G} {H : Heap} (hP : va_P (lc_D G) lc_cl (lc_WG G) H) : va_at (lc_D G) lc_cl (lc_ad G 58, lc_ct G lc_z0 58) H := by
  rw [lc_ct_int lc_h58, lc_z0i 58 (by decide) (by decide) (by decide)]; exact hP 57 _ rfl
set_option maxRecDepth 100000 in
theorem lc_k59 {G : lc_G} {H : Heap} (hP : va_P (lc_D G) lc_cl (lc_WG G) H) : va_at (lc_D G) lc_cl (lc_ad G 59, lc_ct G lc_z0 59) H := by
  rw [lc_ct_int lc_h59, lc_z0i 59 (by decide) (by decide) (by decide)]; exact hP 58 _ rfl
set_option maxRecDepth 100000 in
theorem lc_k60 {G : lc_G} {H : Heap} (hP : va_P (lc_D G) lc_cl (lc_WG G) H) : va_at (lc_D G) lc_cl (lc_ad G 60, lc_ct G lc_z0 60) H := by
  rw [lc_ct_int lc_h60, lc_z0i 60 (by decide) (by decide) (by decide)]; exact hP 59 _ rfl
set_option maxRecDepth 100000 in
theorem lc_k61 {G : lc_G} {H : Heap} (hP : va_P (lc_D G) lc_cl (lc_WG G) H) : va_at (lc_D G) lc_cl (lc_ad G 61, lc_ct G lc_z0 61) H := by
  rw [lc_ct_int lc_h61, lc_z0i 61 (by decide) (by decide) (by decide)]; exact hP 60 _ rfl
set_option maxRecDepth 100000 in
theorem lc_f62 (G : lc_G) : lc_fs G lc_z0 62 1 = [.int 0, .int 0, .ref (lc_ad G 63), .int 0, .int 0, .ref (lc_ad G 64), .ref (lc_ad G 65), .ref (lc_ad G 66), .ref (lc_ad G 67), .ref (lc_ad G 68), .ref (lc_ad G 69), .int 0, .ref (lc_ad G 70), .int 0] := rfl
set_option maxRecDepth 100000 in
theorem lc_k62 {G : lc_G} {H : Heap} (hP : va_P (lc_D G) lc_cl (lc_WG G) H) : va_at (lc_D G) lc_cl (lc_ad G 62, lc_ct G lc_z0 62) H := by
  rw [lc_ct_obj lc_h62, lc_f62]; exact hP 61 _ rfl
set_option maxRecDepth 100000 in
theorem lc_k63 {G : lc_G} {H : Heap} (hP : va_P (lc_D G) lc_cl (lc_WG G) H) : va_at (lc_D G) lc_cl (lc_ad G 63, lc_ct G lc_z0 63) H := by
  rw [lc_ct_int lc_h63, lc_z0i 63 (by decide) (by decide) (by decide)]; exact hP 62 _ rfl
set_option maxRecDepth 100000 in
theorem lc_k64 {G : lc_G} {H : Heap} (hP : va_P (lc_D G) lc_cl (lc_WG G) H) : va_at (lc_D G) lc_cl (lc_ad G 64, lc_ct G lc_z0 64) H := by
  rw [lc_ct_int lc_h64, lc_z0i 64 (by decide) (by decide) (by decide)]; exact hP 63 _ rfl
set_option maxRecDepth 100000 in
theorem lc_k65 {G : lc_G} {H : Heap} (hP : va_P (lc_D G) lc_cl (lc_WG G) H) : va_at (lc_D G) lc_cl (lc_ad G 65, lc_ct G lc_z0 65) H := by
  rw [lc_ct_int lc_h65, lc_z0i 65 (by decide) (by decide) (by decide)]; exact hP 64 _ rfl
set_option maxRecDepth 100000 in
theorem lc_k66 {G : lc_G} {H : Heap} (hP : va_P (lc_D G) lc_cl (lc_WG G) H) : va_at (lc_D G) lc_cl (lc_ad G 66, lc_ct G lc_z0 66) H := by
  rw [lc_ct_int lc_h66, lc_z0i 66 (by decide) (by decide) (by decide)]; exact hP 65 _ rfl
set_option maxRecDepth 100000 in
theorem lc_k67 {G : lc_G} {H : Heap} (hP : va_P (lc_D G) lc_cl (lc_WG G) H) : va_at (lc_D G) lc_cl (lc_ad G 67, lc_ct G lc_z0 67) H := by
  rw [lc_ct_int lc_h67, lc_z0i 67 (by decide) (by decide) (by decide)]; exact hP 66 _ rfl
set_option maxRecDepth 100000 in
theorem lc_k68 {G : lc_G} {H : Heap} (hP : va_P (lc_D G) lc_cl (lc_WG G) H) : va_at (lc_D G) lc_cl (lc_ad G 68, lc_ct G lc_z0 68) H := by
  rw [lc_ct_int lc_h68, lc_z0i 68 (by decide) (by decide) (by decide)]; exact hP 67 _ rfl
set_option maxRecDepth 100000 in
theorem lc_k69 {G : lc_G} {H : Heap} (hP : va_P (lc_D G) lc_cl (lc_WG G) H) : va_at (lc_D G) lc_cl (lc_ad G 69, lc_ct G lc_z0 69) H := by
  rw [lc_ct_int lc_h69, lc_z0i 69 (by decide) (by decide) (by decide)]; exact hP 68 _ rfl
set_option maxRecDepth 100000 in
theorem lc_k70 {G : lc_G} {H : Heap} (hP : va_P (lc_D G) lc_cl (lc_WG G) H) : va_at (lc_D G) lc_cl (lc_ad G 70, lc_ct G lc_z0 70) H := by
  rw [lc_ct_int lc_h70, lc_z0i 70 (by decide) (by decide) (by decide)]; exact hP 69 _ rfl
set_option maxRecDepth 100000 in
theorem lc_f71 (G : lc_G) : lc_fs G lc_z0 71 1 = [.int 0, .int 0, .ref (lc_ad G 72), .int 0, .int 0, .ref (lc_ad G 73), .ref (lc_ad G 74), .ref (lc_ad G 75), .ref (lc_ad G 76), .ref (lc_ad G 77), .ref (lc_ad G 78), .int 0, .ref (lc_ad G 79), .int 0] := rfl
set_option maxRecDepth 100000 in
theorem lc_k71 {G : lc_G} {H : Heap} (hP : va_P (lc_D G) lc_cl (lc_WG G) H) : va_at (lc_D G) lc_cl (lc_ad G 71, lc_ct G lc_z0 71) H := by
  rw [lc_ct_obj lc_h71, lc_f71]; exact hP 70 _ rfl
set_option maxRecDepth 100000 in
theorem lc_k72 {G : lc_G} {H : Heap} (hP : va_P (lc_D G) lc_cl (lc_WG G) H) : va_at (lc_D G) lc_cl (lc_ad G 72, lc_ct G lc_z0 72) H := by
  rw [lc_ct_int lc_h72, lc_z0i 72 (by decide) (by decide) (by decide)]; exact hP 71 _ rfl
set_option maxRecDepth 100000 in
theorem lc_k73 {G : lc_G} {H : Heap} (hP : va_P (lc_D G) lc_cl (lc_WG G) H) : va_at (lc_D G) lc_cl (lc_ad G 73, lc_ct G lc_z0 73) H := by
  rw [lc_ct_int lc_h73, lc_z0i 73 (by decide) (by decide) (by decide)]; exact hP 72 _ rfl
set_option maxRecDepth 100000 in
theorem lc_k74 {G : lc_G} {H : Heap} (hP : va_P (lc_D G) lc_cl (lc_WG G) H) : va_at (lc_D G) lc_cl (lc_ad G 74, lc_ct G lc_z0 74) H := by
  rw [lc_ct_int lc_h74, lc_z0i 74 (by decide) (by decide) (by decide)]; exact hP 73 _ rfl
set_option maxRecDepth 100000 in
theorem lc_k75 {G : lc_G} {H : Heap} (hP : va_P (lc_D G) lc_cl (lc_WG G) H) : va_at (lc_D G) lc_cl (lc_ad G 75, lc_ct G lc_z0 75) H := by
  rw [lc_ct_int lc_h75, lc_z0i 75 (by decide) (by decide) (by decide)]; exact hP 74 _ rfl
set_option maxRecDepth 100000 in
theorem lc_k76 {G : lc_G} {H : Heap} (hP : va_P (lc_D G) lc_cl (lc_WG G) H) : va_at (lc_D G) lc_cl (lc_ad G 76, lc_ct G lc_z0 76) H := by
  rw [lc_ct_int lc_h76, lc_z0i 76 (by decide) (by decide) (by decide)]; exact hP 75 _ rfl
set_option maxRecDepth 100000 in
theorem lc_k77 {G : lc_G} {H : Heap} (hP : va_P (lc_D G) lc_cl (lc_WG G) H) : va_at (lc_D G) lc_cl (lc_ad G 77, lc_ct G lc_z0 77) H := by
  rw [lc_ct_int lc_h77, lc_z0i 77 (by decide) (by decide) (by decide)]; exact hP 76 _ rfl
set_option maxRecDepth 100000 in
theorem lc_k78 {G : lc_G} {H : Heap} (hP : va_P (lc_D G) lc_cl (lc_WG G) H) : va_at (lc_D G) lc_cl (lc_ad G 78, lc_ct G lc_z0 78) H := by
  rw [lc_ct_int lc_h78, lc_z0i 78 (by decide) (by decide) (by decide)]; exact hP 77 _ rfl
set_option maxRecDepth 100000 in
theorem lc_k79 {G : lc_G} {H : Heap} (hP : va_P (lc_D G) lc_cl (lc_WG G) H) : va_at (lc_D G) lc_cl (lc_ad G 79, lc_ct G lc_z0 79) H := by
  rw [lc_ct_int lc_h79, lc_z0i 79 (by decide) (by decide) (by decide)]; exact hP 78 _ rfl
set_option maxRecDepth 100000 in
theorem lc_f80 (G : lc_G) : lc_fs G lc_z0 80 7 = [.int 0, .int 0, .ref (lc_ad G 81), .ref (lc_ad G 82), .ref (lc_ad G 83), .ref (lc_ad G 84), .ref (lc_ad G 85), .ref (lc_ad G 86), .ref (lc_ad G 87), .ref (lc_ad G 88), .ref (lc_ad G 89), .ref (lc_ad G 90), .ref (lc_ad G 91), .int 0, .int 0, .int 0, .int 0, .ref (lc_ad G 92), .ref (lc_ad G 93), .int 0, .ref (lc_ad G 94), .ref (lc_ad G 95), .ref (lc_ad G 96), .int 0, .ref (lc_ad G 97), .int 0, .ref (lc_ad G 98), .ref (lc_ad G 99), .ref (lc_ad G 100), .ref (lc_ad G 101), .ref (lc_ad G 102), .ref (lc_ad G 103), .ref (lc_ad G 104), .int 0, .ref (lc_ad G 105), .ref (lc_ad G 106), .ref (lc_ad G 107), .ref (lc_ad G 108), .ref (lc_ad G 109), .ref (lc_ad G 110), .int 0, .ref (lc_ad G 111), .ref (lc_ad G 112), .ref (lc_ad G 113), .ref (lc_ad G 114), .int 0, .int 0, .long 0, .int 0, .int 0, .int 0, .ref (lc_ad G 115), .ref (lc_ad G 116), .int 0, .ref (lc_ad G 117), .ref (lc_ad G 118), .ref (lc_ad G 119), .ref (lc_ad G 120), .ref (lc_ad G 121)] := by
  simp only [lc_fs, lc_fk, List.mapIdx_cons, List.mapIdx_nil]
  rfl
set_option maxRecDepth 100000 in
theorem lc_k80 {G : lc_G} {H : Heap} (hP : va_P (lc_D G) lc_cl (lc_WG G) H) : va_at (lc_D G) lc_cl (lc_ad G 80, lc_ct G lc_z0 80) H := by
  rw [lc_ct_obj lc_h80, lc_f80]; exact hP 79 _ rfl
set_option maxRecDepth 100000 in
theorem lc_k81 {G : lc_G} {H : Heap} (hP : va_P (lc_D G) lc_cl (lc_WG G) H) : va_at (lc_D G) lc_cl (lc_ad G 81, lc_ct G lc_z0 81) H := by
  rw [lc_ct_int lc_h81, lc_z0i 81 (by decide) (by decide) (by decide)]; exact hP 80 _ rfl
set_option maxRecDepth 100000 in
theorem lc_k82 {G : lc_G} {H : Heap} (hP : va_P (lc_D G) lc_cl (lc_WG G) H) : va_at (lc_D G) lc_cl (lc_ad G 82, lc_ct G lc_z0 82) H := by
  rw [lc_ct_int lc_h82, lc_z0i 82 (by decide) (by decide) (by decide)]; exact hP 81 _ rfl
set_option maxRecDepth 100000 in
theorem lc_k83 {G : lc_G} {H : Heap} (hP : va_P (lc_D G) lc_cl (lc_WG G) H) : va_at (lc_D G) lc_cl (lc_ad G 83, lc_ct G lc_z0 83) H := by
  rw [lc_ct_int lc_h83, lc_z0i 83 (by decide) (by decide) (by decide)]; exact hP 82 _ rfl
set_option maxRecDepth 100000 in
theorem lc_k84 {G : lc_G} {H : Heap} (hP : va_P (lc_D G) lc_cl (lc_WG G) H) : va_at (lc_D G) lc_cl (lc_ad G 84, lc_ct G lc_z0 84) H := by
  rw [lc_ct_int lc_h84, lc_z0i 84 (by decide) (by decide) (by decide)]; exact hP 83 _ rfl
set_option maxRecDepth 100000 in
theorem lc_k85 {G : lc_G} {H : Heap} (hP : va_P (lc_D G) lc_cl (lc_WG G) H) : va_at (lc_D G) lc_cl (lc_ad G 85, lc_ct G lc_z0 85) H := by
  rw [lc_ct_int lc_h85, lc_z0i 85 (by decide) (by decide) (by decide)]; exact hP 84 _ rfl
set_option maxRecDepth 100000 in
theorem lc_k86 {G : lc_G} {H : Heap} (hP : va_P (lc_D G) lc_cl (lc_WG G) H) : va_at (lc_D G) lc_cl (lc_ad G 86, lc_ct G lc_z0 86) H := by
  rw [lc_ct_int lc_h86, lc_z0i 86 (by decide) (by decide) (by decide)]; exact hP 85 _ rfl
set_option maxRecDepth 100000 in
theorem lc_k87 {G : lc_G} {H : Heap} (hP : va_P (lc_D G) lc_cl (lc_WG G) H) : va_at (lc_D G) lc_cl (lc_ad G 87, lc_ct G lc_z0 87) H := by
  rw [lc_ct_int lc_h87, lc_z0i 87 (by decide) (by decide) (by decide)]; exact hP 86 _ rfl
set_option maxRecDepth 100000 in
theorem lc_k88 {G : lc_G} {H : Heap} (hP : va_P (lc_D G) lc_cl (lc_WG G) H) : va_at (lc_D G) lc_cl (lc_ad G 88, lc_ct G lc_z0 88) H := by
  rw [lc_ct_int lc_h88, lc_z0i 88 (by decide) (by decide) (by decide)]; exact hP 87 _ rfl
set_option maxRecDepth 100000 in
theorem lc_k89 {G : lc_G} {H : Heap} (hP : va_P (lc_D G) lc_cl (lc_WG G) H) : va_at (lc_D G) lc_cl (lc_ad G 89, lc_ct G lc_z0 89) H := by
  rw [lc_ct_int lc_h89, lc_z0i 89 (by decide) (by decide) (by decide)]; exact hP 88 _ rfl
set_option maxRecDepth 100000 in
theorem lc_k90 {G : lc_G} {H : Heap} (hP : va_P (lc_D G) lc_cl (lc_WG G) H) : va_at (lc_D G) lc_cl (lc_ad G 90, lc_ct G lc_z0 90) H := by
  rw [lc_ct_int lc_h90, lc_z0i 90 (by decide) (by decide) (by decide)]; exact hP 89 _ rfl
set_option maxRecDepth 100000 in
theorem lc_k91 {G : lc_G} {H : Heap} (hP : va_P (lc_D G) lc_cl (lc_WG G) H) : va_at (lc_D G) lc_cl (lc_ad G 91, lc_ct G lc_z0 91) H := by
  rw [lc_ct_int lc_h91, lc_z0i 91 (by decide) (by decide) (by decide)]; exact hP 90 _ rfl
set_option maxRecDepth 100000 in
theorem lc_k92 {G : lc_G} {H : Heap} (hP : va_P (lc_D G) lc_cl (lc_WG G) H) : va_at (lc_D G) lc_cl (lc_ad G 92, lc_ct G lc_z0 92) H := by
  rw [lc_ct_int lc_h92, lc_z0i 92 (by decide) (by decide) (by decide)]; exact hP 91 _ rfl
set_option maxRecDepth 100000 in
theorem lc_k93 {G : lc_G} {H : Heap} (hP : va_P (lc_D G) lc_cl (lc_WG G) H) : va_at (lc_D G) lc_cl (lc_ad G 93, lc_ct G lc_z0 93) H := by
  rw [lc_ct_int lc_h93, lc_z0i 93 (by decide) (by decide) (by decide)]; exact hP 92 _ rfl
set_option maxRecDepth 100000 in
theorem lc_k94 {G : lc_G} {H : Heap} (hP : va_P (lc_D G) lc_cl (lc_WG G) H) : va_at (lc_D G) lc_cl (lc_ad G 94, lc_ct G lc_z0 94) H := by
  rw [lc_ct_int lc_h94, lc_z0i 94 (by decide) (by decide) (by decide)]; exact hP 93 _ rfl
set_option maxRecDepth 100000 in
theorem lc_k95 {G : lc_G} {H : Heap} (hP : va_P (lc_D G) lc_cl (lc_WG G) H) : va_at (lc_D G) lc_cl (lc_ad G 95, lc_ct G lc_z0 95) H := by
  rw [lc_ct_int lc_h95, lc_z0i 95 (by decide) (by decide) (by decide)]; exact hP 94 _ rfl
set_option maxRecDepth 100000 in
theorem lc_k96 {G : lc_G} {H : Heap} (hP : va_P (lc_D G) lc_cl (lc_WG G) H) : va_at (lc_D G) lc_cl (lc_ad G 96, lc_ct G lc_z0 96) H := by
  rw [lc_ct_int lc_h96, lc_z0i 96 (by decide) (by decide) (by decide)]; exact hP 95 _ rfl
set_option maxRecDepth 100000 in
theorem lc_k97 {G : lc_G} {H : Heap} (hP : va_P (lc_D G) lc_cl (lc_WG G) H) : va_at (lc_D G) lc_cl (lc_ad G 97, lc_ct G lc_z0 97) H := by
  rw [lc_ct_int lc_h97, lc_z0i 97 (by decide) (by decide) (by decide)]; exact hP 96 _ rfl
set_option maxRecDepth 100000 in
theorem lc_k98 {G : lc_G} {H : Heap} (hP : va_P (lc_D G) lc_cl (lc_WG G) H) : va_at (lc_D G) lc_cl (lc_ad G 98, lc_ct G lc_z0 98) H := by
  rw [lc_ct_int lc_h98, lc_z0i 98 (by decide) (by decide) (by decide)]; exact hP 97 _ rfl
set_option maxRecDepth 100000 in
theorem lc_k99 {G : lc_G} {H : Heap} (hP : va_P (lc_D G) lc_cl (lc_WG G) H) : va_at (lc_D G) lc_cl (lc_ad G 99, lc_ct G lc_z0 99) H := by
  rw [lc_ct_int lc_h99, lc_z0i 99 (by decide) (by decide) (by decide)]; exact hP 98 _ rfl
set_option maxRecDepth 100000 in
theorem lc_k100 {G : lc_G} {H : Heap} (hP : va_P (lc_D G) lc_cl (lc_WG G) H) : va_at (lc_D G) lc_cl (lc_ad G 100, lc_ct G lc_z0 100) H := by
  rw [lc_ct_int lc_h100, lc_z0i 100 (by decide) (by decide) (by decide)]; exact hP 99 _ rfl
set_option maxRecDepth 100000 in
theorem lc_k101 {G : lc_G} {H : Heap} (hP : va_P (lc_D G) lc_cl (lc_WG G) H) : va_at (lc_D G) lc_cl (lc_ad G 101, lc_ct G lc_z0 101) H := by
  rw [lc_ct_int lc_h101, lc_z0i 101 (by decide) (by decide) (by decide)]; exact hP 100 _ rfl
set_option maxRecDepth 100000 in
theorem lc_k102 {G : lc_G} {H : Heap} (hP : va_P (lc_D G) lc_cl (lc_WG G) H) : va_at (lc_D G) lc_cl (lc_ad G 102, lc_ct G lc_z0 102) H := by
  rw [lc_ct_int lc_h102, lc_z0i 102 (by decide) (by decide) (by decide)]; exact hP 101 _ rfl
set_option maxRecDepth 100000 in
theorem lc_k103 {G : lc_G} {H : Heap} (hP : va_P (lc_D G) lc_cl (lc_WG G) H) : va_at (lc_D G) lc_cl (lc_ad G 103, lc_ct G lc_z0 103) H := by
  rw [lc_ct_int lc_h103, lc_z0i 103 (by decide) (by decide) (by decide)]; exact hP 102 _ rfl
set_option maxRecDepth 100000 in
theorem lc_k104 {G : lc_G} {H : Heap} (hP : va_P (lc_D G) lc_cl (lc_WG G) H) : va_at (lc_D G) lc_cl (lc_ad G 104, lc_ct G lc_z0 104) H := by
  rw [lc_ct_int lc_h104, lc_z0i 104 (by decide) (by decide) (by decide)]; exact hP 103 _ rfl
set_option maxRecDepth 100000 in
theorem lc_k105 {G : lc_G} {H : Heap} (hP : va_P (lc_D G) lc_cl (lc_WG G) H) : va_at (lc_D G) lc_cl (lc_ad G 105, lc_ct G lc_z0 105) H := by
  rw [lc_ct_int lc_h105, lc_z0i 105 (by decide) (by decide) (by decide)]; exact hP 104 _ rfl
set_option maxRecDepth 100000 in
theorem lc_k106 {G : lc_G} {H : Heap} (hP : va_P (lc_D G) lc_cl (lc_WG G) H) : va_at (lc_D G) lc_cl (lc_ad G 106, lc_ct G lc_z0 106) H := by
  rw [lc_ct_int lc_h106, lc_z0i 106 (by decide) (by decide) (by decide)]; exact hP 105 _ rfl
set_option maxRecDepth 100000 in
theorem lc_k107 {G : lc_G} {H : Heap} (hP : va_P (lc_D G) lc_cl (lc_WG G) H) : va_at (lc_D G) lc_cl (lc_ad G 107, lc_ct G lc_z0 107) H := by
  rw [lc_ct_int lc_h107, lc_z0i 107 (by decide) (by decide) (by decide)]; exact hP 106 _ rfl
set_option maxRecDepth 100000 in
theorem lc_k108 {G : lc_G} {H : Heap} (hP : va_P (lc_D G) lc_cl (lc_WG G) H) : va_at (lc_D G) lc_cl (lc_ad G 108, lc_ct G lc_z0 108) H := by
  rw [lc_ct_int lc_h108, lc_z0i 108 (by decide) (by decide) (by decide)]; exact hP 107 _ rfl
set_option maxRecDepth 100000 in
theorem lc_k109 {G : lc_G} {H : Heap} (hP : va_P (lc_D G) lc_cl (lc_WG G) H) : va_at (lc_D G) lc_cl (lc_ad G 109, lc_ct G lc_z0 109) H := by
  rw [lc_ct_int lc_h109, lc_z0i 109 (by decide) (by decide) (by decide)]; exact hP 108 _ rfl
set_option maxRecDepth 100000 in
theorem lc_k110 {G : lc_G} {H : Heap} (hP : va_P (lc_D G) lc_cl (lc_WG G) H) : va_at (lc_D G) lc_cl (lc_ad G 110, lc_ct G lc_z0 110) H := by
  rw [lc_ct_long lc_h110]; exact hP 109 _ rfl
set_option maxRecDepth 100000 in
theorem lc_k111 {G : lc_G} {H : Heap} (hP : va_P (lc_D G) lc_cl (lc_WG G) H) : va_at (lc_D G) lc_cl (lc_ad G 111, lc_ct G lc_z0 111) H := by
  rw [lc_ct_int lc_h111, lc_z0i 111 (by decide) (by decide) (by decide)]; exact hP 110 _ rfl
set_option maxRecDepth 100000 in
theorem lc_k112 {G : lc_G} {H : Heap} (hP : va_P (lc_D G) lc_cl (lc_WG G) H) : va_at (lc_D G) lc_cl (lc_ad G 112, lc_ct G lc_z0 112) H := by
  rw [lc_ct_int lc_h112, lc_z0i 112 (by decide) (by decide) (by decide)]; exact hP 111 _ rfl
set_option maxRecDepth 100000 in
theorem lc_k113 {G : lc_G} {H : Heap} (hP : va_P (lc_D G) lc_cl (lc_WG G) H) : va_at (lc_D G) lc_cl (lc_ad G 113, lc_ct G lc_z0 113) H := by
  rw [lc_ct_long lc_h113]; exact hP 112 _ rfl
set_option maxRecDepth 100000 in
theorem lc_k114 {G : lc_G} {H : Heap} (hP : va_P (lc_D G) lc_cl (lc_WG G) H) : va_at (lc_D G) lc_cl (lc_ad G 114, lc_ct G lc_z0 114) H := by
  rw [lc_ct_int lc_h114, lc_z0i 114 (by decide) (by decide) (by decide)]; exact hP 113 _ rfl
set_option maxRecDepth 100000 in
theorem lc_k115 {G : lc_G} {H : Heap} (hP : va_P (lc_D G) lc_cl (lc_WG G) H) : va_at (lc_D G) lc_cl (lc_ad G 115, lc_ct G lc_z0 115) H := by
  rw [lc_ct_int lc_h115, lc_z0i 115 (by decide) (by decide) (by decide)]; exact hP 114 _ rfl
set_option maxRecDepth 100000 in
theorem lc_k116 {G : lc_G} {H : Heap} (hP : va_P (lc_D G) lc_cl (lc_WG G) H) : va_at (lc_D G) lc_cl (lc_ad G 116, lc_ct G lc_z0 116) H := by
  rw [lc_ct_int lc_h116, lc_z0i 116 (by decide) (by decide) (by decide)]; exact hP 115 _ rfl
set_option maxRecDepth 100000 in
theorem lc_k117 {G : lc_G} {H : Heap} (hP : va_P (lc_D G) lc_cl (lc_WG G) H) : va_at (lc_D G) lc_cl (lc_ad G 117, lc_ct G lc_z0 117) H := by
  rw [lc_ct_long lc_h117]; exact hP 116 _ rfl
set_option maxRecDepth 100000 in
theorem lc_k118 {G : lc_G} {H : Heap} (hP : va_P (lc_D G) lc_cl (lc_WG G) H) : va_at (lc_D G) lc_cl (lc_ad G 118, lc_ct G lc_z0 118) H := by
  rw [lc_ct_long lc_h118]; exact hP 117 _ rfl
set_option maxRecDepth 100000 in
theorem lc_k119 {G : lc_G} {H : Heap} (hP : va_P (lc_D G) lc_cl (lc_WG G) H) : va_at (lc_D G) lc_cl (lc_ad G 119, lc_ct G lc_z0 119) H := by
  rw [lc_ct_int lc_h119, lc_z0i 119 (by decide) (by decide) (by decide)]; exact hP 118 _ rfl
set_option maxRecDepth 100000 in
theorem lc_k120 {G : lc_G} {H : Heap} (hP : va_P (lc_D G) lc_cl (lc_WG G) H) : va_at (lc_D G) lc_cl (lc_ad G 120, lc_ct G lc_z0 120) H := by
  rw [lc_ct_int lc_h120, lc_z0i 120 (by decide) (by decide) (by decide)]; exact hP 119 _ rfl
set_option maxRecDepth 100000 in
theorem lc_k121 {G : lc_G} {H : Heap} (hP : va_P (lc_D G) lc_cl (lc_WG G) H) : va_at (lc_D G) lc_cl (lc_ad G 121, lc_ct G lc_z0 121) H := by
  rw [lc_ct_int lc_h121, lc_z0i 121 (by decide) (by decide) (by decide)]; exact hP 120 _ rfl
def lc_KP (G : lc_G) (H : Heap) (c : Nat) : Prop := va_at (lc_D G) lc_cl (lc_ad G c, lc_ct G lc_z0 c) H
theorem lc_q0 {G : lc_G} {H : Heap} (hP : va_P (lc_D G) lc_cl (lc_WG G) H) : ∀ a, a < 1 → lc_KP G H a := lt_s lt_0 (lc_k0 hP)
theorem lc_q1 {G : lc_G} {H : Heap} (hP : va_P (lc_D G) lc_cl (lc_WG G) H) : ∀ a, a < 2 → lc_KP G H a := lt_s (lc_q0 hP) (lc_k1 hP)
theorem lc_q2 {G : lc_G} {H : Heap} (hP : va_P (lc_D G) lc_cl (lc_WG G) H) : ∀ a, a < 3 → lc_KP G H a := lt_s (lc_q1 hP) (lc_k2 hP)
theorem lc_q3 {G : lc_G} {H : Heap} (hP : va_P (lc_D G) lc_cl (lc_WG G) H) : ∀ a, a < 4 → lc_KP G H a := lt_s (lc_q2 hP) (lc_k3 hP)
theorem lc_q4 {G : lc_G} {H : Heap} (hP : va_P (lc_D G) lc_cl (lc_WG G) H) : ∀ a, a < 5 → lc_KP G H a := lt_s (lc_q3 hP) (lc_k4 hP)
theorem lc_q5 {G : lc_G} {H : Heap} (hP : va_P (lc_D G) lc_cl (lc_WG G) H) : ∀ a, a < 6 → lc_KP G H a := lt_s (lc_q4 hP) (lc_k5 hP)
theorem lc_q6 {G : lc_G} {H : Heap} (hP : va_P (lc_D G) lc_cl (lc_WG G) H) : ∀ a, a < 7 → lc_KP G H a := lt_s (lc_q5 hP) (lc_k6 hP)
theorem lc_q7 {G : lc_G} {H : Heap} (hP : va_P (lc_D G) lc_cl (lc_WG G) H) : ∀ a, a < 8 → lc_KP G H a := lt_s (lc_q6 hP) (lc_k7 hP)
theorem lc_q8 {G : lc_G} {H : Heap} (hP : va_P (lc_D G) lc_cl (lc_WG G) H) : ∀ a, a < 9 → lc_KP G H a := lt_s (lc_q7 hP) (lc_k8 hP)
theorem lc_q9 {G : lc_G} {H : Heap} (hP : va_P (lc_D G) lc_cl (lc_WG G) H) : ∀ a, a < 10 → lc_KP G H a := lt_s (lc_q8 hP) (lc_k9 hP)
theorem lc_q10 {G : lc_G} {H : Heap} (hP : va_P (lc_D G) lc_cl (lc_WG G) H) : ∀ a, a < 11 → lc_KP G H a := lt_s (lc_q9 hP) (lc_k10 hP)
theorem lc_q11 {G : lc_G} {H : Heap} (hP : va_P (lc_D G) lc_cl (lc_WG G) H) : ∀ a, a < 12 → lc_KP G H a := lt_s (lc_q10 hP) (lc_k11 hP)
theorem lc_q12 {G : lc_G} {H : Heap} (hP : va_P (lc_D G) lc_cl (lc_WG G) H) : ∀ a, a < 13 → lc_KP G H a := lt_s (lc_q11 hP) (lc_k12 hP)
theorem lc_q13 {G : lc_G} {H : Heap} (hP : va_P (lc_D G) lc_cl (lc_WG G) H) : ∀ a, a < 14 → lc_KP G H a := lt_s (lc_q12 hP) (lc_k13 hP)
theorem lc_q14 {G : lc_G} {H : Heap} (hP : va_P (lc_D G) lc_cl (lc_WG G) H) : ∀ a, a < 15 → lc_KP G H a := lt_s (lc_q13 hP) (lc_k14 hP)
theorem lc_q15 {G : lc_G} {H : Heap} (hP : va_P (lc_D G) lc_cl (lc_WG G) H) : ∀ a, a < 16 → lc_KP G H a := lt_s (lc_q14 hP) (lc_k15 hP)
theorem lc_q16 {G : lc_G} {H : Heap} (hP : va_P (lc_D G) lc_cl (lc_WG G) H) : ∀ a, a < 17 → lc_KP G H a := lt_s (lc_q15 hP) (lc_k16 hP)
theorem lc_q17 {G : lc_G} {H : Heap} (hP : va_P (lc_D G) lc_cl (lc_WG G) H) : ∀ a, a < 18 → lc_KP G H a := lt_s (lc_q16 hP) (lc_k17 hP)
theorem lc_q18 {G : lc_G} {H : Heap} (hP : va_P (lc_D G) lc_cl (lc_WG G) H) : ∀ a, a < 19 → lc_KP G H a := lt_s (lc_q17 hP) (lc_k18 hP)
theorem lc_q19 {G : lc_G} {H : Heap} (hP : va_P (lc_D G) lc_cl (lc_WG G) H) : ∀ a, a < 20 → lc_KP G H a := lt_s (lc_q18 hP) (lc_k19 hP)
theorem lc_q20 {G : lc_G} {H : Heap} (hP : va_P (lc_D G) lc_cl (lc_WG G) H) : ∀ a, a < 21 → lc_KP G H a := lt_s (lc_q19 hP) (lc_k20 hP)
theorem lc_q21 {G : lc_G} {H : Heap} (hP : va_P (lc_D G) lc_cl (lc_WG G) H) : ∀ a, a < 22 → lc_KP G H a := lt_s (lc_q20 hP) (lc_k21 hP)
theorem lc_q22 {G : lc_G} {H : Heap} (hP : va_P (lc_D G) lc_cl (lc_WG G) H) : ∀ a, a < 23 → lc_KP G H a := lt_s (lc_q21 hP) (lc_k22 hP)
theorem lc_q23 {G : lc_G} {H : Heap} (hP : va_P (lc_D G) lc_cl (lc_WG G) H) : ∀ a, a < 24 → lc_KP G H a := lt_s (lc_q22 hP) (lc_k23 hP)
theorem lc_q24 {G : lc_G} {H : Heap} (hP : va_P (lc_D G) lc_cl (lc_WG G) H) : ∀ a, a < 25 → lc_KP G H a := lt_s (lc_q23 hP) (lc_k24 hP)
theorem lc_q25 {G : lc_G} {H : Heap} (hP : va_P (lc_D G) lc_cl (lc_WG G) H) : ∀ a, a < 26 → lc_KP G H a := lt_s (lc_q24 hP) (lc_k25 hP)
theorem lc_q26 {G : lc_G} {H : Heap} (hP : va_P (lc_D G) lc_cl (lc_WG G) H) : ∀ a, a < 27 → lc_KP G H a := lt_s (lc_q25 hP) (lc_k26 hP)
theorem lc_q27 {G : lc_G} {H : Heap} (hP : va_P (lc_D G) lc_cl (lc_WG G) H) : ∀ a, a < 28 → lc_KP G H a := lt_s (lc_q26 hP) (lc_k27 hP)
theorem lc_q28 {G : lc_G} {H : Heap} (hP : va_P (lc_D G) lc_cl (lc_WG G) H) : ∀ a, a < 29 → lc_KP G H a := lt_s (lc_q27 hP) (lc_k28 hP)
theorem lc_q29 {G : lc_G} {H : Heap} (hP : va_P (lc_D G) lc_cl (lc_WG G) H) : ∀ a, a < 30 → lc_KP G H a := lt_s (lc_q28 hP) (lc_k29 hP)
theorem lc_q30 {G : lc_G} {H : Heap} (hP : va_P (lc_D G) lc_cl (lc_WG G) H) : ∀ a, a < 31 → lc_KP G H a := lt_s (lc_q29 hP) (lc_k30 hP)
theorem lc_q31 {G : lc_G} {H : Heap} (hP : va_P (lc_D G) lc_cl (lc_WG G) H) : ∀ a, a < 32 → lc_KP G H a := lt_s (lc_q30 hP) (lc_k31 hP)
theorem lc_q32 {G : lc_G} {H : Heap} (hP : va_P (lc_D G) lc_cl (lc_WG G) H) : ∀ a, a < 33 → lc_KP G H a := lt_s (lc_q31 hP) (lc_k32 hP)
theorem lc_q33 {G : lc_G} {H : Heap} (hP : va_P (lc_D G) lc_cl (lc_WG G) H) : ∀ a, a < 34 → lc_KP G H a := lt_s (lc_q32 hP) (lc_k33 hP)
theorem lc_q34 {G : lc_G} {H : Heap} (hP : va_P (lc_D G) lc_cl (lc_WG G) H) : ∀ a, a < 35 → lc_KP G H a := lt_s (lc_q33 hP) (lc_k34 hP)
theorem lc_q35 {G : lc_G} {H : Heap} (hP : va_P (lc_D G) lc_cl (lc_WG G) H) : ∀ a, a < 36 → lc_KP G H a := lt_s (lc_q34 hP) (lc_k35 hP)
theorem lc_q36 {G : lc_G} {H : Heap} (hP : va_P (lc_D G) lc_cl (lc_WG G) H) : ∀ a, a < 37 → lc_KP G H a := lt_s (lc_q35 hP) (lc_k36 hP)
theorem lc_q37 {G : lc_G} {H : Heap} (hP : va_P (lc_D G) lc_cl (lc_WG G) H) : ∀ a, a < 38 → lc_KP G H a := lt_s (lc_q36 hP) (lc_k37 hP)
theorem lc_q38 {G : lc_G} {H : Heap} (hP : va_P (lc_D G) lc_cl (lc_WG G) H) : ∀ a, a < 39 → lc_KP G H a := lt_s (lc_q37 hP) (lc_k38 hP)
theorem lc_q39 {G : lc_G} {H : Heap} (hP : va_P (lc_D G) lc_cl (lc_WG G) H) : ∀ a, a < 40 → lc_KP G H a := lt_s (lc_q38 hP) (lc_k39 hP)
theorem lc_q40 {G : lc_G} {H : Heap} (hP : va_P (lc_D G) lc_cl (lc_WG G) H) : ∀ a, a < 41 → lc_KP G H a := lt_s (lc_q39 hP) (lc_k40 hP)
theorem lc_q41 {G : lc_G} {H : Heap} (hP : va_P (lc_D G) lc_cl (lc_WG G) H) : ∀ a, a < 42 → lc_KP G H a := lt_s (lc_q40 hP) (lc_k41 hP)
theorem lc_q42 {G : lc_G} {H : Heap} (hP : va_P (lc_D G) lc_cl (lc_WG G) H) : ∀ a, a < 43 → lc_KP G H a := lt_s (lc_q41 hP) (lc_k42 hP)
theorem lc_q43 {G : lc_G} {H : Heap} (hP : va_P (lc_D G) lc_cl (lc_WG G) H) : ∀ a, a < 44 → lc_KP G H a := lt_s (lc_q42 hP) (lc_k43 hP)
theorem lc_q44 {G : lc_G} {H : Heap} (hP : va_P (lc_D G) lc_cl (lc_WG G) H) : ∀ a, a < 45 → lc_KP G H a := lt_s (lc_q43 hP) (lc_k44 hP)
theorem lc_q45 {G : lc_G} {H : Heap} (hP : va_P (lc_D G) lc_cl (lc_WG G) H) : ∀ a, a < 46 → lc_KP G H a := lt_s (lc_q44 hP) (lc_k45 hP)
theorem lc_q46 {G : lc_G} {H : Heap} (hP : va_P (lc_D G) lc_cl (lc_WG G) H) : ∀ a, a < 47 → lc_KP G H a := lt_s (lc_q45 hP) (lc_k46 hP)
theorem lc_q47 {G : lc_G} {H : Heap} (hP : va_P (lc_D G) lc_cl (lc_WG G) H) : ∀ a, a < 48 → lc_KP G H a := lt_s (lc_q46 hP) (lc_k47 hP)
theorem lc_q48 {G : lc_G} {H : Heap} (hP : va_P (lc_D G) lc_cl (lc_WG G) H) : ∀ a, a < 49 → lc_KP G H a := lt_s (lc_q47 hP) (lc_k48 hP)
theorem lc_q49 {G : lc_G} {H : Heap} (hP : va_P (lc_D G) lc_cl (lc_WG G) H) : ∀ a, a < 50 → lc_KP G H a := lt_s (lc_q48 hP) (lc_k49 hP)
theorem lc_q50 {G : lc_G} {H : Heap} (hP : va_P (lc_D G) lc_cl (lc_WG G) H) : ∀ a, a < 51 → lc_KP G H a := lt_s (lc_q49 hP) (lc_k50 hP)
theorem lc_q51 {G : lc_G} {H : Heap} (hP : va_P (lc_D G) lc_cl (lc_WG G) H) : ∀ a, a < 52 → lc_KP G H a := lt_s (lc_q50 hP) (lc_k51 hP)
theorem lc_q52 {G : lc_G} {H : Heap} (hP : va_P (lc_D G) lc_cl (lc_WG G) H) : ∀ a, a < 53 → lc_KP G H a := lt_s (lc_q51 hP) (lc_k52 hP)
theorem lc_q53 {G : lc_G} {H : Heap} (hP : va_P (lc_D G) lc_cl (lc_WG G) H) : ∀ a, a < 54 → lc_KP G H a := lt_s (lc_q52 hP) (lc_k53 hP)
theorem lc_q54 {G : lc_G} {H : Heap} (hP : va_P (lc_D G) lc_cl (lc_WG G) H) : ∀ a, a < 55 → lc_KP G H a := lt_s (lc_q53 hP) (lc_k54 hP)
theorem lc_q55 {G : lc_G} {H : Heap} (hP : va_P (lc_D G) lc_cl (lc_WG G) H) : ∀ a, a < 56 → lc_KP G H a := lt_s (lc_q54 hP) (lc_k55 hP)
theorem lc_q56 {G : lc_G} {H : Heap} (hP : va_P (lc_D G) lc_cl (lc_WG G) H) : ∀ a, a < 57 → lc_KP G H a := lt_s (lc_q55 hP) (lc_k56 hP)
theorem lc_q57 {G : lc_G} {H : Heap} (hP : va_P (lc_D G) lc_cl (lc_WG G) H) : ∀ a, a < 58 → lc_KP G H a := lt_s (lc_q56 hP) (lc_k57 hP)
theorem lc_q58 {G : lc_G} {H : Heap} (hP : va_P (lc_D G) lc_cl (lc_WG G) H) : ∀ a, a < 59 → lc_KP G H a := lt_s (lc_q57 hP) (lc_k58 hP)
theorem lc_q59 {G : lc_G} {H : Heap} (hP : va_P (lc_D G) lc_cl (lc_WG G) H) : ∀ a, a < 60 → lc_KP G H a := lt_s (lc_q58 hP) (lc_k59 hP)
theorem lc_q60 {G : lc_G} {H : Heap} (hP : va_P (lc_D G) lc_cl (lc_WG G) H) : ∀ a, a < 61 → lc_KP G H a := lt_s (lc_q59 hP) (lc_k60 hP)
theorem lc_q61 {G : lc_G} {H : Heap} (hP : va_P (lc_D G) lc_cl (lc_WG G) H) : ∀ a, a < 62 → lc_KP G H a := lt_s (lc_q60 hP) (lc_k61 hP)
theorem lc_q62 {G : lc_G} {H : Heap} (hP : va_P (lc_D G) lc_cl (lc_WG G) H) : ∀ a, a < 63 → lc_KP G H a := lt_s (lc_q61 hP) (lc_k62 hP)
theorem lc_q63 {G : lc_G} {H : Heap} (hP : va_P (lc_D G) lc_cl (lc_WG G) H) : ∀ a, a < 64 → lc_KP G H a := lt_s (lc_q62 hP) (lc_k63 hP)
theorem lc_q64 {G : lc_G} {H : Heap} (hP : va_P (lc_D G) lc_cl (lc_WG G) H) : ∀ a, a < 65 → lc_KP G H a := lt_s (lc_q63 hP) (lc_k64 hP)
theorem lc_q65 {G : lc_G} {H : Heap} (hP : va_P (lc_D G) lc_cl (lc_WG G) H) : ∀ a, a < 66 → lc_KP G H a := lt_s (lc_q64 hP) (lc_k65 hP)
theorem lc_q66 {G : lc_G} {H : Heap} (hP : va_P (lc_D G) lc_cl (lc_WG G) H) : ∀ a, a < 67 → lc_KP G H a := lt_s (lc_q65 hP) (lc_k66 hP)
theorem lc_q67 {G : lc_G} {H : Heap} (hP : va_P (lc_D G) lc_cl (lc_WG G) H) : ∀ a, a < 68 → lc_KP G H a := lt_s (lc_q66 hP) (lc_k67 hP)
theorem lc_q68 {G : lc_G} {H : Heap} (hP : va_P (lc_D G) lc_cl (lc_WG G) H) : ∀ a, a < 69 → lc_KP G H a := lt_s (lc_q67 hP) (lc_k68 hP)
theorem lc_q69 {G : lc_G} {H : Heap} (hP : va_P (lc_D G) lc_cl (lc_WG G) H) : ∀ a, a < 70 → lc_KP G H a := lt_s (lc_q68 hP) (lc_k69 hP)
theorem lc_q70 {G : lc_G} {H : Heap} (hP : va_P (lc_D G) lc_cl (lc_WG G) H) : ∀ a, a < 71 → lc_KP G H a := lt_s (lc_q69 hP) (lc_k70 hP)
theorem lc_q71 {G : lc_G} {H : Heap} (hP : va_P (lc_D G) lc_cl (lc_WG G) H) : ∀ a, a < 72 → lc_KP G H a := lt_s (lc_q70 hP) (lc_k71 hP)
theorem lc_q72 {G : lc_G} {H : Heap} (hP : va_P (lc_D G) lc_cl (lc_WG G) H) : ∀ a, a < 73 → lc_KP G H a := lt_s (lc_q71 hP) (lc_k72 hP)
theorem lc_q73 {G : lc_G} {H : Heap} (hP : va_P (lc_D G) lc_cl (lc_WG G) H) : ∀ a, a < 74 → lc_KP G H a := lt_s (lc_q72 hP) (lc_k73 hP)
theorem lc_q74 {G : lc_G} {H : Heap} (hP : va_P (lc_D G) lc_cl (lc_WG G) H) : ∀ a, a < 75 → lc_KP G H a := lt_s (lc_q73 hP) (lc_k74 hP)
theorem lc_q75 {G : lc_G} {H : Heap} (hP : va_P (lc_D G) lc_cl (lc_WG G) H) : ∀ a, a < 76 → lc_KP G H a := lt_s (lc_q74 hP) (lc_k75 hP)
theorem lc_q76 {G : lc_G} {H : Heap} (hP : va_P (lc_D G) lc_cl (lc_WG G) H) : ∀ a, a < 77 → lc_KP G H a := lt_s (lc_q75 hP) (lc_k76 hP)
theorem lc_q77 {G : lc_G} {H : Heap} (hP : va_P (lc_D G) lc_cl (lc_WG G) H) : ∀ a, a < 78 → lc_KP G H a := lt_s (lc_q76 hP) (lc_k77 hP)
theorem lc_q78 {G : lc_G} {H : Heap} (hP : va_P (lc_D G) lc_cl (lc_WG G) H) : ∀ a, a < 79 → lc_KP G H a := lt_s (lc_q77 hP) (lc_k78 hP)
theorem lc_q79 {G : lc_G} {H : Heap} (hP : va_P (lc_D G) lc_cl (lc_WG G) H) : ∀ a, a < 80 → lc_KP G H a := lt_s (lc_q78 hP) (lc_k79 hP)
theorem lc_q80 {G : lc_G} {H : Heap} (hP : va_P (lc_D G) lc_cl (lc_WG G) H) : ∀ a, a < 81 → lc_KP G H a := lt_s (lc_q79 hP) (lc_k80 hP)
theorem lc_q81 {G : lc_G} {H : Heap} (hP : va_P (lc_D G) lc_cl (lc_WG G) H) : ∀ a, a < 82 → lc_KP G H a := lt_s (lc_q80 hP) (lc_k81 hP)
theorem lc_q82 {G : lc_G} {H : Heap} (hP : va_P (lc_D G) lc_cl (lc_WG G) H) : ∀ a, a < 83 → lc_KP G H a := lt_s (lc_q81 hP) (lc_k82 hP)
theorem lc_q83 {G : lc_G} {H : Heap} (hP : va_P (lc_D G) lc_cl (lc_WG G) H) : ∀ a, a < 84 → lc_KP G H a := lt_s (lc_q82 hP) (lc_k83 hP)
theorem lc_q84 {G : lc_G} {H : Heap} (hP : va_P (lc_D G) lc_cl (lc_WG G) H) : ∀ a, a < 85 → lc_KP G H a := lt_s (lc_q83 hP) (lc_k84 hP)
theorem lc_q85 {G : lc_G} {H : Heap} (hP : va_P (lc_D G) lc_cl (lc_WG G) H) : ∀ a, a < 86 → lc_KP G H a := lt_s (lc_q84 hP) (lc_k85 hP)
theorem lc_q86 {G : lc_G} {H : Heap} (hP : va_P (lc_D G) lc_cl (lc_WG G) H) : ∀ a, a < 87 → lc_KP G H a := lt_s (lc_q85 hP) (lc_k86 hP)
theorem lc_q87 {G : lc_G} {H : Heap} (hP : va_P (lc_D G) lc_cl (lc_WG G) H) : ∀ a, a < 88 → lc_KP G H a := lt_s (lc_q86 hP) (lc_k87 hP)
theorem lc_q88 {G : lc_G} {H : Heap} (hP : va_P (lc_D G) lc_cl (lc_WG G) H) : ∀ a, a < 89 → lc_KP G H a := lt_s (lc_q87 hP) (lc_k88 hP)
theorem lc_q89 {G : lc_G} {H : Heap} (hP : va_P (lc_D G) lc_cl (lc_WG G) H) : ∀ a, a < 90 → lc_KP G H a := lt_s (lc_q88 hP) (lc_k89 hP)
theorem lc_q90 {G : lc_G} {H : Heap} (hP : va_P (lc_D G) lc_cl (lc_WG G) H) : ∀ a, a < 91 → lc_KP G H a := lt_s (lc_q89 hP) (lc_k90 hP)
theorem lc_q91 {G : lc_G} {H : Heap} (hP : va_P (lc_D G) lc_cl (lc_WG G) H) : ∀ a, a < 92 → lc_KP G H a := lt_s (lc_q90 hP) (lc_k91 hP)
theorem lc_q92 {G : lc_G} {H : Heap} (hP : va_P (lc_D G) lc_cl (lc_WG G) H) : ∀ a, a < 93 → lc_KP G H a := lt_s (lc_q91 hP) (lc_k92 hP)
theorem lc_q93 {G : lc_G} {H : Heap} (hP : va_P (lc_D G) lc_cl (lc_WG G) H) : ∀ a, a < 94 → lc_KP G H a := lt_s (lc_q92 hP) (lc_k93 hP)
theorem lc_q94 {G : lc_G} {H : Heap} (hP : va_P (lc_D G) lc_cl (lc_WG G) H) : ∀ a, a < 95 → lc_KP G H a := lt_s (lc_q93 hP) (lc_k94 hP)
theorem lc_q95 {G : lc_G} {H : Heap} (hP : va_P (lc_D G) lc_cl (lc_WG G) H) : ∀ a, a < 96 → lc_KP G H a := lt_s (lc_q94 hP) (lc_k95 hP)
theorem lc_q96 {G : lc_G} {H : Heap} (hP : va_P (lc_D G) lc_cl (lc_WG G) H) : ∀ a, a < 97 → lc_KP G H a := lt_s (lc_q95 hP) (lc_k96 hP)
theorem lc_q97 {G : lc_G} {H : Heap} (hP : va_P (lc_D G) lc_cl (lc_WG G) H) : ∀ a, a < 98 → lc_KP G H a := lt_s (lc_q96 hP) (lc_k97 hP)
theorem lc_q98 {G : lc_G} {H : Heap} (hP : va_P (lc_D G) lc_cl (lc_WG G) H) : ∀ a, a < 99 → lc_KP G H a := lt_s (lc_q97 hP) (lc_k98 hP)
theorem lc_q99 {G : lc_G} {H : Heap} (hP : va_P (lc_D G) lc_cl (lc_WG G) H) : ∀ a, a < 100 → lc_KP G H a := lt_s (lc_q98 hP) (lc_k99 hP)
theorem lc_q100 {G : lc_G} {H : Heap} (hP : va_P (lc_D G) lc_cl (lc_WG G) H) : ∀ a, a < 101 → lc_KP G H a := lt_s (lc_q99 hP) (lc_k100 hP)
theorem lc_q101 {G : lc_G} {H : Heap} (hP : va_P (lc_D G) lc_cl (lc_WG G) H) : ∀ a, a < 102 → lc_KP G H a := lt_s (lc_q100 hP) (lc_k101 hP)
theorem lc_q102 {G : lc_G} {H : Heap} (hP : va_P (lc_D G) lc_cl (lc_WG G) H) : ∀ a, a < 103 → lc_KP G H a := lt_s (lc_q101 hP) (lc_k102 hP)
theorem lc_q103 {G : lc_G} {H : Heap} (hP : va_P (lc_D G) lc_cl (lc_WG G) H) : ∀ a, a < 104 → lc_KP G H a := lt_s (lc_q102 hP) (lc_k103 hP)
theorem lc_q104 {G : lc_G} {H : Heap} (hP : va_P (lc_D G) lc_cl (lc_WG G) H) : ∀ a, a < 105 → lc_KP G H a := lt_s (lc_q103 hP) (lc_k104 hP)
theorem lc_q105 {G : lc_G} {H : Heap} (hP : va_P (lc_D G) lc_cl (lc_WG G) H) : ∀ a, a < 106 → lc_KP G H a := lt_s (lc_q104 hP) (lc_k105 hP)
theorem lc_q106 {G : lc_G} {H : Heap} (hP : va_P (lc_D G) lc_cl (lc_WG G) H) : ∀ a, a < 107 → lc_KP G H a := lt_s (lc_q105 hP) (lc_k106 hP)
theorem lc_q107 {G : lc_G} {H : Heap} (hP : va_P (lc_D G) lc_cl (lc_WG G) H) : ∀ a, a < 108 → lc_KP G H a := lt_s (lc_q106 hP) (lc_k107 hP)
theorem lc_q108 {G : lc_G} {H : Heap} (hP : va_P (lc_D G) lc_cl (lc_WG G) H) : ∀ a, a < 109 → lc_KP G H a := lt_s (lc_q107 hP) (lc_k108 hP)
theorem lc_q109 {G : lc_G} {H : Heap} (hP : va_P (lc_D G) lc_cl (lc_WG G) H) : ∀ a, a < 110 → lc_KP G H a := lt_s (lc_q108 hP) (lc_k109 hP)
theorem lc_q110 {G : lc_G} {H : Heap} (hP : va_P (lc_D G) lc_cl (lc_WG G) H) : ∀ a, a < 111 → lc_KP G H a := lt_s (lc_q109 hP) (lc_k110 hP)
theorem lc_q111 {G : lc_G} {H : Heap} (hP : va_P (lc_D G) lc_cl (lc_WG G) H) : ∀ a, a < 112 → lc_KP G H a := lt_s (lc_q110 hP) (lc_k111 hP)
theorem lc_q112 {G : lc_G} {H : Heap} (hP : va_P (lc_D G) lc_cl (lc_WG G) H) : ∀ a, a < 113 → lc_KP G H a := lt_s (lc_q111 hP) (lc_k112 hP)
theorem lc_q113 {G : lc_G} {H : Heap} (hP : va_P (lc_D G) lc_cl (lc_WG G) H) : ∀ a, a < 114 → lc_KP G H a := lt_s (lc_q112 hP) (lc_k113 hP)
theorem lc_q114 {G : lc_G} {H : Heap} (hP : va_P (lc_D G) lc_cl (lc_WG G) H) : ∀ a, a < 115 → lc_KP G H a := lt_s (lc_q113 hP) (lc_k114 hP)
theorem lc_q115 {G : lc_G} {H : Heap} (hP : va_P (lc_D G) lc_cl (lc_WG G) H) : ∀ a, a < 116 → lc_KP G H a := lt_s (lc_q114 hP) (lc_k115 hP)
theorem lc_q116 {G : lc_G} {H : Heap} (hP : va_P (lc_D G) lc_cl (lc_WG G) H) : ∀ a, a < 117 → lc_KP G H a := lt_s (lc_q115 hP) (lc_k116 hP)
theorem lc_q117 {G : lc_G} {H : Heap} (hP : va_P (lc_D G) lc_cl (lc_WG G) H) : ∀ a, a < 118 → lc_KP G H a := lt_s (lc_q116 hP) (lc_k117 hP)
theorem lc_q118 {G : lc_G} {H : Heap} (hP : va_P (lc_D G) lc_cl (lc_WG G) H) : ∀ a, a < 119 → lc_KP G H a := lt_s (lc_q117 hP) (lc_k118 hP)
theorem lc_q119 {G : lc_G} {H : Heap} (hP : va_P (lc_D G) lc_cl (lc_WG G) H) : ∀ a, a < 120 → lc_KP G H a := lt_s (lc_q118 hP) (lc_k119 hP)
theorem lc_q120 {G : lc_G} {H : Heap} (hP : va_P (lc_D G) lc_cl (lc_WG G) H) : ∀ a, a < 121 → lc_KP G H a := lt_s (lc_q119 hP) (lc_k120 hP)
theorem lc_q121 {G : lc_G} {H : Heap} (hP : va_P (lc_D G) lc_cl (lc_WG G) H) : ∀ a, a < 122 → lc_KP G H a := lt_s (lc_q120 hP) (lc_k121 hP)
theorem lc_wA (G : lc_G) (H : Heap) (hP : va_P (lc_D G) lc_cl (lc_WG G) H) : ∀ c, c < lc_NC → va_at (lc_D G) lc_cl (lc_ad G c, lc_ct G lc_z0 c) H := fun c hc => lc_q121 hP c hc
set_option maxHeartbeats 4000000 in
set_option maxRecDepth 100000 in
theorem lc_wB (G : lc_G) : ([121, 0, 1, 2, 12, 13, 14, 15, 16, 17, 18, 19, 20, 21, 22, 23, 24, 25, 26, 27, 28, 29, 30, 31, 32, 33, 34, 35, 36, 37, 38, 39, 40, 41, 42, 3, 4, 5, 6, 7, 8, 9, 10, 11, 43, 44, 45, 46, 47, 48, 49, 50, 51, 52, 53, 54, 55, 56, 57, 58, 59, 60, 61, 62, 63, 64, 65, 66, 67, 68, 69, 70, 71, 72, 73, 74, 75, 76, 77, 78, 79, 80, 81, 82, 83, 84, 85, 86, 87, 88, 89, 90, 91, 92, 93, 94, 95, 96, 97, 98, 99, 100, 101, 102, 103, 104, 105, 106, 107, 108, 109, 110, 111, 112, 113, 114, 115, 116, 117, 118, 119, 120] : List Nat).map (fun i => ((lc_WG G).map Prod.fst)[i]?) = ((List.range lc_NC).map (lc_ad G)).map some := rfl
theorem lc_world (G : lc_G) (H : Heap) (hP : va_P (lc_D G) lc_cl (lc_WG G) H) (hD : va_D (lc_A G) (lc_WG G)) : lc_P G lc_z0 H := by
  have hd := lc_D_of hD (by decide +kernel) (lc_wB G)
  have hl : ((List.range lc_NC).map (lc_ad G)).length = lc_NC := by rw [List.length_map, List.length_range]
  refine lc_P_of (lc_wA G H hP) (fun i j hi hj h => hd.1 i j (by rw [hl]; exact hi) (by rw [hl]; exact hj) (by rw [lc_getmap _ hi, lc_getmap _ hj]; exact h)) (fun i hi => by have := hd.2 i (by rw [hl]; exact hi); rw [lc_getmap _ hi] at this; exact this)
def lc_QL (x0 y0 u0 : Nat) (qa qc : Nat → Nat) : List Nat := [u0, x0, qa 0, qa 1, qa 11, qa 12, qa 13, qa 14, qa 15, qa 16, qa 17, qa 18, qa 19, qa 20, qa 21, qa 22, qa 23, qa 24, qa 25, qa 26, qa 27, qa 28, qa 29, qa 30, qa 31, qa 32, qa 33, qa 34, qa 35, qa 36, qa 37, qa 38, qa 39, qa 40, qa 41, qa 2, qa 3, qa 4, qa 5, qa 6, qa 7, qa 8, qa 9, qa 10, qa 42, qa 43, qa 44, qa 45, qa 46, qa 47, qa 48, qa 49, qa 50, qa 51, qa 52, qa 53, qa 54, qa 55, qa 56, qa 57, qa 58, qa 59, qa 60, qa 61, qa 62, qa 63, qa 64, qa 65, qa 66, qa 67, qa 68, qa 69, qa 70, qa 71, qa 72, qa 73, qa 74, qa 75, qa 76, qa 77, y0, qc 0, qc 1, qc 2, qc 3, qc 4, qc 5, qc 6, qc 7, qc 8, qc 9, qc 10, qc 11, qc 12, qc 13, qc 14, qc 15, qc 16, qc 17, qc 18, qc 19, qc 20, qc 21, qc 22, qc 23, qc 24, qc 25, qc 26, qc 27, qc 28, qc 29, qc 30, qc 31, qc 32, qc 33, qc 34, qc 35, qc 36, qc 37, qc 38, qc 39, qc 40]
def lc_G1 (G : lc_G) (QL : List Nat) : lc_G := (G.1, G.2.1, fun c => QL.getD c 0, G.2.2.2.1, G.2.2.2.2)
set_option maxHeartbeats 4000000 in
set_option maxRecDepth 100000 in
theorem lc_Weq (G : lc_G) (x0 y0 u0 : Nat) (qa qc : Nat → Nat) : lc_WG (lc_G1 G (lc_QL x0 y0 u0 qa qc)) = (lc_WA G x0 qa ++ lc_WQ G y0 qc) ++ [(u0, .inl (lc_cA G 3, 1, .inr (.inl (fun _ => 0))))] := rfl
theorem lc_joinL {A0 : Nat → Prop} {D : va_G} {cl : List vw_C} {ws w1 : va_W} {x : Nat × va_E} {H H1 : Heap} (hP : va_P D cl (ws ++ [x]) H) (hD : va_D A0 (ws ++ [x])) (hk : ∀ q : Nat, q < H.size → ¬ va_A [x] H.size q → H1[q]? = H[q]?) (hF : ∀ q, va_A [x] H.size q → A0 q) (hP1 : va_P D cl w1 H1) (hD1 : va_D (va_A [x] H.size) w1) : va_P D cl (ws ++ w1) H1 ∧ va_D A0 (ws ++ w1) := by
  have hnd : ∀ n a, va_nd (List.range' a n) = true := by
    intro n
    induction n with
    | zero => intro a; rfl
    | succ n ih =>
      intro a
      rw [List.range'_succ]
      simp only [va_nd, ih, Bool.and_true, decide_eq_true_eq, List.mem_range'_1]
      omega
  refine va_join hP hD [ws.length] (List.range ws.length) ?_ ?_ ?_ ?_ hk hF hP1 hD1
  · simp
  · apply List.ext_getElem?
    intro i
    rw [List.getElem?_map, List.getElem?_map]
    by_cases hi : i < ws.length
    · rw [List.getElem?_range hi, List.getElem?_eq_getElem hi]
      simp [List.getElem?_append_left hi]
    · rw [List.getElem?_eq_none (by rw [List.length_range]; omega), List.getElem?_eq_none (by omega)]
      rfl
  · rw [List.range_eq_range']; exact hnd _ _
  · intro i hi h
    have h1 := List.mem_range.mp hi
    have h2 := List.mem_singleton.mp h
    omega
theorem lc_lastP {D : va_G} {cl : List vw_C} {ws : va_W} {x : Nat × va_E} {H : Heap} (hP : va_P D cl (ws ++ [x]) H) : va_P D cl [x] H := hP.sub [ws.length] (by simp)
theorem lc_lastD {A0 : Nat → Prop} {ws : va_W} {x : Nat × va_E} (hD : va_D A0 (ws ++ [x])) : va_D A0 [x] := hD.sub [ws.length] (by simp [va_nd]) (by simp)
theorem lc_lastF {A0 : Nat → Prop} {ws : va_W} {x : Nat × va_E} {H0 H : Heap} {locs : List Loc} (hD : va_D A0 (ws ++ [x])) (hS : va_S A0 H0 H locs) (hA : ∀ q, H0.size ≤ q → A0 q) : ∀ q, va_A [x] H.size q → A0 q := va_free hD hS hA [ws.length] (by simp)
