set_option maxHeartbeats 8000000 in
set_option maxRecDepth 100000 in
theorem lc_start {p : Program} {e : Env} {s : State} {m : MethodId} {below : List Frame} {meth : Method} {c : Code} (l : Launch) (htr : l.stackTraces = false) {b L : Nat} {xs : Nat → Int32} (hL : L ≤ 1536) (C0 : lw_At p s m meth c b L xs)
    (I : Nat → lc_S → Prop) (hI0 : I 0 lc_z0) (hstep : ∀ (n : Nat) (z : lc_S), 3 * n + 3 ≤ L → I n z → ∃ z', lc_turn (xs (3 * n)) (xs (3 * n + 1)) (xs (3 * n + 2)) z z' ∧ I (n + 1) z') :
    W p l e room_1 s m #[Value.ref b] below meth c s.heap [] 0 0 (lw_Z below #[Value.ref b] s) (entryFrame m ([Value.ref b] : List Value).toArray 7) := by
  obtain ⟨hx, hb, hr, hml, hown, hts1, hX, hbl, hlocks, hgv⟩ := id C0
  have hts : ∀ w ∈ lc_ALL, w.before #[Value.ref b] s = true := fun w h => hts1 w (List.mem_filter.mp h).1
  obtain ⟨dC, dI, cA, hE0⟩ := lc_env hts1
  obtain ⟨G, hE, hb0⟩ : ∃ G : lc_G, lc_E G s ∧ G.2.2.2.2 = s.heap.size := ⟨(dC, dI, fun _ => 0, cA, s.heap.size), hE0 _ _, rfl⟩
  have hP : va_P (lc_D G) lc_cl [] s.heap := fun k q hk => by cases hk
  have hD : va_D (lc_A G) [] := ⟨fun i j p q h => (by cases h), fun k q h => (by cases h)⟩
  have hA : ∀ q : Nat, s.heap.size ≤ q → lc_A G q := fun q h => by show G.2.2.2.2 ≤ q; rw [hb0]; exact h
  have hS : va_S (lc_A G) s.heap s.heap [] := va_S.rf
  have hl := lv_entry ([.ref b]) (n := 7) (Nat.le_of_ble_eq_true rfl)
  rw [lg_entry_eq]
  generalize (lg_sl ([.ref b]) ++ List.replicate (7 - (lg_sl ([.ref b])).length) Slot.unset).toArray = ls at hl ⊢
  have hl : lv_has ls 7 [(0, .ref b)] := hl
  refine va_new (D := lc_D G) (cl := lc_cl) (ci := 0) (fs := [.null, .int 0, .null, .null, .null, .null, .null]) (C := "LinearCells") (T := TA_) (N := 7) hx hb hts inwA_ tyA_ tyA_ok hown (hts _ klLaw_8) (hts _ kt_A) (hts _ ki_A) hE.1 hP hD hS hA rfl (by decide) (Nat.le_of_ble_eq_true rfl) (Nat.le_of_ble_eq_true rfl) dL_law_0 (fun x0 H hP hD hS => ?_)
  refine lv_dup hx hb dL_law_3 rfl ?_
  have hFc := lc_lastF hD hS hA
  refine va_callv (va_runI (As := []) (rest := [.ref x0]) ⟨hx, hb, hml, hown, hts⟩ (iA l G x0 H.size) (lc_cwPI hts kc_A kxLaw_37 km_A ki_A ⟨by decide, by decide, by decide +kernel⟩ rfl ⟨by decide, by decide⟩) (lc_preC hE (lc_lastP hP) (lc_lastD hD)) rfl rfl hl.1 rfl (lv_room (Nat.le_of_ble_eq_true rfl)) dL_law_4 ⟨Nat.le_of_ble_eq_true rfl, Nat.le_of_ble_eq_true rfl⟩) hS (fun q _ h => hFc q h) hFc (fun u t H1 locs ht hvm hw hB hz1 hk1 hS => ?_)
  obtain ⟨qa, hP1, hD1⟩ := hB
  rw [ht] at hP1
  obtain ⟨hP, hD⟩ := lc_joinL hP hD hk1 hFc hP1 hD1
  generalize H1 = H at hP hS ⊢
  refine lv_astore_n hx hb dL_law_7 rfl hl (by decide) rfl (fun ls hl => ?_)
  replace hl : lv_has ls 7 [(1, .ref x0), (0, .ref b)] := hl
  refine va_new (D := lc_D G) (cl := lc_cl) (ci := 7) (fs := [.int 0, .int 0, .null, .null, .null, .null, .null, .null, .null, .null, .null, .null, .null, .int 0, .int 0, .int 0, .int 0, .null, .null, .int 0, .null, .null, .null, .int 0, .null, .int 0, .null, .null, .null, .null, .null, .null, .null, .int 0, .null, .null, .null, .null, .null, .null, .int 0, .null, .null, .null, .null, .int 0, .int 0, .long 0, .int 0, .int 0, .int 0, .null, .null, .int 0, .null, .null, .null, .null, .null]) (C := "LinearCellsModel") (T := TQ_) (N := 59) hx hb hts inwQ_ tyQ_ tyQ_ok hown (hts _ klLaw_38) (hts _ kt_Q) (hts _ ki_Q) hE.1 hP hD hS hA rfl (by decide) (Nat.le_of_ble_eq_true rfl) (Nat.le_of_ble_eq_true rfl) dL_law_8 (fun y0 H hP hD hS => ?_)
  refine lv_dup hx hb dL_law_11 rfl ?_
  have hFc := lc_lastF hD hS hA
  refine va_callv (va_runI (As := []) (rest := [.ref y0]) ⟨hx, hb, hml, hown, hts⟩ (iQ l G y0 H.size) (lc_cwPI hts kc_Q kxLaw_40 km_Q ki_Q ⟨by decide, by decide, by decide +kernel⟩ rfl ⟨by decide, by decide⟩) (lc_preC hE (lc_lastP hP) (lc_lastD hD)) rfl rfl hl.1 rfl (lv_room (Nat.le_of_ble_eq_true rfl)) dL_law_12 ⟨Nat.le_of_ble_eq_true rfl, Nat.le_of_ble_eq_true rfl⟩) hS (fun q _ h => hFc q h) hFc (fun u t H1 locs ht hvm hw hB hz1 hk1 hS => ?_)
  obtain ⟨qc, hP1, hD1⟩ := hB
  rw [ht] at hP1
  obtain ⟨hP, hD⟩ := lc_joinL hP hD hk1 hFc hP1 hD1
  generalize H1 = H at hP hS ⊢
  refine lv_astore_n hx hb dL_law_15 rfl hl (by decide) rfl (fun ls hl => ?_)
  replace hl : lv_has ls 7 [(2, .ref y0), (1, .ref x0), (0, .ref b)] := hl
  refine lv_iconst (v := 1) hx hb dL_law_16 (by decide) ?_
  refine lc_newa (t := 3) (ty := .long) (a0 := (1, .inr (.inl (fun _ => 0)))) hx hb hts ka_long rfl rfl hE hP hD hS hA (fun _ => rfl) (by decide) (by decide) (Nat.le_of_ble_eq_true rfl) (Nat.le_of_ble_eq_true rfl) (Nat.le_of_ble_eq_true rfl) dL_law_17 (fun u0 H hP hD hS => ?_)
  refine lv_astore_n hx hb dL_law_19 rfl hl (by decide) rfl (fun ls hl => ?_)
  replace hl : lv_has ls 7 [(3, .ref u0), (2, .ref y0), (1, .ref x0), (0, .ref b)] := hl
  refine lv_iconst (v := 0) hx hb dL_law_20 (by decide) ?_
  refine lv_istore hx hb dL_law_21 hl (by decide) rfl (fun ls hl => ?_)
  replace hl : lv_has ls 7 [(4, .int 0), (3, .ref u0), (2, .ref y0), (1, .ref x0), (0, .ref b)] := hl
  have hw := lc_world (lc_G1 G (lc_QL x0 y0 u0 qa qc)) H (by rw [lc_Weq]; exact hP) (by rw [lc_Weq]; exact hD)
  refine W.widen (k := 1000 + 0) (n := 40000 + 6 * 0) (Nat.le_of_ble_eq_true rfl) (Nat.le_of_ble_eq_true rfl) ?_
  exact lc_loop l htr hL C0 (lc_G1 G (lc_QL x0 y0 u0 qa qc)) hb0 hE (lc_T0 hts1 hgv hb0) I hstep (L + 1) 0 (by omega) (by omega) hI0 ⟨hw, hS⟩ (lv_sub hl [4, 3, 2, 1, 0] rfl)
