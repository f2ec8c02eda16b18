/-! the invariant of the turns -/
theorem lc_ckf {c k : Nat} (h : ¬ (8 ≤ c ∧ c ≤ 18)) (h' : ¬ (c = 80 ∧ (k = 0 ∨ k = 23 ∨ k = 25))) (h2 : ¬ (97 ≤ c ∧ c ≤ 104)) (h3 : c ≠ 120) (h4 : c ≠ 121) : lc_a3 c k = false ∧ lc_a4 c k = false := by
  refine ⟨lc_a3_f h, Bool.eq_false_iff.mpr (fun e => ?_)⟩
  unfold lc_a4 at e
  simp only [Bool.or_eq_true, Bool.and_eq_true, Nat.beq_eq, Nat.ble_eq] at e
  omega
theorem lc_rkf {c k : Nat} (h : ¬ (19 ≤ c ∧ c ≤ 34)) (h' : ¬ (c = 80 ∧ (k = 0 ∨ 33 ≤ k))) (h2 : ¬ (105 ≤ c ∧ c ≤ 118)) : lc_a1 c k = false ∧ lc_a2 c k = false := by
  refine ⟨Bool.eq_false_iff.mpr (fun e => ?_), Bool.eq_false_iff.mpr (fun e => ?_)⟩
  · unfold lc_a1 at e
    simp only [Bool.and_eq_true, Nat.ble_eq] at e
    omega
  · unfold lc_a2 at e
    simp only [Bool.or_eq_true, Bool.and_eq_true, Nat.beq_eq, Nat.ble_eq] at e
    omega
theorem lc_dr_g {z z' : lc_S} (h : lc_dr z) (h1 : lcI z' 1 1 = lcI z 1 1) (h2 : lcI z' 80 1 = lcI z 80 1) (h3 : ∀ j, lcI z' 2 j = lcI z 2 j ∧ lcI z' 81 j = lcI z 81 j) : lc_dr z' := by
  obtain ⟨d, d1, d2, d3, d4⟩ := h
  exact ⟨d, d1, by rw [h1]; exact d2, by rw [h2]; exact d3, fun j hj => by rw [(h3 j).1, (h3 j).2]; exact d4 j hj⟩
theorem lc_JJ_ck {z z' : lc_S} (h : lc_JJ z) (hc : lc_ck z z') (h3 : lc_t3 z') : lc_JJ z' := by
  have f : ∀ c k, c ≠ 0 → ¬ (8 ≤ c ∧ c ≤ 18) → ¬ (c = 80 ∧ (k = 0 ∨ k = 23 ∨ k = 25)) → ¬ (97 ≤ c ∧ c ≤ 104) → c ≠ 120 → c ≠ 121 → lcI z' c k = lcI z c k ∧ lcL z' c k = lcL z c k ∧ lcR z' c k = lcR z c k := fun c k a0 a1 a2 a3 a4 a5 => hc c k a0 (lc_ckf a1 a2 a3 a4 a5).1 (lc_ckf a1 a2 a3 a4 a5).2
  have km : lc_km z z' := fun c k g => ⟨(f c k (by omega) (by omega) (by omega) (by omega) (by omega) (by omega)).1, (f c k (by omega) (by omega) (by omega) (by omega) (by omega) (by omega)).2.1⟩
  exact lc_JJ_keep h (lc_dr_g h.1 (f 1 1 (by omega) (by omega) (by omega) (by omega) (by omega) (by omega)).1 (f 80 1 (by omega) (by omega) (by omega) (by omega) (by omega) (by omega)).1 (fun j => ⟨(f 2 j (by omega) (by omega) (by omega) (by omega) (by omega) (by omega)).1, (f 81 j (by omega) (by omega) (by omega) (by omega) (by omega) (by omega)).1⟩)) (lc_mem_km km h.2.1) (lc_vl_km km h.2.2.1) h3 (fun c k g => (f c k (by omega) (by omega) (by omega) (by omega) (by omega) (by omega)).1) (fun c k g => (f c k (by omega) (by omega) (by omega) (by omega) (by omega) (by omega)).2.2)
theorem lc_JJ_rk {z z' : lc_S} (h : lc_JJ z) (hc : lc_rk z z') (hm : lc_mem z') (hv : lc_vl z') : lc_JJ z' := by
  have f : ∀ c k, c ≠ 0 → ¬ (19 ≤ c ∧ c ≤ 34) → ¬ (c = 80 ∧ (k = 0 ∨ 33 ≤ k)) → ¬ (105 ≤ c ∧ c ≤ 118) → lcI z' c k = lcI z c k ∧ lcL z' c k = lcL z c k ∧ lcR z' c k = lcR z c k := fun c k a0 a1 a2 a3 => hc c k a0 (lc_rkf a1 a2 a3).1 (lc_rkf a1 a2 a3).2
  exact lc_JJ_keep h (lc_dr_g h.1 (f 1 1 (by omega) (by omega) (by omega) (by omega)).1 (f 80 1 (by omega) (by omega) (by omega) (by omega)).1 (fun j => ⟨(f 2 j (by omega) (by omega) (by omega) (by omega)).1, (f 81 j (by omega) (by omega) (by omega) (by omega)).1⟩)) hm hv (lc_t3_eq (fun c j a b => (f c j (by omega) (by omega) (by omega) (by omega)).1) h.2.2.2.1) (fun c k g => (f c k (by omega) (by omega) (by omega) (by omega)).1) (fun c k g => (f c k (by omega) (by omega) (by omega) (by omega)).2.2)
theorem lc_JJ_qw {z z' : lc_S} (h : lc_JJ z) (hc : lc_qw z z') : lc_JJ z' := by
  have f : ∀ c k, ¬ (c = 80 ∧ k = 0) → c ≠ 120 → c ≠ 121 → lcI z' c k = lcI z c k := fun c k a0 a1 a2 => hc.1 c k a0 (fun e => by unfold lc_N2 at e; omega)
  have km : lc_km z z' := fun c k g => ⟨f c k (by omega) (by omega) (by omega), hc.2.1 c k (by omega)⟩
  exact lc_JJ_keep h (lc_dr_g h.1 (f 1 1 (by omega) (by omega) (by omega)) (f 80 1 (by omega) (by omega) (by omega)) (fun j => ⟨f 2 j (by omega) (by omega) (by omega), f 81 j (by omega) (by omega) (by omega)⟩)) (lc_mem_km km h.2.1) (lc_vl_km km h.2.2.1) (lc_t3_eq (fun c j a b => f c j (by omega) (by omega) (by omega)) h.2.2.2.1) (fun c k g => f c k (by omega) (by omega) (by omega)) (fun c k g => hc.2.2 c k)
theorem lc_JJ_qd {z z' : lc_S} (h : lc_JJ z) (hd : lc_dr z') (hc : lc_qd z z') : lc_JJ z' := by
  have km : lc_km z z' := fun c k g => ⟨hc.1 c k (by omega) (by omega) (by omega) (by omega), hc.2.1 c k (by omega)⟩
  exact lc_JJ_keep h hd (lc_mem_km km h.2.1) (lc_vl_km km h.2.2.1) (lc_t3_eq (fun c j a b => hc.1 c j (by omega) (by omega) (by omega) (by omega)) h.2.2.2.1) (fun c k g => hc.1 c k (by omega) (by omega) (by omega) (by omega)) (fun c k g => hc.2.2 c k)
theorem lc_JJ_turn (z : lc_S) (a b c : Int32) (h : lc_JJ z) : ∃ z', lc_turn a b c z z' ∧ lc_JJ z' := by
  unfold lc_turn
  by_cases h0 : a &&& 7 = 0
  · obtain ⟨z', e1, e2, e3⟩ := lc_draftT z (lc_lng b c) h.1
    exact ⟨z', by rw [if_pos h0]; exact e1, lc_JJ_qd h e2 e3⟩
  by_cases h1 : a &&& 7 = 1
  · obtain ⟨z', e1, e2⟩ := lc_defineT z b h
    exact ⟨z', by rw [if_neg h0, if_pos h1]; exact e1, e2⟩
  by_cases h2 : a &&& 7 = 2
  · obtain ⟨T, S, hT⟩ := lc_JJ_PT h
    obtain ⟨g, hg⟩ := lc_JJ_PC h
    obtain ⟨z', e1, e2, e3⟩ := lc_soundT z b (lc_JJ_PR h) hT hg h.2.2.2.1
    exact ⟨z', by rw [if_neg h0, if_neg h1, if_pos h2]; exact e1, lc_JJ_ck h e2 e3⟩
  by_cases h3 : a &&& 7 = 3
  · obtain ⟨T, S, hT⟩ := lc_JJ_PT h
    obtain ⟨z', e1, e2, e3⟩ := lc_typedT z b (lc_JJ_PR h) hT h.2.2.2.1
    exact ⟨z', by rw [if_neg h0, if_neg h1, if_neg h2, if_pos h3]; exact e1, lc_JJ_ck h e2 e3⟩
  by_cases h4 : a &&& 7 = 4
  · obtain ⟨z', e1, e2, e3, e4⟩ := lc_turnRun z b c (lc_JJ_PR h) h.2.1 h.2.2.1
    exact ⟨z', by rw [if_neg h0, if_neg h1, if_neg h2, if_neg h3, if_pos h4]; exact e1, lc_JJ_rk h e2 e3 e4⟩
  by_cases h5 : a &&& 7 = 5
  · obtain ⟨z', e1, e2⟩ := lc_valueT z b h.2.2.1
    exact ⟨z', by rw [if_neg h0, if_neg h1, if_neg h2, if_neg h3, if_neg h4, if_pos h5]; exact e1, lc_JJ_qw h e2⟩
  by_cases h6 : a &&& 7 = 6
  · obtain ⟨z', e1, e2⟩ := lc_heapT z b h.2.1
    exact ⟨z', by rw [if_neg h0, if_neg h1, if_neg h2, if_neg h3, if_neg h4, if_neg h5, if_pos h6]; exact e1, lc_JJ_qw h (lc_q_qw e2)⟩
  by_cases h7 : a &&& 7 = 7
  · obtain ⟨z', e1, e2⟩ := lc_cellT z b h.2.1
    exact ⟨z', by rw [if_neg h0, if_neg h1, if_neg h2, if_neg h3, if_neg h4, if_neg h5, if_neg h6, if_pos h7]; exact e1, lc_JJ_qw h (lc_q_qw e2)⟩
  · exact ⟨z, by rw [if_neg h0, if_neg h1, if_neg h2, if_neg h3, if_neg h4, if_neg h5, if_neg h6, if_neg h7], h⟩
theorem lc_JJ0 : lc_JJ lc_z0 := by
  have z0 : ∀ c k, c ≠ 9 → c ≠ 12 → c ≠ 13 → lcI lc_z0 c k = 0 := fun c k a b d => by
    show (if c = 9 ∧ k = 4 then (3 : Int32) else if c = 12 then _ else if c = 13 then _ else 0) = 0
    rw [if_neg (fun e => a e.1), if_neg b, if_neg d]
  have sh : ∀ k, k < 5 → lc_sh (35 + 9 * k) = (0, 1, 0) := by decide +kernel
  refine ⟨⟨0, by omega, z0 _ _ (by decide) (by decide) (by decide), z0 _ _ (by decide) (by decide) (by decide), fun j hj => absurd hj (by omega)⟩, ⟨fun j _ => ⟨?_, fun g => absurd (z0 _ _ (by decide) (by decide) (by decide)) g⟩, rfl, rfl, rfl, rfl, by decide +kernel⟩, ⟨0, ⟨by omega, z0 _ _ (by decide) (by decide) (by decide), z0 _ _ (by decide) (by decide) (by decide), fun i hi => absurd hi (by omega)⟩, Or.inl ⟨by decide +kernel, Or.inl (z0 _ _ (by decide) (by decide) (by decide))⟩⟩, ⟨fun j _ => ⟨z0 _ _ (by decide) (by decide) (by decide), z0 _ _ (by decide) (by decide) (by decide)⟩, by decide +kernel, by decide +kernel, by decide +kernel, by decide +kernel, by decide +kernel, by decide +kernel⟩, fun j _ => Or.inl (z0 _ _ (by decide) (by decide) (by decide)), ⟨fun k => if k = 4 then 35 else 44 + 9 * k, fun k hk => ?_, rfl, fun k hk => ?_, fun i j hi hj hij => ?_⟩, fun j hj => ?_⟩
  · rw [z0 21 j (by decide) (by decide) (by decide), z0 115 j (by decide) (by decide) (by decide)]
  · show (if (3 : Nat) = 1 ∧ k = 3 then some 35 else if (3 : Nat) = 3 ∧ k < 4 then some (44 + 9 * k) else none) = some (if k = 4 then 35 else 44 + 9 * k)
    rw [if_neg (by omega), if_pos ⟨rfl, hk⟩, if_neg (by omega)]
  · show lc_sh (if k = 4 then 35 else 44 + 9 * k) = _
    split
    · exact sh 0 (by omega)
    · have := sh (k + 1) (by omega)
      rw [show 35 + 9 * (k + 1) = 44 + 9 * k by omega] at this
      exact this
  · show (if i = 4 then 35 else 44 + 9 * i) ≠ (if j = 4 then 35 else 44 + 9 * j)
    split <;> split <;> omega
  · have hsh := sh (j + 1) (by omega)
    rw [show 35 + 9 * (j + 1) = 44 + 9 * j by omega] at hsh
    have h0 : lcI lc_z0 (44 + 9 * j) 0 = 0 := z0 _ _ (by omega) (by omega) (by omega)
    refine ⟨44 + 9 * j, .nil, .nil, 0, ?_, hsh, Or.inl ⟨h0, z0 _ _ (by decide) (by decide) (by decide)⟩, fun g => absurd h0 g, by omega, fun _ => rfl, fun g => absurd h0 g⟩
    show (if (3 : Nat) = 1 ∧ j = 3 then some 35 else if (3 : Nat) = 3 ∧ j < 4 then some (44 + 9 * j) else none) = some (44 + 9 * j)
    rw [if_neg (by omega), if_pos ⟨rfl, hj⟩]
theorem lc_pure0 : ∃ I : Nat → lc_S → Prop, I 0 lc_z0 ∧ ∀ (n : Nat) (z : lc_S) (a b c : Int32), n < 512 → I n z → ∃ z', lc_turn a b c z z' ∧ I (n + 1) z' :=
  ⟨fun _ z => lc_JJ z, lc_JJ0, fun _ z a b c _ h => lc_JJ_turn z a b c h⟩
