/-! a turn of typed -/
theorem lc_okth {y z : lc_S} {T S : Nat → lc_tp} (hPR : lc_PR y z) (hPT : lc_PTs y z T S) : ∃ (ok : Nat → Nat) (th : Nat → Prop), ∀ k, k < 4 → lcR y 3 k = some (ok k) ∧ lc_sh (ok k) = (0, 1, 0) ∧ (th k ↔ lcI y (ok k) 0 ≠ 0) ∧ (th k → lc_PT y z k (ok k) (T k) (S k)) ∧ (th k ↔ 0 < lcI z 89 (k + 1)) ∧ (th k → ∃ n, 0 < n ∧ n ≤ 120 ∧ lcI y (ok k) 11 = nI n ∧ lcI z 89 (k + 1) = nI n ∧ lc_R y z (ok k) (120 * (k + 1)) 17 0 (n - 1) 0 n [(0, 0, -1, 0)]) := by
  refine ⟨fun k => (lcR y 3 k).getD 0, fun k => lcI y ((lcR y 3 k).getD 0) 0 ≠ 0, fun k hk => ?_⟩
  obtain ⟨o, p1, p2, p3⟩ := hPR k hk
  obtain ⟨o', q1, q2, q3⟩ := hPT k hk
  rw [p1] at q1
  cases q1
  have eo : (lcR y 3 k).getD 0 = o := by rw [p1]; rfl
  simp only [eo]
  refine ⟨p1, p2, trivial, q3, ?_, fun ht => ?_⟩
  · rcases p3 with ⟨g1, g2⟩ | ⟨g1, n, g2, g3, g4, g5, g6⟩
    · rw [g2]; exact ⟨fun h => absurd g1 h, fun h => absurd h (by decide)⟩
    · rw [g5]; exact ⟨fun _ => nI_lt (a := 0) g2 (by omega), fun _ => g1⟩
  · rcases p3 with ⟨g1, g2⟩ | ⟨g1, n, g2⟩
    · exact absurd g1 ht
    · exact ⟨n, g2⟩
/-- what a turn of typed or sound keeps -/
def lc_ck (z z' : lc_S) : Prop := ∀ c k, c ≠ 0 → lc_a3 c k = false → lc_a4 c k = false → lcI z' c k = lcI z c k ∧ lcL z' c k = lcL z c k ∧ lcR z' c k = lcR z c k
theorem lc_a3_f {c k : Nat} (h : ¬ (8 ≤ c ∧ c ≤ 18)) : lc_a3 c k = false := by
  unfold lc_a3
  rw [Bool.and_eq_false_iff]
  by_cases h8 : 8 ≤ c
  · right; exact Bool.eq_false_iff.mpr (fun e => by have := Nat.le_of_ble_eq_true e; omega)
  · left; exact Bool.eq_false_iff.mpr (fun e => by have := Nat.le_of_ble_eq_true e; omega)
theorem lc_t3_eq {y y' : lc_S} (e : ∀ c j, 10 ≤ c → c ≤ 13 → lcI y' c j = lcI y c j) (h : lc_t3 y) : lc_t3 y' := by
  obtain ⟨h6, h7, h8, h9, h10, h11, h12⟩ := h
  exact ⟨fun j hj => by rw [e _ _ (by decide) (by decide), e _ _ (by decide) (by decide)]; exact h6 j hj, by rw [e _ _ (by decide) (by decide)]; exact h7, by rw [e _ _ (by decide) (by decide)]; exact h8, by rw [e _ _ (by decide) (by decide)]; exact h9, by rw [e _ _ (by decide) (by decide)]; exact h10, by rw [e _ _ (by decide) (by decide)]; exact h11, by rw [e _ _ (by decide) (by decide)]; exact h12⟩
theorem lc_typedT (z : lc_S) (b : Int32) {T S : Nat → lc_tp} (hPR : lc_PR z z) (hPT : lc_PTs z z T S) (h3 : lc_t3 z) : ∃ z', lc_tX (fA_typed b) (fQ_typed b) (fun k => k = 0 ∨ k = 3) z z' ∧ lc_ck z z' ∧ lc_t3 z' := by
  obtain ⟨ok, th, hP⟩ := lc_okth hPR hPT
  rcases lc_isThereA b (lc_PR_o hPR b) with ⟨k, o, hk, rfl, r1, r2, r3⟩ | ⟨r3, r4⟩
  · obtain ⟨p1, p2, p3, p4, p5, p6⟩ := hP k hk
    rw [r1] at p1
    cases p1
    have htk : th k := p3.mpr r2
    obtain ⟨cnt, n1, n2, n3, n4, n5⟩ := p6 htk
    have hnd := lc_R_nd 17 0 (cnt - 1) 0 cnt _ n5 (rfl : lc_eo z z (ok k) (120 * (k + 1)) [(0, 0, -1, 0)] 0 0)
    obtain ⟨y1, δ1, m1, τ, VT, GT, a1, a2, a3, a4, a5, a6⟩ := lc_bodyA (y := z) (z := z) (T := T) (S := S) (ok := ok) (th := th) h3 (fun k hk => ⟨(hP k hk).1, (hP k hk).2.1, (hP k hk).2.2.1, (hP k hk).2.2.2.1⟩) hk n1 n2 n3 (fun j hj => hnd j (by omega) (by omega))
    obtain ⟨t1, t2, t3, t4⟩ := a2
    obtain ⟨u1, u2⟩ := t2 (cnt - 1) (by omega)
    have hm1 := t1.2.2.1
    have c1 : lc_in (nI (τ (cnt - 1))) 243 := nI_in (by omega) (by decide)
    have d1 : (nI (τ (cnt - 1))).toNatClampNeg = τ (cnt - 1) := nI_clamp (by omega)
    obtain ⟨r, er⟩ : ∃ r, r = lcI y1 12 (τ (cnt - 1)) := ⟨_, rfl⟩
    have hA : fK_numberOfBodyType 3 (nI k) z = some (r, y1) := by
      rw [fK_numberOfBodyType, lc_bnd_eq a1, lc_bnd_eq (show fT_numberOf (nI (τ (cnt - 1))) y1 = some (r, y1) by rw [fT_numberOf, lc_chk_pos c1, d1, er])]
    have hlo := g3K_numberOfBodyType hA
    obtain ⟨o1, o2, o3⟩ := lc_out_fr 0 r y1
    obtain ⟨z1, ez1⟩ : ∃ x, x = lcUI (lc_out 0 r y1) 80 0 0 := ⟨_, rfl⟩
    have hi : ∀ c k, 81 ≤ c → lcI z1 c k = lcI z c k := fun c k hc => by
      rw [ez1, lcI_UI, if_neg (by omega), o1]; exact (hlo c k (lc_a3_f (by omega))).1
    have sz : lc_sz z z1 := fun c k a b => hi c k (by omega)
    have sy : lc_sy z y1 := fun c k a b => (hlo c k (lc_a3_f (by omega))).1
    obtain ⟨rq, z2, δ2, m2, e1, e2, e3, e4, e5, e6⟩ := lc_findQ (y := y1) (z := z1) (o := ok k) (k := k) (cnt := cnt) (ρ := fun j => lc_oA δ1 (τ j)) (VT := VT) (GT := GT) (T := T) (S := S) (ok := ok) (th := th) hk n1 n2 htk (by rw [hi _ _ (by decide)]; exact n4) t4 (lc_R_eq (lc_o p2) sy sz _ _ _ _ _ _ n5) a3 (fun k hk => by
      obtain ⟨w1, w2, w3, w4, w5, w6⟩ := hP k hk
      exact ⟨by rw [hi _ _ (by decide)]; exact w5, w2, fun h => lc_PT_eq w2 sy sz (w4 h)⟩)
    have hroot : lc_pp2 y1 z1 (ok k) (120 * (k + 1)) cnt (cnt - 1) 0 := ⟨17, 0, cnt, _, lc_R_eq (lc_o p2) sy sz _ _ _ _ _ _ n5, rfl, by omega, Nat.le_refl _⟩
    have th1 : fQ_isThere (nI k) (lc_out 0 r y1) = some (1, lc_out 0 r y1) := by
      have e89 : lcI (lc_out 0 r y1) 89 (k + 1) = nI cnt := by rw [o1, (hlo 89 (k + 1) rfl).1]; exact n4
      rw [lc_isThereQ hk, e89, if_pos (show (0 : Int32) < nI cnt from nI_lt (a := 0) n1 (by omega))]
    have z10 : lcI z1 80 0 = 0 := by rw [ez1]; simp only [lcI_UI, lcI_UL, lcI_UR, lcL_UI, lcL_UL, lcL_UR, lcR_UI, lcR_UL, lcR_UR, false_and, and_false, true_and, and_true, and_self, ↓reduceIte, Nat.reduceEqDiff, lc_let_eq]
    have hQ : ∃ z3, fQ_typed (nI k) (lc_out 0 r y1) = some (r, z3) ∧ lcI z3 80 0 = 0 := by
      have h0 : fQ_typed (nI k) (lc_out 0 r y1) = lc_bnd (fQ_find (nI k) z1) (fun r26 z26 => if r26 = 0 then (fQ_typed_32 z26) else (fQ_typed_36 lc_FU 0 z26)) := by
        rw [fQ_typed, lc_bnd_eq th1, if_neg (by decide), fQ_typed_14, ← ez1, z10, if_neg (by decide)]
      rw [h0, lc_bnd_eq e1]
      rcases e2 with ⟨q1, q2⟩ | ⟨q1, q2⟩
      · rw [q1, if_neg (by decide)]
        rcases e5 _ _ hroot with ⟨-, x⟩ | ⟨u, v1, v2, v3⟩
        · exact absurd x q2
        · obtain ⟨z3, w1, w2, w3, w4⟩ := lc_numQ (u := u) (n := m2) (δ := δ2) (u + 1) 0 lc_FU z2 (by omega) (by have := e3.2.2.1; unfold lc_FU; omega) e3 v1 v2 (fun s hs => absurd hs (by omega))
          refine ⟨z3, ?_, ?_⟩
          · refine Eq.trans w1 ?_
            have t0 : τ (cnt - 1) ≠ 0 := fun h => q2 (lc_oA_none.mpr h)
            rw [er, (lc_TA_12 t1 (by omega) u2).1]
            have v3' : lc_oA δ1 (τ (cnt - 1)) = some (δ2 u) := v3
            unfold lc_oA at v3'
            rw [if_neg t0] at v3'
            rw [Option.some.inj v3']
          · rw [w2 _ _ (by decide), e6.1 _ _ (by omega) (by omega)]; exact z10
      · rw [q1, if_pos rfl]
        refine ⟨z2, ?_, by rw [e6.1 _ _ (by omega) (by omega)]; exact z10⟩
        have t0 : τ (cnt - 1) = 0 := lc_oA_none.mp q2
        rw [er, t0, t1.2.2.2.2.2.1.2.1]; rfl
    obtain ⟨z3, hQ, hz3⟩ := hQ
    obtain ⟨h1, h2, h3'⟩ := lc_hi_eq (gQ_typed hQ)
    have hfr := g4Q_typed hQ
    refine ⟨z3, ⟨0, r, y1, r, z3, ?_, Or.inl rfl, hQ, ?_, fun _ => ?_⟩, fun c k h0 ha hb => ?_, ?_⟩
    · rw [fA_typed, lc_bnd_eq r3, if_neg (by decide), lc_bnd_eq hA]
    · rw [fQ_thrown, hz3]; rfl
    · rw [h2 0 _ (by decide)]; unfold lc_out; rw [if_pos rfl, lcL_UL, if_pos ⟨rfl, rfl⟩]
    · obtain ⟨x1, x2, x3⟩ := hfr c k hb
      obtain ⟨w1, w2, w3⟩ := hlo c k ha
      exact ⟨by rw [x1, o1, w1], by rw [x2, o2 c k h0, w2], by rw [x3, o3, w3]⟩
    · exact lc_t3_eq (y := y1) (fun c j a b => by rw [h1 c j (by omega), o1]) t1.2.2.2.2.2.1
  · have hq : fQ_isThere b (lc_out 3 0 z) = some (0, lc_out 3 0 z) := lc_isThereQ0 b (fun k hk e => by
      obtain ⟨o, p1, p2, p3⟩ := hPR k hk
      have h0 := r4 k o hk e p1
      rcases p3 with ⟨-, p4⟩ | ⟨p4, -⟩
      · exact p4
      · exact absurd h0 p4)
    have hz : lc_out 3 0 z = z := rfl
    refine ⟨lcUI z 80 0 1, ⟨3, 0, z, 0, lcUI z 80 0 1, ?_, Or.inr rfl, ?_, ?_, fun h => by cases h⟩, fun c k h0 ha hb => ⟨?_, rfl, rfl⟩, lc_t3_eq (y := z) (fun c j a b => by rw [lcI_UI, if_neg (by omega)]) h3⟩
    · rw [fA_typed, lc_bnd_eq r3, if_pos rfl]
    · rw [fQ_typed, lc_bnd_eq hq, if_pos rfl, hz, fQ_typed_14, if_pos (by simp only [lcI_UI, lcI_UL, lcI_UR, lcL_UI, lcL_UL, lcL_UR, lcR_UI, lcR_UL, lcR_UR, false_and, and_false, true_and, and_true, and_self, ↓reduceIte, Nat.reduceEqDiff, lc_let_eq]; decide)]; rfl
    · rw [fQ_thrown]; simp only [lcI_UI, lcI_UL, lcI_UR, lcL_UI, lcL_UL, lcL_UR, lcR_UI, lcR_UL, lcR_UR, false_and, and_false, true_and, and_true, and_self, ↓reduceIte, Nat.reduceEqDiff, lc_let_eq]; rfl
    · rw [lcI_UI, if_neg (fun e => by rw [e.1, e.2] at hb; cases hb)]
