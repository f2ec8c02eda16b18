/-! a procedure without fault: class and reference -/
theorem lc_yes_eq {c : Prop} {v r r' : lc_ot} (h : lc_yes c v r) (g : lc_yes c v r') : r = r' := by
  rcases h with ⟨h1, h2⟩ | ⟨h1, h2⟩
  · rcases g with ⟨-, g2⟩ | ⟨g1, -⟩
    · rw [h2, g2]
    · exact absurd h1 g1
  · rcases g with ⟨g1, -⟩ | ⟨-, g2⟩
    · exact absurd g1 h1
    · rw [h2, g2]
theorem lc_loc_uniq {y : lc_S} {o k cnt : Nat} {ρ ρ' VT GT : Nat → lc_ot} (hc : cnt ≤ 120) (hnd : ∀ j, j < cnt → lc_nd y o j) (h : ∀ j, j < cnt → lc_loc y o k ρ VT GT j) (h' : ∀ j, j < cnt → lc_loc y o k ρ' VT GT j) : ∀ j, j < cnt → ρ j = ρ' j := by
  intro j
  induction j using Nat.strongRecOn with
  | ind j IH =>
    intro hj
    obtain ⟨a1, a2, a3⟩ := h j hj
    obtain ⟨b1, b2, b3⟩ := h' j hj
    obtain ⟨d0, hd⟩ := hnd j hj
    rcases hd with ⟨k1, -⟩ | ⟨k1, -, -, b, pt, q1, q2, q3, q4, q5⟩ | ⟨a, qa, q, hd⟩
    · rw [a1 k1, b1 k1]
    · obtain ⟨c1, c2⟩ := a2 k1 b pt q3 q4 q1 q2
      obtain ⟨e1, e2⟩ := b2 k1 b pt q3 q4 q1 q2
      rcases q5 with q5 | ⟨q5, a, q6, q7⟩
      · exact lc_part_det (c1 q5) (e1 q5)
      · have x1 := c2 a q5 q7 (by omega)
        have x2 := e2 a q5 q7 (by omega)
        rw [← IH a q6 (by omega)] at x2
        exact lc_part_det x1 x2
    · have ia := IH a qa (by omega)
      obtain ⟨c1, c2, c3⟩ := a3 a q (by omega)
      obtain ⟨e1, e2, e3⟩ := b3 a q (by omega)
      rw [← ia] at e1 e2 e3
      rcases hd with ⟨k1, -⟩ | ⟨k1, -, c, q1, q2⟩ | ⟨s, s1, s2, hd⟩
      · rcases k1 with k1 | k1 | k1
        · exact lc_yes_eq (c1.1 k1) (e1.1 k1)
        · exact lc_yes_eq (c1.2.1 k1) (e1.2.1 k1)
        · exact lc_yes_eq (c1.2.2 k1) (e1.2.2 k1)
      · exact lc_yes_eq (c2 k1 c q1 q2) (e2 k1 c q1 q2)
      · have is' := IH s s1 (by omega)
        obtain ⟨c4, c5⟩ := c3 s s2 (by omega)
        obtain ⟨e4, e5⟩ := e3 s s2 (by omega)
        rw [← is'] at e4 e5
        obtain ⟨u1, u2, u3, u4, u5⟩ := c4
        obtain ⟨v1, v2, v3, v4, v5⟩ := e4
        rcases hd with k1 | k1 | k1 | ⟨k1, t, t1, t2⟩
        · by_cases k44 : lcI y (o + 2) j = 44
          · rcases u3 k44 with ⟨x, x', w1, w2, w3⟩ | ⟨w1, w2⟩
            · rcases v3 k44 with ⟨x2, x2', p1, p2, p3⟩ | ⟨p1, p2⟩
              · rw [w1] at p1
                rw [w2] at p2
                rw [w3, p3, Option.some.inj p1, Option.some.inj p2]
              · rcases p1 with p1 | p1
                · rw [w1] at p1; cases p1
                · rw [w2] at p1; cases p1
            · rcases v3 k44 with ⟨x2, x2', p1, p2, p3⟩ | ⟨p1, p2⟩
              · rcases w1 with w1 | w1
                · rw [w1] at p1; cases p1
                · rw [w1] at p2; cases p2
              · rw [w2, p2]
          · by_cases k112 : lcI y (o + 2) j = 112
            · exact lc_yes_eq (u4 k112) (v4 k112)
            · exact lc_yes_eq (u5 (lc_cal_of k1 k44 k112)) (v5 (lc_cal_of k1 k44 k112))
        · exact lc_yes_eq (u1 k1) (v1 k1)
        · exact lc_yes_eq (u2 k1) (v2 k1)
        · have it := IH t t1 (by omega)
          have z1 := c5 k1 t t2 (by omega)
          have z2 := e5 k1 t t2 (by omega)
          rw [← it] at z2
          exact lc_yes_eq z1 z2
/-- procedure k is without fault -/
def lc_CK (y z : lc_S) (o k cnt : Nat) (ρ : Nat → lc_ot) (τ σ : lc_tp) : Prop := ρ (cnt - 1) = some σ ∧ lc_wv y o (some τ) 0 0 17 (cnt - 1) ∧ ∀ D i p, lc_pq y z o (120 * (k + 1)) cnt D i p → lc_Wp y o ρ D i
theorem lc_Wp_eq {y : lc_S} {o cnt D i : Nat} {ρ ρ' : Nat → lc_ot} (hd : lc_nd y o i) (hic : i < cnt) (he : ∀ j, j < cnt → ρ j = ρ' j) : lc_Wp y o ρ D i ↔ lc_Wp y o ρ' D i := by
  have key : ∀ a, lcI y (o + 3) i = nI a → a < 120 → ρ a = ρ' a := fun a e ha => by
    rcases hd.2 with ⟨-, q, -⟩ | ⟨-, q, -⟩ | ⟨a0, q0, q, -⟩
    · rw [q] at e; exact absurd e (lc_nI_m1 (by omega))
    · rw [q] at e; exact absurd e (lc_nI_m1 (by omega))
    · have : a = a0 := (nI_eq (by omega) (by have := hd.1; omega)).mp (e.symm.trans q)
      exact he a (by omega)
  refine ⟨fun h a a2 b g3 g4 g7 ga ga2 gb => ?_, fun h a a2 b g3 g4 g7 ga ga2 gb => ?_⟩
  · rw [← key a g3 ga]; exact h a a2 b g3 g4 g7 ga ga2 gb
  · rw [key a g3 ga]; exact h a a2 b g3 g4 g7 ga ga2 gb
theorem lc_dis0 : lc_dis [(0, 0, -1, 0)] := fun e h e' h' => by
  rw [List.mem_singleton.mp h, List.mem_singleton.mp h']
  exact ⟨fun _ => ⟨rfl, rfl⟩, fun _ => ⟨rfl, rfl⟩⟩
/-- the class's findsNoFault -/
theorem lc_faultA {y0 z0 y : lc_S} {T S : Nat → lc_tp} {ok : Nat → Nat} {th : Nat → Prop} {k cnt : Nat} {ρ VT GT : Nat → lc_ot} (h3 : lc_t3 y) (sy : lc_sy y0 y) (hP : ∀ k, k < 4 → lcR y 3 k = some (ok k) ∧ lc_sh (ok k) = (0, 1, 0) ∧ (th k ↔ lcI y (ok k) 0 ≠ 0) ∧ (th k → lc_PT y z0 k (ok k) (T k) (S k))) (hk : k < 4) (hth : th k) (hc0 : 0 < cnt) (hc : cnt ≤ 120) (h11 : lcI y0 (ok k) 11 = nI cnt) (h8 : lcI y0 (ok k + 8) 0 = -1) (hR : lc_R y0 z0 (ok k) (120 * (k + 1)) 17 0 (cnt - 1) 0 cnt [(0, 0, -1, 0)])
    (hVG : ∀ c, c < 4 → (th c ∧ VT c = some (T c) ∧ GT c = some (S c)) ∨ (¬ th c ∧ VT c = none ∧ GT c = none)) (hl : ∀ j, j < cnt → lc_loc y0 (ok k) k ρ VT GT j) : ∃ x y', fK_findsNoFault 3 (nI k) y = some (x, y') ∧ lc_kC y y' ∧ lc_t3 y' ∧ (x = 0 ∨ x = 1) ∧ (x = 1 ↔ lc_CK y0 z0 (ok k) k cnt ρ (T k) (S k)) := by
  obtain ⟨p1, p2, p3, p4⟩ := hP k hk
  have ho' := lc_o p2
  have hroot : lc_eo y0 z0 (ok k) (120 * (k + 1)) [(0, 0, -1, 0)] 0 0 := rfl
  have hnd0 := lc_R_nd 17 0 (cnt - 1) 0 cnt _ hR hroot
  obtain ⟨y1, δ1, m1, τ, VT', GT', a1, a2, a3, a4, a5, a6⟩ := lc_bodyA (y := y) (z := z0) (T := T) (S := S) (ok := ok) (th := th) h3 hP hk hc0 hc (by rw [sy _ _ (by omega) (by omega)]; exact h11) (fun j hj => lc_nd_eq p2 sy (hnd0 j (by omega) (by omega)))
  obtain ⟨t1, t2, t3, t4⟩ := a2
  have sy1 : lc_sy y0 y1 := fun c j a b => (a4.1 c j (by omega)).trans (sy c j a b)
  have sy1' : lc_sy y1 y0 := fun c j a b => (sy1 c j a b).symm
  have hV : ∀ c, c < 4 → VT' c = VT c ∧ GT' c = GT c := fun c hc => by
    rcases a3 c hc with ⟨u1, u2, u3⟩ | ⟨u1, u2, u3⟩
    · rcases hVG c hc with ⟨-, v2, v3⟩ | ⟨v1, -⟩
      · exact ⟨by rw [u2, v2], by rw [u3, v3]⟩
      · exact absurd u1 v1
    · rcases hVG c hc with ⟨v1, -⟩ | ⟨-, v2, v3⟩
      · exact absurd v1 u1
      · exact ⟨by rw [u2, v2], by rw [u3, v3]⟩
  have hl' : ∀ j, j < cnt → lc_loc y0 (ok k) k (fun j => lc_oA δ1 (τ j)) VT GT j := fun j hj => by
    have hj0 := lc_loc_eq (ρ' := fun j => lc_oA δ1 (τ j)) p2 sy1' (lc_nd_eq p2 sy1 (hnd0 j (by omega) (by omega))) (fun _ _ => rfl) (t4 j hj)
    obtain ⟨q1, q2, q3⟩ := hj0
    refine ⟨q1, fun e b pt w1 w2 w3 w4 => ?_, fun a w1 w2 => ?_⟩
    · obtain ⟨r1, r2⟩ := q2 e b pt w1 w2 w3 w4
      exact ⟨fun hb => by rw [← (hV k hk).1]; exact r1 hb, r2⟩
    · obtain ⟨r1, r2, r3⟩ := q3 a w1 w2
      exact ⟨r1, fun e c hc w => by rw [← (hV c hc).1, ← (hV c hc).2]; exact r2 e c hc w, r3⟩
  have hρ := lc_loc_uniq hc (fun j hj => hnd0 j (by omega) (by omega)) hl hl'
  obtain ⟨u1, u2⟩ := t2 (cnt - 1) (by omega)
  have hm1 := t1.2.2.1
  obtain ⟨xa, xb, v1, v2, v3, v4, v5, v6⟩ := t3 k hk
  rw [(hV k hk).1] at v5
  rw [(hV k hk).2] at v6
  have hVk : VT k = some (T k) ∧ GT k = some (S k) := by
    rcases hVG k hk with ⟨-, w⟩ | ⟨w, -⟩
    · exact w
    · exact absurd hth w
  have c1 : lc_in (nI k) 4 := nI_in hk (by decide)
  have d1 : (nI k).toNatClampNeg = k := nI_clamp (by omega)
  have s3 : lc_sh 3 = (3, 4, 4) := by decide +kernel
  have z0' : (nI (τ (cnt - 1)) = 0) = (τ (cnt - 1) = 0) := lc_eqn (b := 0) (by omega) (by decide)
  have z1' : (nI (τ (cnt - 1)) = nI xb) = (τ (cnt - 1) = xb) := lc_eqn (by omega) (by omega)
  have st : fK_findsNoFault 3 (nI k) y = if τ (cnt - 1) = 0 then some (0, y1) else if τ (cnt - 1) = xb then lc_bnd (fK_eachVariableIsUsedWell y1) (fun r33 z33 => if r33 = 0 then some (0, z33) else some (1, z33)) else some (0, y1) := by
    rw [fK_findsNoFault, lc_chk_pos s3, lc_chk_pos c1, lc_bnr_eq (by rw [d1]; exact p1), lc_chk_pos p2, if_neg (p3.mp hth), lc_bnd_eq a1]
    simp only [lc_chk_pos c1, d1, v4, z0', z1', fK_findsNoFault_43]
  have t3y1 : lc_t3 y1 := t1.2.2.2.2.2.1
  have root : ρ (cnt - 1) = lc_oA δ1 (τ (cnt - 1)) := hρ (cnt - 1) (by omega)
  by_cases h0 : τ (cnt - 1) = 0
  · refine ⟨0, y1, by rw [st, if_pos h0], a4, t3y1, Or.inl rfl, ⟨fun h => absurd h (by decide), fun h => ?_⟩⟩
    have := h.1
    rw [root, lc_oA_none.mpr h0] at this
    cases this
  · by_cases hb : τ (cnt - 1) = xb
    · have hgood : ρ (cnt - 1) = some (S k) := by rw [root, hb, v6]; exact hVk.2
      have sub := (lc_R_subs (cnt := cnt) 17 0 (cnt - 1) 0 cnt _ hR hroot lc_dis0 (by omega) (Nat.le_refl _)).1
      have hbt : fK_typeOfBound (nI 0) y1 = some (nI xa, y1) := by
        rw [fK_typeOfBound, if_pos (by decide), a6, lc_chk_pos c1, d1, v3]
      obtain ⟨x, y2, w1, w2, w3, w4⟩ := lc_wellA (y := y1) (b := 0) (pt := 0) (s := xa) p2 hR a5 sy1 (by decide) (by decide) (by rw [h8]; decide) t1 v1 hbt
      rw [v5, hVk.1] at w4
      have hbo : fP_body (ok k) y1 = some (nI (cnt - 1), y1) := by
        rw [fP_body, lc_chk_pos p2, sy1 _ _ (by omega) (by omega), h11, show cnt = cnt - 1 + 1 by omega, nI_pred]; rfl
      have ste : fK_eachVariableIsUsedWell y1 = if x = 0 then some (0, y2) else fK_eachVariableIsUsedWell_20 lc_FU 0 y2 := by
        rw [fK_eachVariableIsUsedWell, lc_bnr_eq a5, lc_chk_pos p2, lc_bnd_eq hbo, lc_bnd_eq (show fK_isUsedWell 0 0 (nI (cnt - 1)) y1 = some (x, y2) from w1)]
      have t3U : ∀ {y2 : lc_S}, lc_kU y1 y2 → lc_t3 y2 := fun k => lc_t3_eq (y := y1) (fun c j a b => k.1 c j (by omega)) t3y1
      have kCU : ∀ {y2 : lc_S}, lc_kU y1 y2 → lc_kC y y2 := fun k => ⟨fun c j h => (k.1 c j (by omega)).trans (a4.1 c j h), fun c j => (k.2.1 c j).trans (a4.2.1 c j), fun c j h => (k.2.2 c j).trans (a4.2.2 c j h)⟩
      rcases w3 with hx | hx
      · refine ⟨0, y2, by rw [st, if_neg h0, if_pos hb, ste, if_pos hx]; rfl, kCU w2, t3U w2, Or.inl rfl, ⟨fun h => absurd h (by decide), fun h => ?_⟩⟩
        have := w4.mpr h.2.1
        rw [hx] at this
        exact absurd this (by decide)
      · obtain ⟨x2, y3, q1, q2, q3, q4⟩ := lc_eachA (k := k) (δ := δ1) (τ := τ) (n := m1) (y0 := y0) (z := z0) (base := 120 * (k + 1)) p2 hc (fun i hi => by
          obtain ⟨D, p, s1, -⟩ := sub i (by omega) (by omega)
          exact ⟨D, p, s1⟩) cnt 0 lc_FU y2 (by omega) (by unfold lc_FU; omega) (by rw [w2.2.2]; exact a5) (fun c j a b => (w2.sy c j a b).trans (sy1 c j a b)) (by rw [w2.1 _ _ (by omega), sy1 _ _ (by omega) (by omega)]; exact h11) (lc_TA_eq (fun c j a b => w2.1 c j (by omega)) t1) (fun j hj => by rw [w2.1 _ _ (by omega)]; exact t2 j hj)
        have k3 := w2.tr q2
        have hfin : (∀ j, 0 ≤ j → j < cnt → lc_OK y0 z0 (ok k) (120 * (k + 1)) cnt (fun j => lc_oA δ1 (τ j)) j) ↔ lc_CK y0 z0 (ok k) k cnt ρ (T k) (S k) := by
          refine ⟨fun h => ⟨hgood, w4.mp hx, fun D i p hq => ?_⟩, fun h j _ hj D p hq => ?_⟩
          · have hic : i < cnt := by obtain ⟨lo, hi, env, -, -, -, g, -⟩ := hq; exact g
            exact (lc_Wp_eq (hnd0 i (by omega) (by omega)) hic hρ).mpr (h i (by omega) hic D p hq)
          · exact (lc_Wp_eq (hnd0 j (by omega) (by omega)) hj hρ).mp (h.2.2 D j p hq)
        have ste2 : fK_eachVariableIsUsedWell y1 = some (x2, y3) := by rw [ste, if_neg (by rw [hx]; decide)]; exact q1
        rcases q3 with hx2 | hx2
        · refine ⟨0, y3, by rw [st, if_neg h0, if_pos hb, lc_bnd_eq ste2, if_pos hx2], kCU k3, t3U k3, Or.inl rfl, ⟨fun h => absurd h (by decide), fun h => ?_⟩⟩
          have := q4.mpr (hfin.mpr h)
          rw [hx2] at this
          exact absurd this (by decide)
        · exact ⟨1, y3, by rw [st, if_neg h0, if_pos hb, lc_bnd_eq ste2, if_neg (by rw [hx2]; decide)], kCU k3, t3U k3, Or.inr rfl, ⟨fun _ => hfin.mp (q4.mp hx2), fun _ => rfl⟩⟩
    · refine ⟨0, y1, by rw [st, if_neg h0, if_neg hb], a4, t3y1, Or.inl rfl, ⟨fun h => absurd h (by decide), fun h => ?_⟩⟩
      have := h.1
      rw [root, ← hVk.2, ← v6] at this
      exact absurd ((lc_oA_inj t1 u2 v2).mp this) hb
theorem lc_eo_eq {y z y' z' : lc_S} {o base : Nat} (ho : 35 ≤ o ∧ o ≤ 71) (hy : lc_sy y y') (hz : lc_sz z z') : ∀ (env : List lc_en) (L M : Nat), lc_eo y z o base env L M → lc_eo y' z' o base env L M
  | [], _, _, h => h
  | [e], _, _, h => h
  | e :: e' :: es, L, M, h => by
    rw [lc_eo] at h ⊢
    rcases h with ⟨pb, a, D, lo, hi, b0, g1, h1, h2, h3, h4, h5, h6, h7, h8, h9, h10⟩ | ⟨pb, a, D, lo, hi, b0, g1, g2, h1, h2, h3, h4, h5, h6, h7, h8, h9, h10⟩
    · exact Or.inl ⟨pb, a, D, lo, hi, b0, g1, h1, h2, h3, by rw [hy _ _ (by omega) (by omega)]; exact h4, h5, by rw [hz _ _ (by decide) (by decide)]; exact h6, by rw [hz _ _ (by decide) (by decide)]; exact h7, lc_R_eq ho hy hz _ _ _ _ _ _ h8, lc_eo_eq ho hy hz (e' :: es) lo pb h9, h10⟩
    · exact Or.inr ⟨pb, a, D, lo, hi, b0, g1, g2, h1, h2, h3, by rw [hy _ _ (by omega) (by omega)]; exact h4, h5, by rw [hz _ _ (by decide) (by decide)]; exact h6, by rw [hz _ _ (by decide) (by decide)]; exact h7, lc_R_eq ho hy hz _ _ _ _ _ _ h8, lc_eo_eq ho hy hz es lo pb h9, h10⟩
theorem lc_pq_eq {y z y' z' : lc_S} {o base cnt D i p : Nat} (ho : 35 ≤ o ∧ o ≤ 71) (hy : lc_sy y y') (hz : lc_sz z z') (h : lc_pq y z o base cnt D i p) : lc_pq y' z' o base cnt D i p := by
  obtain ⟨lo, hi, env, g1, g2, g3, g4, g5⟩ := h
  exact ⟨lo, hi, env, lc_R_eq ho hy hz _ _ _ _ _ _ g1, lc_eo_eq ho hy hz env _ _ g2, g3, g4, g5⟩
/-- the reference's isChecked -/
def lc_kS (z z' : lc_S) : Prop := (∀ c k, ¬ (c = 80 ∧ (k = 23 ∨ k = 25)) → ¬ (97 ≤ c ∧ c ≤ 104) → c ≠ 120 → lcI z' c k = lcI z c k) ∧ (∀ c k, lcL z' c k = lcL z c k) ∧ ∀ c k, lcR z' c k = lcR z c k
theorem lc_kS.rf {y : lc_S} : lc_kS y y := ⟨fun _ _ _ _ _ => rfl, fun _ _ => rfl, fun _ _ => rfl⟩
theorem lc_kS.tr {x y z : lc_S} (h : lc_kS x y) (g : lc_kS y z) : lc_kS x z := ⟨fun c k a b d => (g.1 c k a b d).trans (h.1 c k a b d), fun c k => (g.2.1 c k).trans (h.2.1 c k), fun c k => (g.2.2 c k).trans (h.2.2 c k)⟩
theorem lc_kF.s {x y : lc_S} (h : lc_kF x y) : lc_kS x y := ⟨fun c k a b _ => h.1 c k a (by omega), h.2.1, h.2.2⟩
theorem lc_kN.s {x y : lc_S} (h : lc_kN x y) : lc_kS x y := ⟨fun c k a b d => h.1 c k (by omega) (by omega) d, h.2.1, h.2.2⟩
theorem lc_kS.sz {x y : lc_S} (h : lc_kS x y) : lc_sz x y := fun c k a b => h.1 c k (by omega) (by omega) (by omega)
theorem lc_faultQ {y0 z0 z : lc_S} {T S : Nat → lc_tp} {ok : Nat → Nat} {th : Nat → Prop} {k cnt : Nat} {ρ VT GT : Nat → lc_ot} (sz : lc_sz z0 z) (hP : ∀ k, k < 4 → (th k ↔ 0 < lcI z0 89 (k + 1)) ∧ lc_sh (ok k) = (0, 1, 0) ∧ (th k → lc_PT y0 z0 k (ok k) (T k) (S k))) (hk : k < 4) (hth : th k) (hc0 : 0 < cnt) (hc : cnt ≤ 120) (h89 : lcI z0 89 (k + 1) = nI cnt) (hR : lc_R y0 z0 (ok k) (120 * (k + 1)) 17 0 (cnt - 1) 0 cnt [(0, 0, -1, 0)])
    (hVG : ∀ c, c < 4 → (th c ∧ VT c = some (T c) ∧ GT c = some (S c)) ∨ (¬ th c ∧ VT c = none ∧ GT c = none)) (hl : ∀ j, j < cnt → lc_loc y0 (ok k) k ρ VT GT j) : ∃ x z', fQ_isChecked (nI k) z = some (x, z') ∧ lc_kS z z' ∧ (x = 0 ∨ x = 1) ∧ (x = 1 ↔ lc_CK y0 z0 (ok k) k cnt ρ (T k) (S k)) := by
  have p2 := (hP k hk).2.1
  have e89 : ∀ j, lcI z 89 j = lcI z0 89 j := fun j => sz _ _ (by decide) (by decide)
  have R1 : lc_R y0 z (ok k) (120 * (k + 1)) 17 0 (cnt - 1) 0 cnt [(0, 0, -1, 0)] := lc_R_eq (y := y0) (z := z0) (lc_o p2) (fun _ _ _ _ => rfl) sz _ _ _ _ _ _ hR
  obtain ⟨r, z1, δ, n, a1, a2, a3, a4, a5, a6⟩ := lc_findQ (y := y0) (z := z) (o := ok k) (k := k) (cnt := cnt) (ρ := ρ) (VT := VT) (GT := GT) (T := T) (S := S) (ok := ok) (th := th) hk hc0 hc hth (by rw [e89]; exact h89) hl R1 hVG (fun k hk => by
    obtain ⟨w1, w2, w3⟩ := hP k hk
    exact ⟨by rw [e89]; exact w1, w2, fun h => lc_PT_eq (y := y0) (z := z0) w2 (fun _ _ _ _ => rfl) sz (w3 h)⟩)
  have hroot : lc_eo y0 z0 (ok k) (120 * (k + 1)) [(0, 0, -1, 0)] 0 0 := rfl
  have hroot1 : lc_eo y0 z (ok k) (120 * (k + 1)) [(0, 0, -1, 0)] 0 0 := rfl
  have sub := lc_R_subs (cnt := cnt) 17 0 (cnt - 1) 0 cnt _ hR hroot lc_dis0 (by omega) (Nat.le_refl _)
  have sub1 := lc_R_subs (cnt := cnt) 17 0 (cnt - 1) 0 cnt _ R1 hroot1 lc_dis0 (by omega) (Nat.le_refl _)
  have pqp : ∀ D i p, lc_pq y0 z (ok k) (120 * (k + 1)) cnt D i p → lc_pp2 y0 z (ok k) (120 * (k + 1)) cnt i p := fun D i p ⟨lo, hi, env, g1, g2, g3, g4, g5⟩ => ⟨D + 1, lo, hi, env, g1, g2, g4, g5⟩
  have c1 : lc_in (nI k) 4 := nI_in hk (by decide)
  have d1 : (nI k).toNatClampNeg = k := nI_clamp (by omega)
  rcases a2 with ⟨q1, q2⟩ | ⟨q1, q2⟩
  · have hpp : lc_pp2 y0 z (ok k) (120 * (k + 1)) cnt (cnt - 1) 0 := ⟨17, 0, cnt, _, R1, hroot1, by omega, Nat.le_refl _⟩
    rcases a5 _ _ hpp with ⟨-, x⟩ | ⟨u, u1, u2, u3⟩
    · exact absurd x q2
    · obtain ⟨v1, v2, v3⟩ := a4 k hk
      obtain ⟨xa, xb, w1, w2, w3, w4, w5, w6⟩ := v2 hth
      have hn := a3.2.2.1
      have eub : (nI u = nI xb) = (u = xb) := lc_eqn (by omega) (by omega)
      have h100 : lcI z1 100 (0 : Int32).toNatClampNeg = nI u := u2
      have st : fQ_isChecked (nI k) z = if u = xb then lc_bnd (fQ_isLinear (nI xa) z1) (fun r32 z32 => if r32 = 0 then fQ_isChecked_54 (nI k) 1 z32 else lc_chk True (lc_bnd (fQ_isUsedOnce (nI k) (-1) 0 (nI 0) z32) (fun r43 z43 => if r43 = 0 then fQ_isChecked_54 (nI k) 0 z43 else fQ_isChecked_54 (nI k) 1 z43))) else some (0, z1) := by
        rw [fQ_isChecked, lc_bnd_eq a1, if_neg (by rw [q1]; decide)]
        simp only [lc_chk_pos c1, d1, h100, w4, w3, eub, fQ_isChecked_49, fQ_isChecked_23, lc_chk_pos trivial]
        rfl
      by_cases hub : u = xb
      · have hgood : ρ (cnt - 1) = some (S k) := by rw [u3, hub, w6]
        have hsome := lc_R_some hl (fun c hc e => by
          rcases hVG c hc with ⟨-, t, -⟩ | ⟨-, -, t⟩
          · rw [t] at e; cases e
          · exact t) 17 0 (cnt - 1) 0 cnt _ R1 (by omega) q2
        obtain ⟨x, z2, f1, f2, f3, f4⟩ := lc_useQ (b := 0) (pt := 0) (B := -1) (O := 0) (r := some (T k)) (D := 17) (p := 0) (i := cnt - 1) hk hc (by decide) (by decide) (fun p hp => by
          obtain ⟨D, i, s⟩ := sub1.2 p (by omega) hp
          exact ⟨i, pqp D i p s⟩) R1 hroot1 lc_dis0 (List.mem_singleton.mpr rfl) (Nat.le_refl _) (show lc_sz z z1 from a6.s.sz) (by rw [e89]; exact h89) a3 w1 (Or.inl ⟨rfl, by rw [w5]⟩) True trivial (fun _ => nI 0) (fun _ _ => rfl)
        have T2 : lc_TQ z2 δ n := lc_TQ_eq (f2.1 _ _ (by decide) (by decide) (by decide)) (fun j => f2.1 _ _ (by decide) (by decide) (by decide)) (fun j => f2.1 _ _ (by decide) (by decide) (by decide)) a3
        obtain ⟨x2, z3, g1, g2, g3, g4⟩ := lc_chkQ (y0 := y0) (z0 := z) (o := ok k) (k := k) (cnt := cnt) (n := n) (δ := δ) (ρ := ρ) (VT := VT) (GT := GT) hk hc (fun p hp => by
          obtain ⟨D, i, s⟩ := sub1.2 p (by omega) hp
          exact ⟨i, pqp D i p s⟩) (fun p hp => sub1.2 p (by omega) hp) hl (fun j hj => hsome j (by omega) (by omega)) (by rw [e89]; exact h89) cnt 0 lc_FU z2 x (by omega) (by unfold lc_FU; omega) f3 (fun c j a b => (f2.sz c j a b).trans (a6.s.sz c j a b)) T2 (fun i p hp => by rw [f2.1 _ _ (by decide) (by decide) (by decide)]; exact a5 i p hp)
        refine ⟨x2, z3, ?_, a6.s.tr (f2.s.tr g2.s), g3, ?_⟩
        · rw [st, if_pos hub, f1 (fun x z => fQ_isChecked_54 (nI k) x z)]
          exact g1
        · rw [g4, f4]
          refine ⟨fun h => ⟨hgood, h.1, fun D i p hq => ?_⟩, fun h => ⟨h.2.1, fun D i p _ _ hq => h.2.2 D i p (lc_pq_eq (y := y0) (z := z) (y' := y0) (z' := z0) (lc_o p2) (fun _ _ _ _ => rfl) (fun c j a b => (sz c j a b).symm) hq)⟩⟩
          have hq' := lc_pq_eq (y := y0) (z := z0) (y' := y0) (z' := z) (lc_o p2) (fun _ _ _ _ => rfl) sz hq
          have hpc : p < cnt := by
            obtain ⟨lo, hi, env, g1, -, -, -, g5⟩ := hq
            have := lc_R_lo g1
            omega
          exact h.2 D i p (by omega) hpc hq'
      · refine ⟨0, z1, by rw [st, if_neg hub], a6.s, Or.inl rfl, ⟨fun h => absurd h (by decide), fun h => ?_⟩⟩
        have := h.1
        rw [u3, ← w6] at this
        exact absurd ((lc_dQ_inj a3 u1 w2).mp this) hub
  · refine ⟨0, z1, ?_, a6.s, Or.inl rfl, ⟨fun h => absurd h (by decide), fun h => ?_⟩⟩
    · rw [fQ_isChecked, lc_bnd_eq a1, if_pos q1]; rfl
    · have := h.1
      rw [q2] at this
      cases this
