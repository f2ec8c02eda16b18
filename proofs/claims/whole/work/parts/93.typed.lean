/-! the reference's types of a body; a turn of typed -/
theorem lc_fillQ {k cnt : Nat} (hc : cnt ≤ 120) : ∀ (m i f : Nat) (z : lc_S), i + m = cnt → m < f → (∀ p, p < i → lcI z 100 p = -2) → ∃ z', fQ_find_80 f (nI k) (nI cnt) (nI i) z = fQ_find_101 lc_FU (nI k) (nI cnt) 1 z' ∧ (∀ p, p < cnt → lcI z' 100 p = -2) ∧ (∀ c j, c ≠ 100 → lcI z' c j = lcI z c j) ∧ (∀ c j, lcL z' c j = lcL z c j) ∧ ∀ c j, lcR z' c j = lcR z c j
  | 0, i, f + 1, z, hi, _, h => by
    have hi : i = cnt := by omega
    subst hi
    exact ⟨z, by rw [fQ_find_80, if_pos (nI_le (Nat.le_refl _) (by omega))], h, fun _ _ _ => rfl, fun _ _ => rfl, fun _ _ => rfl⟩
  | m + 1, i, f + 1, z, hi, hf, h => by
    have c1 : lc_in (nI i) 120 := nI_in (by omega) (by decide)
    have d1 : (nI i).toNatClampNeg = i := nI_clamp (by omega)
    obtain ⟨z', e1, e2, e3, e4, e5⟩ := lc_fillQ (k := k) hc m (i + 1) f (lcUI z 100 i (-2)) (by omega) (by omega) (fun p hp => by
      by_cases hpi : p = i
      · rw [hpi, lcI_UI, if_pos ⟨rfl, rfl⟩]
      · rw [lcI_UI, if_neg (by omega)]; exact h p (by omega))
    refine ⟨z', ?_, e2, fun c j hc => by rw [e3 c j hc, lcI_UI, if_neg (by omega)], e4, e5⟩
    rw [fQ_find_80, if_neg (nI_ge (by omega) (by omega)), lc_chk_pos c1, d1, lc_let_eq, nI_1]
    exact e1
/-- a body with a type has types in all its expressions -/
theorem lc_R_some {y z : lc_S} {o base k cnt : Nat} {ρ VT GT : Nat → lc_ot} (hl : ∀ j, j < cnt → lc_loc y o k ρ VT GT j) (hVG : ∀ c, c < 4 → (VT c = none → GT c = none)) : ∀ (D lo i p hi : Nat) (env : List lc_en), lc_R y z o base D lo i p hi env → i < cnt → ρ i ≠ none → ∀ i', lo ≤ i' → i' ≤ i → ρ i' ≠ none
  | 0, _, _, _, _, _, h, _, _, _, _, _ => absurd h id
  | D + 1, lo, i, p, hi, env, h, hic, hs, i', l1, l2 => by
    rw [lc_R] at h
    obtain ⟨g1, g2, g3, g4, h⟩ := h
    by_cases hii : i' = i
    · rw [hii]; exact hs
    · rcases h with ⟨r1, -⟩ | ⟨r1, -⟩ | ⟨a, h1, r1, r2, r3, r4, h⟩
      · omega
      · omega
      · have ra := lc_R_lo r4
        have IH1 := lc_R_some hl hVG D lo a (p + 1) h1 env r4
        obtain ⟨k1, k2, k3⟩ := (hl i hic).2.2 a r1 (by omega)
        rcases h with ⟨m1, m2, -⟩ | ⟨m1, m2, -, -, c, c1, c2, -⟩ | ⟨a2, h2, q1, q2, h⟩
        · exact IH1 (by omega) (fun e => hs (lc_r1_none m1 (by rw [e] at k1; exact k1))) i' l1 (by omega)
        · refine IH1 (by omega) (fun e => ?_) i' l1 (by omega)
          rcases k2 m1 c c1 c2 with ⟨t1, t2⟩ | ⟨-, t2⟩
          · exact hs (by rw [t2]; exact hVG c c1 (by rw [← t1]; exact e))
          · exact hs t2
        · have two : (lc_two (lcI y (o + 2) i) ∨ lcI y (o + 2) i = 58 ∨ lcI y (o + 2) i = 47) → i = a2 + 1 → (∃ env', lc_R y z o base D (a + 1) a2 h1 h2 env') → ρ i' ≠ none := fun hK hi2 hex => by
            clear h
            obtain ⟨env', hR2⟩ := hex
            have rb := lc_R_lo hR2
            obtain ⟨k4, -⟩ := k3 a2 q1 (by omega)
            by_cases hia : i' ≤ a
            · exact IH1 (by omega) (fun e => hs (lc_r2_none hK (Or.inl e) k4)) i' l1 hia
            · exact lc_R_some hl hVG D (a + 1) a2 h1 h2 env' hR2 (by omega) (fun e => hs (lc_r2_none hK (Or.inr e) k4)) i' (by omega) (by omega)
          rcases h with ⟨m1, m2, m3, m4⟩ | ⟨m1, m2, m3, b, m4, m5, m6, m7, m8⟩ | ⟨m1, m2, m3, b, m4, m5, m6, m7, m8⟩ | ⟨m1, a3, m2, m3, m4, m5, m6⟩
          · exact two (Or.inl m1) m2 ⟨_, m4⟩
          · exact two (Or.inr (Or.inl m1)) m2 ⟨_, m8⟩
          · exact two (Or.inr (Or.inr m1)) m2 ⟨_, m8⟩
          · have rb := lc_R_lo m5
            have rc := lc_R_lo m6
            obtain ⟨-, k5⟩ := k3 a2 q1 (by omega)
            rcases k5 m1 a3 m2 (by omega) with ⟨⟨t1, t2⟩, t3⟩ | ⟨-, t3⟩
            · by_cases hia : i' ≤ a
              · exact IH1 (by omega) (by rw [t1]; simp) i' l1 hia
              · by_cases hia2 : i' ≤ a2
                · exact lc_R_some hl hVG D (a + 1) a2 h1 h2 env m5 (by omega) (by rw [← t3]; exact hs) i' (by omega) hia2
                · exact lc_R_some hl hVG D (a2 + 1) a3 h2 hi env m6 (by omega) (by rw [← t2, ← t3]; exact hs) i' (by omega) (by omega)
            · exact absurd t3 hs
def lc_kF (z z' : lc_S) : Prop := (∀ c k, ¬ (c = 80 ∧ (k = 23 ∨ k = 25)) → ¬ (97 ≤ c ∧ c ≤ 102) → lcI z' c k = lcI z c k) ∧ (∀ c k, lcL z' c k = lcL z c k) ∧ ∀ c k, lcR z' c k = lcR z c k
/-- all that is known when the reference has found the types of procedure k -/
theorem lc_findQ {y z : lc_S} {o k cnt : Nat} {ρ VT GT : Nat → lc_ot} {T S : Nat → lc_tp} {ok : Nat → Nat} {th : Nat → Prop} (hk : k < 4) (hc0 : 0 < cnt) (hc : cnt ≤ 120) (hthk : th k) (h89 : lcI z 89 (k + 1) = nI cnt) (hl : ∀ j, j < cnt → lc_loc y o k ρ VT GT j) (hR : lc_R y z o (120 * (k + 1)) 17 0 (cnt - 1) 0 cnt [(0, 0, -1, 0)])
    (hVT : ∀ c, c < 4 → (th c ∧ VT c = some (T c) ∧ GT c = some (S c)) ∨ (¬ th c ∧ VT c = none ∧ GT c = none)) (hP : ∀ k, k < 4 → (th k ↔ 0 < lcI z 89 (k + 1)) ∧ lc_sh (ok k) = (0, 1, 0) ∧ (th k → lc_PT y z k (ok k) (T k) (S k))) :
    ∃ r z' δ' n', fQ_find (nI k) z = some (r, z') ∧ ((r = 1 ∧ ρ (cnt - 1) ≠ none) ∨ (r = 0 ∧ ρ (cnt - 1) = none)) ∧ lc_TQ z' δ' n' ∧ lc_VG z' δ' n' T S th VT GT ∧ (∀ i p, lc_pp2 y z o (120 * (k + 1)) cnt i p → lc_xQ δ' n' (lcI z' 100 p) (ρ i)) ∧ lc_kF z z' := by
  obtain ⟨z1, δ1, n1, a1, a2, a3, a4, a5⟩ := lc_fwQ hk hP
  rw [h89] at a1
  obtain ⟨z2, b1, b2, b3, b4, b5⟩ := lc_fillQ (k := k) hc cnt 0 lc_FU z1 (by omega) (by unfold lc_FU; omega) (fun p hp => absurd hp (by omega))
  have sz2 : lc_sz z z2 := fun c j a b => by rw [b3 c j (by omega)]; exact a5.sz c j a b
  have hroot : lc_eo y z o (120 * (k + 1)) [(0, 0, -1, 0)] 0 0 := rfl
  have hsub : ∀ p, p < cnt → ∃ i, lc_pp2 y z o (120 * (k + 1)) cnt i p := fun p hp => by
    obtain ⟨D', lo', i', hi', env', q1, q2, q3, q4, q5⟩ := lc_R_sub 17 0 (cnt - 1) 0 cnt _ hR hroot p (by omega) hp
    exact ⟨i', D', lo', hi', env', q1, q2, by omega, q5⟩
  have hU := lc_U_le z2 cnt
  have hW : lc_W y z z2 o k cnt ρ VT GT T S th δ1 n1 := by
    refine ⟨sz2, lc_TQ_eq (b3 _ _ (by decide)) (fun j => b3 _ _ (by decide)) (fun j => b3 _ _ (by decide)) a2, by omega, fun c hc => ⟨hVT c hc, lc_gQ_le (b3 _ _ (by decide)) (b3 _ _ (by decide)) (Nat.le_refl _) (fun _ _ => rfl) (a4 c hc), by rw [sz2 _ _ (by decide) (by decide)]; exact (hP c hc).1⟩, fun i p hp => ?_⟩
    obtain ⟨D, lo, hi, env, r1, r2, r3, r4⟩ := hp
    have := lc_R_lo r1
    exact Or.inl (b2 p (by omega))
  obtain ⟨z3, δ3, n3, c1, c2, c3, c4⟩ := lc_passes hk hc hthk hl hsub 120 lc_FU z2 δ1 n1 (by omega) (by unfold lc_FU; omega) hW
  obtain ⟨r, d1, d2⟩ := lc_allQ (z := z3) hc cnt 0 lc_FU 1 (by omega) (by unfold lc_FU; omega) (Or.inr rfl)
  have e1 : fQ_find (nI k) z = some (r, z3) := a1.trans (b1.trans (c1.trans d1))
  have hn3 := c2.2.1.2.2.1
  refine ⟨r, z3, δ3, n3, e1, ?_, c2.2.1, c2.2.2.2.1, c4, ⟨fun c j p q => ?_, fun c j => ?_, fun c j => ?_⟩⟩
  · have hpp : lc_pp2 y z o (120 * (k + 1)) cnt (cnt - 1) 0 := ⟨17, 0, cnt, _, hR, hroot, by omega, Nat.le_refl _⟩
    rcases d2 with ⟨q1, -, q2⟩ | ⟨q1, q2⟩
    · refine Or.inl ⟨q1, fun hn => ?_⟩
      rcases c4 _ _ hpp with ⟨x, -⟩ | ⟨u, u1, u2, u3⟩
      · have := q2 0 (Nat.le_refl _) hc0
        rw [x] at this
        exact this (by decide)
      · rw [hn] at u3; cases u3
    · refine Or.inr ⟨q1, Classical.byContradiction (fun hs => ?_)⟩
      rcases q2 with q2 | ⟨p, p1, p2, p3⟩
      · exact absurd q2 (by decide)
      · obtain ⟨D', lo', i', hi', env', g1, g2, g3, g4, g5⟩ := lc_R_sub 17 0 (cnt - 1) 0 cnt _ hR hroot p p1 p2
        have gl := lc_R_lo g1
        have hs' := lc_R_some hl (fun c hc e => by
          rcases hVT c hc with ⟨-, t, -⟩ | ⟨-, -, t⟩
          · rw [t] at e; cases e
          · exact t) 17 0 (cnt - 1) 0 cnt _ hR (by omega) hs i' (by omega) g4
        rcases c4 i' p ⟨D', lo', hi', env', g1, g2, by omega, g5⟩ with ⟨-, x⟩ | ⟨u, u1, u2, u3⟩
        · exact absurd x hs'
        · rw [u2] at p3; exact absurd p3 (nI_pos (by omega))
  · rw [c3.1 c j (by omega) (by omega), b3 c j (by omega), a5.1 c j p (by omega) (by omega)]
  · rw [c3.2.1, b4, a5.2.1]
  · rw [c3.2.2, b5, a5.2.2]
theorem lc_numQ {u n : Nat} {δ : Nat → lc_tp} : ∀ (m t f : Nat) (z : lc_S), t + m = u + 1 → m < f → lc_TQ z δ n → u < n → lcI z 100 0 = nI u → (∀ s, s < t → lcI z 121 s = lc_num (δ s)) → ∃ z', fQ_typed_36 f (nI t) z = some (lc_num (δ u), z') ∧ (∀ c j, c ≠ 121 → lcI z' c j = lcI z c j) ∧ (∀ c j, lcL z' c j = lcL z c j) ∧ ∀ c j, lcR z' c j = lcR z c j
  | 0, t, f + 1, z, ht, _, hT, hu, h100, hs => by
    have hn := hT.2.2.1
    have c1 : lc_in (nI u) 340 := nI_in (by omega) (by decide)
    have d1 : (nI u).toNatClampNeg = u := nI_clamp (by omega)
    have h100' : lcI z 100 (0 : Int32).toNatClampNeg = nI u := h100
    refine ⟨z, ?_, fun _ _ _ => rfl, fun _ _ => rfl, fun _ _ => rfl⟩
    rw [fQ_typed_36, h100', if_pos (nI_lt (by omega) (by omega)), lc_chk_pos c1, d1, hs u (by omega)]
  | m + 1, t, f + 1, z, ht, hf, hT, hu, h100, hs => by
    have hn := hT.2.2.1
    have h100' : lcI z 100 (0 : Int32).toNatClampNeg = nI u := h100
    have c1 : lc_in (nI t) 340 := nI_in (by omega) (by decide)
    have d1 : (nI t).toNatClampNeg = t := nI_clamp (by omega)
    have go : ∀ v, v = lc_num (δ t) → ∃ z', fQ_typed_90 (fQ_typed_36 f) (nI t) (nI t) v z = some (lc_num (δ u), z') ∧ (∀ c j, c ≠ 121 → lcI z' c j = lcI z c j) ∧ (∀ c j, lcL z' c j = lcL z c j) ∧ ∀ c j, lcR z' c j = lcR z c j := fun v hv => by
      obtain ⟨z', e1, e2, e3, e4⟩ := lc_numQ (u := u) (n := n) (δ := δ) m (t + 1) f (lcUI z 121 t v) (by omega) (by omega) (lc_TQ_eq (by simp only [lcI_UI, lcI_UL, lcI_UR, lcL_UI, lcL_UL, lcL_UR, lcR_UI, lcR_UL, lcR_UR, false_and, and_false, true_and, and_true, and_self, ↓reduceIte, Nat.reduceEqDiff, lc_let_eq]) (fun j => by simp only [lcI_UI, lcI_UL, lcI_UR, lcL_UI, lcL_UL, lcL_UR, lcR_UI, lcR_UL, lcR_UR, false_and, and_false, true_and, and_true, and_self, ↓reduceIte, Nat.reduceEqDiff, lc_let_eq]) (fun j => by simp only [lcI_UI, lcI_UL, lcI_UR, lcL_UI, lcL_UL, lcL_UR, lcR_UI, lcR_UL, lcR_UR, false_and, and_false, true_and, and_true, and_self, ↓reduceIte, Nat.reduceEqDiff, lc_let_eq]) hT) hu (by simp only [lcI_UI, lcI_UL, lcI_UR, lcL_UI, lcL_UL, lcL_UR, lcR_UI, lcR_UL, lcR_UR, false_and, and_false, true_and, and_true, and_self, ↓reduceIte, Nat.reduceEqDiff, lc_let_eq]; exact h100) (fun s hs' => by
        by_cases hst : s = t
        · rw [hst, lcI_UI, if_pos ⟨rfl, rfl⟩]; exact hv
        · rw [lcI_UI, if_neg (by omega)]; exact hs s (by omega))
      refine ⟨z', ?_, fun c j hc => by rw [e2 c j hc, lcI_UI, if_neg (by omega)], e3, e4⟩
      rw [fQ_typed_90, lc_chk_pos c1, lc_let_eq, d1, nI_1]
      exact e1
    have e0 : fQ_typed_36 (f + 1) (nI t) z = if 2 ≤ nI t then (lc_chk (lc_in (nI t) 340) (lc_chk (lc_in (lcI z 98 (nI t).toNatClampNeg) 340) (lc_chk (lc_in (nI t) 340) (lc_chk (lc_in (lcI z 99 (nI t).toNatClampNeg) 340) (fQ_typed_90 (fQ_typed_36 f) (nI t) (nI t) (((8 * (lcI z 121 (lcI z 98 (nI t).toNatClampNeg).toNatClampNeg)) + (lcI z 121 (lcI z 99 (nI t).toNatClampNeg).toNatClampNeg)) + 3) z))))) else fQ_typed_90 (fQ_typed_36 f) (nI t) (nI t) (nI t + 1) z := by
      rw [fQ_typed_36, h100', if_neg (nI_nlt (by omega) (by omega))]
    rw [e0]
    by_cases t2 : 2 ≤ t
    · obtain ⟨a, b, g1, g2, g3, g4, g5⟩ := hT.2.2.2.2.2.1 t t2 (by omega)
      have c2 : lc_in (nI a) 340 := nI_in (by omega) (by decide)
      have d2 : (nI a).toNatClampNeg = a := nI_clamp (by omega)
      have c3 : lc_in (nI b) 340 := nI_in (by omega) (by decide)
      have d3 : (nI b).toNatClampNeg = b := nI_clamp (by omega)
      rw [if_pos (show (2 : Int32) ≤ nI t from nI_le (a := 2) t2 (by omega))]
      simp only [lc_chk_pos c1, d1, g3, g4, lc_chk_pos c2, lc_chk_pos c3, d2, d3]
      exact go _ (by rw [hs a (by omega), hs b (by omega), g5]; rfl)
    · rw [if_neg (show ¬ (2 : Int32) ≤ nI t from nI_ge (b := 2) (by omega) (by decide))]
      refine go _ ?_
      obtain rfl | rfl : t = 0 ∨ t = 1 := by omega
      · rw [hT.2.2.2.1]; rfl
      · rw [hT.2.2.2.2.1]; rfl
