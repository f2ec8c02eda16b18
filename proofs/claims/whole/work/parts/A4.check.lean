/-! each variable is used well: the reference -/
def lc_kN (z z' : lc_S) : Prop := (∀ c k, c ≠ 103 → c ≠ 104 → c ≠ 120 → lcI z' c k = lcI z c k) ∧ (∀ c k, lcL z' c k = lcL z c k) ∧ ∀ c k, lcR z' c k = lcR z c k
theorem lc_kN.rf {y : lc_S} : lc_kN y y := ⟨fun _ _ _ _ _ => rfl, fun _ _ => rfl, fun _ _ => rfl⟩
theorem lc_kN.tr {x y z : lc_S} (h : lc_kN x y) (g : lc_kN y z) : lc_kN x z := ⟨fun c k a b d => (g.1 c k a b d).trans (h.1 c k a b d), fun c k => (g.2.1 c k).trans (h.2.1 c k), fun c k => (g.2.2 c k).trans (h.2.2 c k)⟩
theorem lc_kM.n {x y : lc_S} (h : lc_kM x y) : lc_kN x y := ⟨fun c k a b _ => h.1 c k a b, h.2.1, h.2.2⟩
theorem lc_kN.sz {x y : lc_S} (h : lc_kN x y) : lc_sz x y := fun c k a b => h.1 c k (by omega) (by omega) (by omega)
theorem lc_linQL {u n : Nat} {δ : Nat → lc_tp} : ∀ (m t f : Nat) (z : lc_S), t + m = u + 1 → m < f → lc_TQ z δ n → u < n → (∀ s, s < t → lcI z 120 s = lc_lin (δ s)) → ∃ z', fQ_isLinear_4 f (nI u) (nI t) z = some (lc_lin (δ u), z') ∧ lc_kN z z'
  | 0, t, f + 1, z, ht, _, hT, hu, hs => by
    have hn := hT.2.2.1
    have c1 : lc_in (nI u) 340 := nI_in (by omega) (by decide)
    have d1 : (nI u).toNatClampNeg = u := nI_clamp (by omega)
    refine ⟨z, ?_, lc_kN.rf⟩
    rw [fQ_isLinear_4, if_pos (nI_lt (by omega) (by omega)), lc_chk_pos c1, d1, lc_let_eq, hs u (by omega), lc_chk_pos (lc_lin01 (δ u))]
  | m + 1, t, f + 1, z, ht, hf, hT, hu, hs => by
    have hn := hT.2.2.1
    have c1 : lc_in (nI t) 340 := nI_in (by omega) (by decide)
    have d1 : (nI t).toNatClampNeg = t := nI_clamp (by omega)
    have go : ∀ v, v = lc_lin (δ t) → ∃ z', fQ_isLinear_57 (fQ_isLinear_4 f) (nI u) (nI t) (nI t) v z = some (lc_lin (δ u), z') ∧ lc_kN z z' := fun v hv => by
      have vn : vp_nar .boolean v = v := by rw [hv]; rcases lc_lin01 (δ t) with h | h <;> rw [h] <;> decide
      obtain ⟨z', e1, e2⟩ := lc_linQL (u := u) (n := n) (δ := δ) m (t + 1) f (lcUI z 120 t v) (by omega) (by omega) (lc_TQ_eq (by simp only [lcI_UI, lcI_UL, lcI_UR, lcL_UI, lcL_UL, lcL_UR, lcR_UI, lcR_UL, lcR_UR, false_and, and_false, true_and, and_true, and_self, ↓reduceIte, Nat.reduceEqDiff, lc_let_eq]) (fun j => by simp only [lcI_UI, lcI_UL, lcI_UR, lcL_UI, lcL_UL, lcL_UR, lcR_UI, lcR_UL, lcR_UR, false_and, and_false, true_and, and_true, and_self, ↓reduceIte, Nat.reduceEqDiff, lc_let_eq]) (fun j => by simp only [lcI_UI, lcI_UL, lcI_UR, lcL_UI, lcL_UL, lcL_UR, lcR_UI, lcR_UL, lcR_UR, false_and, and_false, true_and, and_true, and_self, ↓reduceIte, Nat.reduceEqDiff, lc_let_eq]) hT) hu (fun s hs' => by
        by_cases hst : s = t
        · rw [hst, lcI_UI, if_pos ⟨rfl, rfl⟩]; exact hv
        · rw [lcI_UI, if_neg (by omega)]; exact hs s (by omega))
      refine ⟨z', ?_, lc_kN.tr (y := lcUI z 120 t v) ⟨fun c k a b d => by rw [lcI_UI, if_neg (by omega)], fun _ _ => rfl, fun _ _ => rfl⟩ e2⟩
      rw [fQ_isLinear_57, lc_chk_pos c1, lc_chk_pos vn, lc_let_eq, d1, nI_1]
      exact e1
    rw [fQ_isLinear_4, if_neg (nI_nlt (by omega) (by omega))]
    obtain rfl | rfl | t2 : t = 0 ∨ t = 1 ∨ 2 ≤ t := by omega
    · rw [if_neg (by decide), if_pos (by decide), fQ_isLinear_56]
      exact go 0 (by rw [hT.2.2.2.1]; rfl)
    · rw [if_pos (by decide), fQ_isLinear_52]
      exact go 1 (by rw [hT.2.2.2.2.1]; rfl)
    · obtain ⟨a, b, g1, g2, g3, g4, g5⟩ := hT.2.2.2.2.2.1 t t2 (by omega)
      have c2 : lc_in (nI a) 340 := nI_in (by omega) (by decide)
      have d2 : (nI a).toNatClampNeg = a := nI_clamp (by omega)
      have c3 : lc_in (nI b) 340 := nI_in (by omega) (by decide)
      have d3 : (nI b).toNatClampNeg = b := nI_clamp (by omega)
      have n1 : ¬ nI t = 1 := fun h => by have := (nI_eq (b := 1) (show t < 2 ^ 31 by omega) (by decide)).mp h; omega
      rw [if_neg n1, if_neg (show ¬ nI t ≤ 1 from nI_ge (a := 1) (by omega) (by omega))]
      simp only [lc_chk_pos c1, d1, g3, g4, lc_chk_pos c2, lc_chk_pos c3, d2, d3, hs a (by omega), hs b (by omega), fQ_isLinear_56, fQ_isLinear_52]
      have el : lc_lin (δ t) = if lc_lin (δ a) = 0 then lc_lin (δ b) else 1 := by rw [g5]; rfl
      by_cases l1 : lc_lin (δ a) = 0
      · rw [if_pos l1] at el ⊢
        by_cases l2 : lc_lin (δ b) = 0
        · rw [if_pos l2]; exact go 0 (by rw [el, l2])
        · rw [if_neg l2]
          exact go 1 (by rcases lc_lin01 (δ b) with h | h; exact absurd h l2; rw [el, h])
      · rw [if_neg l1] at el ⊢
        exact go 1 el.symm
theorem lc_linQ {z : lc_S} {u n : Nat} {δ : Nat → lc_tp} (hT : lc_TQ z δ n) (hu : u < n) : ∃ z', fQ_isLinear (nI u) z = some (lc_lin (δ u), z') ∧ lc_kN z z' :=
  lc_linQL (u + 1) 0 lc_FU z (by omega) (by have := hT.2.2.1; unfold lc_FU; omega) hT hu (fun s hs => absurd hs (by omega))
/-- one variable of the reference: linear, and used once -/
theorem lc_useQ {y0 z0 z : lc_S} {o k cnt b pt D lo i p hi u n : Nat} {B O : Int32} {env : List lc_en} {δ : Nat → lc_tp} {r : lc_ot} (hk : k < 4) (hc : cnt ≤ 120) (hb24 : b < 24) (hp3 : pt < 3) (hsub : ∀ p, p < cnt → ∃ i, lc_pp2 y0 z0 o (120 * (k + 1)) cnt i p) (hR : lc_R y0 z0 o (120 * (k + 1)) D lo i p hi env) (he : lc_eo y0 z0 o (120 * (k + 1)) env lo p) (hd : lc_dis env) (hmem : (b, pt, B, O) ∈ env) (hhc : hi ≤ cnt) (sz : lc_sz z0 z) (h89 : lcI z0 89 (k + 1) = nI cnt) (hT : lc_TQ z δ n) (hu : u < n) (hpt : lc_part r pt (some (δ u))) (c : Prop) [Decidable c] (hcc : c) (s : lc_S → Int32) (hs : ∀ z1, lc_kN z z1 → s z1 = nI p) :
    ∃ x z', (∀ X : Int32 → lc_S → Option (Int32 × lc_S), lc_bnd (fQ_isLinear (nI u) z) (fun r1 z1 => if r1 = 0 then X 1 z1 else lc_chk c (lc_bnd (fQ_isUsedOnce (nI k) B O (s z1) z1) (fun r2 z2 => if r2 = 0 then X 0 z2 else X 1 z2))) = X x z') ∧ lc_kN z z' ∧ (x = 0 ∨ x = 1) ∧ (x = 1 ↔ lc_wv y0 o r pt b D i) := by
  obtain ⟨z1, e1, k1⟩ := lc_linQ hT hu
  rw [lc_wv_iff hpt]
  have el : lc_ol (some (δ u)) = lc_lin (δ u) := rfl
  rw [el]
  by_cases h0 : lc_lin (δ u) = 0
  · exact ⟨1, z1, fun X => by rw [lc_bnd_eq e1, if_pos h0], k1, Or.inr rfl, ⟨fun _ => Or.inl h0, fun _ => rfl⟩⟩
  · have sz1 : lc_sz z0 z1 := fun c j a b => (k1.sz c j a b).trans (sz c j a b)
    obtain ⟨x, z2, f1, f2, f3, f4⟩ := lc_onceQ hk hc hb24 hp3 hsub hR he hd hmem hhc sz1 (by rw [sz1 _ _ (by decide) (by decide)]; exact h89)
    have hsp := hs z1 k1
    rcases f3 with hx | hx
    · refine ⟨0, z2, fun X => by rw [lc_bnd_eq e1, if_neg h0, lc_chk_pos hcc, hsp, lc_bnd_eq f1, if_pos hx], k1.tr f2.n, Or.inl rfl, ⟨fun h => absurd h (by decide), fun h => ?_⟩⟩
      rcases h with h | h
      · exact absurd h h0
      · rw [← f4, hx] at h; exact absurd h (by decide)
    · exact ⟨1, z2, fun X => by rw [lc_bnd_eq e1, if_neg h0, lc_chk_pos hcc, hsp, lc_bnd_eq f1, if_neg (by rw [hx]; decide)], k1.tr f2.n, Or.inr rfl, ⟨fun _ => Or.inr (f4.mp hx), fun _ => rfl⟩⟩
theorem lc_chkQ1 {y0 z0 z : lc_S} {o k cnt D i p n : Nat} {δ : Nat → lc_tp} {ρ VT GT : Nat → lc_ot} (hk : k < 4) (hc : cnt ≤ 120) (hsub : ∀ p, p < cnt → ∃ i, lc_pp2 y0 z0 o (120 * (k + 1)) cnt i p) (hl : ∀ j, j < cnt → lc_loc y0 o k ρ VT GT j) (hsome : ∀ j, j < cnt → ρ j ≠ none) (hq : lc_pq y0 z0 o (120 * (k + 1)) cnt D i p) (sz : lc_sz z0 z) (h89 : lcI z0 89 (k + 1) = nI cnt) (hT : lc_TQ z δ n) (hX : ∀ i p, lc_pp2 y0 z0 o (120 * (k + 1)) cnt i p → lc_xQ δ n (lcI z 100 p) (ρ i)) :
    ∃ x z', lc_kN z z' ∧ (∀ f, fQ_isChecked_57 (f + 1) (nI k) 1 (nI p) z = fQ_isChecked_57 f (nI k) x (nI (p + 1)) z') ∧ (x = 0 ∨ x = 1) ∧ (x = 1 ↔ lc_Wp y0 o ρ D i) := by
  obtain ⟨lo, hi, env, hR, he, hd, hic, hhc⟩ := hq
  rw [lc_R] at hR
  obtain ⟨g1, g2, g3, g4, h⟩ := hR
  have hp : p < 120 := by omega
  have c1 : lc_in (nI (k + 1)) 5 := nI_in (by omega) (by decide)
  have d1 : (nI (k + 1)).toNatClampNeg = k + 1 := nI_clamp (by omega)
  have c2 : lc_in (nI (120 * (k + 1) + p)) 600 := nI_in (by omega) (by decide)
  have d2 : (nI (120 * (k + 1) + p)).toNatClampNeg = 120 * (k + 1) + p := nI_clamp (by omega)
  have e89 : lcI z 89 (k + 1) = nI cnt := by rw [sz _ _ (by decide) (by decide)]; exact h89
  have hbs : (120 : Int32) * nI (k + 1) = nI (120 * (k + 1)) := by rw [show (120 : Int32) = nI 120 from rfl, pk_mul]
  have st : ∀ f, fQ_isChecked_57 (f + 1) (nI k) 1 (nI p) z = if lcI z 82 (120 * (k + 1) + p) = 58 then fQ_isChecked_107 (fQ_isChecked_57 f) (nI k) 1 (nI p) (nI (120 * (k + 1) + p)) z else if lcI z 82 (120 * (k + 1) + p) = 47 then fQ_isChecked_107 (fQ_isChecked_57 f) (nI k) 1 (nI p) (nI (120 * (k + 1) + p)) z else fQ_isChecked_123 (fQ_isChecked_57 f) (nI k) 1 (nI p) (nI (120 * (k + 1) + p)) 0 z := fun f => by
    rw [fQ_isChecked_57, nI_1, lc_chk_pos c1, if_neg (by rw [d1, e89]; exact nI_ge (by omega) (by omega)), if_neg (by decide), hbs, nI_add, lc_let_eq]
    simp only [lc_chk_pos c2, d2]
  have plain : lcI z 82 (120 * (k + 1) + p) ≠ 58 → lcI z 82 (120 * (k + 1) + p) ≠ 47 → ∀ f, fQ_isChecked_57 (f + 1) (nI k) 1 (nI p) z = fQ_isChecked_57 f (nI k) 1 (nI (p + 1)) z := fun k1 k2 f => by
    rw [st, if_neg k1, if_neg k2, fQ_isChecked_123]
    simp only [lc_chk_pos c2, d2, k1, ↓reduceIte]
    rw [fQ_isChecked_169]
    simp only [lc_chk_pos c2, d2, k2, ↓reduceIte]
    rw [fQ_isChecked_249, lc_let_eq, nI_1]
  have es : ∀ c, 82 ≤ c → c ≤ 91 → lcI z c (120 * (k + 1) + p) = lcI z0 c (120 * (k + 1) + p) := fun c a b => sz c _ a b
  rcases h with ⟨r1, r2, r3, r4, -⟩ | ⟨r1, r2, r3, r4, -⟩ | ⟨a, h1, r1, r2, r3, r4, h⟩
  · exact ⟨1, z, lc_kN.rf, plain (by rw [es 82 (by decide) (by decide), r4]; decide) (by rw [es 82 (by decide) (by decide), r4]; decide), Or.inr rfl, ⟨fun _ => lc_Wp_no (by rw [r3]; decide) (by rw [r3]; decide), fun _ => rfl⟩⟩
  · exact ⟨1, z, lc_kN.rf, plain (by rw [es 82 (by decide) (by decide), r4]; decide) (by rw [es 82 (by decide) (by decide), r4]; decide), Or.inr rfl, ⟨fun _ => lc_Wp_no (by rw [r3]; decide) (by rw [r3]; decide), fun _ => rfl⟩⟩
  · have ra := lc_R_lo r4
    have e82 : lcI z 82 (120 * (k + 1) + p) = lcI y0 (o + 2) i := by rw [es 82 (by decide) (by decide)]; exact r3
    have e84 : lcI z 84 (120 * (k + 1) + p) = nI (p + 1) := by rw [es 84 (by decide) (by decide)]; exact r2
    have pl2 : lcI y0 (o + 2) i ≠ 58 → lcI y0 (o + 2) i ≠ 47 → ∃ x z', lc_kN z z' ∧ (∀ f, fQ_isChecked_57 (f + 1) (nI k) 1 (nI p) z = fQ_isChecked_57 f (nI k) x (nI (p + 1)) z') ∧ (x = 0 ∨ x = 1) ∧ (x = 1 ↔ lc_Wp y0 o ρ D i) := fun k1 k2 => ⟨1, z, lc_kN.rf, plain (by rw [e82]; exact k1) (by rw [e82]; exact k2), Or.inr rfl, ⟨fun _ => lc_Wp_no k1 k2, fun _ => rfl⟩⟩
    rcases h with ⟨k1', -⟩ | ⟨k1', -⟩ | ⟨a2, h2, q1, q2, ⟨m1, -⟩ | ⟨m1, m2, m3, bb, m4, m5, m6, m7, m8⟩ | ⟨m1, m2, m3, bb, m4, m5, m6, m7, m8⟩ | ⟨m1, -⟩⟩
    · exact pl2 (by rcases k1' with g | g | g <;> rw [g] <;> decide) (by rcases k1' with g | g | g <;> rw [g] <;> decide)
    · exact pl2 (by rw [k1']; decide) (by rw [k1']; decide)
    · exact pl2 (by rcases m1 with g | g | g | g | g | g <;> rw [g] <;> decide) (by rcases m1 with g | g | g | g | g | g <;> rw [g] <;> decide)
    · have rb := lc_R_lo m8
      have c3 : lc_in (nI (p + 1)) 120 := nI_in (by omega) (by decide)
      have d3 : (nI (p + 1)).toNatClampNeg = p + 1 := nI_clamp (by omega)
      have hpa : lc_pp2 y0 z0 o (120 * (k + 1)) cnt a (p + 1) := ⟨D, lo, h1, env, r4, lc_eo_mono (Nat.le_refl _) (by omega) env he, by omega, by omega⟩
      rcases hX a (p + 1) hpa with ⟨-, x⟩ | ⟨u, u1, u2, u3⟩
      · exact absurd x (hsome a (by omega))
      · have e85 : ∀ {z1 : lc_S}, lc_kN z z1 → lcI z1 85 (120 * (k + 1) + p) = nI h1 := fun k => by rw [k.1 _ _ (by decide) (by decide) (by decide), es 85 (by decide) (by decide)]; exact q2
        obtain ⟨x, z', w1, w2, w3, w4⟩ := lc_useQ (b := bb) (pt := 0) (B := nI p) (O := 0) (r := ρ a) hk hc m4 (by decide) hsub m8 (lc_eo_let he r4 m4 m5 m7 r2 (by rw [r3]; exact m1) (by omega) (Nat.le_refl _)) (lc_dis_let he hp hd m5) List.mem_cons_self (by omega) sz h89 hT u1 (Or.inl ⟨rfl, u3.symm⟩) (lc_in (nI (120 * (k + 1) + p)) 600) c2 (fun z1 => lcI z1 85 (120 * (k + 1) + p)) (fun z1 k1 => e85 k1)
        refine ⟨x, z', w2, fun f => ?_, w3, ?_⟩
        · have n47 : lcI z' 82 (120 * (k + 1) + p) ≠ 47 := by rw [w2.1 _ _ (by decide) (by decide) (by decide), e82, m1]; decide
          have fin : ∀ x, fQ_isChecked_169 (fQ_isChecked_57 f) (nI k) x (nI p) (nI (120 * (k + 1) + p)) (nI u) z' = fQ_isChecked_57 f (nI k) x (nI (p + 1)) z' := fun x => by
            rw [fQ_isChecked_169]
            simp only [lc_chk_pos c2, d2, n47, ↓reduceIte]
            rw [fQ_isChecked_249, lc_let_eq, nI_1]
          have h123 : fQ_isChecked_123 (fQ_isChecked_57 f) (nI k) 1 (nI p) (nI (120 * (k + 1) + p)) (nI u) z = lc_bnd (fQ_isLinear (nI u) z) (fun r1 z1 => if r1 = 0 then fQ_isChecked_169 (fQ_isChecked_57 f) (nI k) 1 (nI p) (nI (120 * (k + 1) + p)) (nI u) z1 else lc_chk (lc_in (nI (120 * (k + 1) + p)) 600) (lc_bnd (fQ_isUsedOnce (nI k) (nI p) 0 (lcI z1 85 (120 * (k + 1) + p)) z1) (fun r2 z2 => if r2 = 0 then fQ_isChecked_169 (fQ_isChecked_57 f) (nI k) 0 (nI p) (nI (120 * (k + 1) + p)) (nI u) z2 else fQ_isChecked_169 (fQ_isChecked_57 f) (nI k) 1 (nI p) (nI (120 * (k + 1) + p)) (nI u) z2))) := by
            have m58 : lcI z 82 (120 * (k + 1) + p) = 58 := by rw [e82]; exact m1
            rw [fQ_isChecked_123]
            simp only [lc_chk_pos c2, d2, m58, ↓reduceIte, fQ_isChecked_163, fQ_isChecked_168]
          rw [st, if_pos (by rw [e82]; exact m1), fQ_isChecked_107]
          simp only [lc_chk_pos c2, d2, e84, lc_chk_pos c3, d3, u2]
          rw [h123, w1 (fun x z1 => fQ_isChecked_169 (fQ_isChecked_57 f) (nI k) x (nI p) (nI (120 * (k + 1) + p)) (nI u) z1)]
          exact fin x
        · rw [lc_Wp_of r1 q1 m6 (by omega) (by omega) m4, w4]
          exact ⟨fun h => ⟨fun _ => h, fun e => by rw [m1] at e; exact absurd e (by decide)⟩, fun h => h.1 m1⟩
    · have rb := lc_R_lo m8
      have c3 : lc_in (nI (p + 1)) 120 := nI_in (by omega) (by decide)
      have d3 : (nI (p + 1)).toNatClampNeg = p + 1 := nI_clamp (by omega)
      have n58 : lcI y0 (o + 2) i ≠ 58 := by rw [m1]; decide
      have hpa : lc_pp2 y0 z0 o (120 * (k + 1)) cnt a (p + 1) := ⟨D, lo, h1, env, r4, lc_eo_mono (Nat.le_refl _) (by omega) env he, by omega, by omega⟩
      rcases hX a (p + 1) hpa with ⟨-, x⟩ | ⟨u, u1, u2, u3⟩
      · exact absurd x (hsome a (by omega))
      · have e85 : ∀ {z1 : lc_S}, lc_kN z z1 → lcI z1 85 (120 * (k + 1) + p) = nI h1 := fun k => by rw [k.1 _ _ (by decide) (by decide) (by decide), es 85 (by decide) (by decide)]; exact q2
        have hn := hT.2.2.1
        have c4 : lc_in (nI u) 340 := nI_in (by omega) (by decide)
        have d4 : (nI u).toNatClampNeg = u := nI_clamp (by omega)
        obtain ⟨-, -, l3⟩ := (hl i hic).2.2 a r1 (by omega)
        obtain ⟨l4, -⟩ := l3 a2 q1 (by omega)
        rcases l4.2.1 m1 with ⟨⟨ta, tb, hpair⟩, -⟩ | ⟨-, hno⟩
        · rcases lc_dQ_pair hT u1 with ⟨g0, xa, xb, g1', g2', g3', g4', g5'⟩ | ⟨-, g1'⟩
          · have eo2 := lc_eo_split he r4 m4 m5 m7 r2 (by rw [r3]; exact m1) (show a < a + 1 by omega) (Nat.le_refl h1)
            have ds2 := lc_dis_split he hp hd m5
            have ρa : ρ a = some (lc_prr (δ xa) (δ xb)) := by rw [u3, g5']
            obtain ⟨x1, z1, w1, w2, w3, w4⟩ := lc_useQ (b := bb) (pt := 1) (B := nI p) (O := 0) (r := ρ a) hk hc m4 (by decide) hsub m8 eo2 ds2 (List.mem_cons_of_mem _ List.mem_cons_self) (by omega) sz h89 hT (show xa < n by omega) (Or.inr (Or.inl ⟨rfl, Or.inl ⟨_, _, ρa, rfl⟩⟩)) (lc_in (nI (120 * (k + 1) + p)) 600) c2 (fun z1 => lcI z1 85 (120 * (k + 1) + p)) (fun z1 k1 => e85 k1)
            have T1 : lc_TQ z1 δ n := lc_TQ_eq (w2.1 _ _ (by decide) (by decide) (by decide)) (fun j => w2.1 _ _ (by decide) (by decide) (by decide)) (fun j => w2.1 _ _ (by decide) (by decide) (by decide)) hT
            obtain ⟨x2, z2, v1, v2, v3, v4⟩ := lc_useQ (z := z1) (b := bb) (pt := 2) (B := nI p) (O := 1) (r := ρ a) hk hc m4 (by decide) hsub m8 eo2 ds2 List.mem_cons_self (by omega) (fun c j a b => (w2.sz c j a b).trans (sz c j a b)) h89 T1 (show xb < n by omega) (Or.inr (Or.inr ⟨rfl, Or.inl ⟨_, _, ρa, rfl⟩⟩)) (lc_in (nI (120 * (k + 1) + p)) 600) c2 (fun z1 => lcI z1 85 (120 * (k + 1) + p)) (fun z2 k2 => e85 (w2.tr k2))
            have z99 : lcI z1 99 u = nI xb := by rw [w2.1 _ _ (by decide) (by decide) (by decide)]; exact g4'
            have h212 : ∀ f, fQ_isChecked_212 (fQ_isChecked_57 f) (nI k) (nI p) (nI (120 * (k + 1) + p)) (nI u) z1 = fQ_isChecked_57 f (nI k) x2 (nI (p + 1)) z2 := fun f => by
              have e : fQ_isChecked_212 (fQ_isChecked_57 f) (nI k) (nI p) (nI (120 * (k + 1) + p)) (nI u) z1 = lc_bnd (fQ_isLinear (nI xb) z1) (fun r1 z1 => if r1 = 0 then fQ_isChecked_57 f (nI k) 1 (nI (p + 1)) z1 else lc_chk (lc_in (nI (120 * (k + 1) + p)) 600) (lc_bnd (fQ_isUsedOnce (nI k) (nI p) 1 (lcI z1 85 (120 * (k + 1) + p)) z1) (fun r2 z2 => if r2 = 0 then fQ_isChecked_57 f (nI k) 0 (nI (p + 1)) z2 else fQ_isChecked_57 f (nI k) 1 (nI (p + 1)) z2))) := by
                rw [fQ_isChecked_212]
                simp only [lc_chk_pos c4, d4, z99, lc_chk_pos c2, d2, fQ_isChecked_243, fQ_isChecked_247, fQ_isChecked_248, fQ_isChecked_249, lc_let_eq, nI_1]
              rw [e]; exact v1 (fun x z => fQ_isChecked_57 f (nI k) x (nI (p + 1)) z)
            have h169 : ∀ f, fQ_isChecked_169 (fQ_isChecked_57 f) (nI k) 1 (nI p) (nI (120 * (k + 1) + p)) (nI u) z = if x1 = 0 then fQ_isChecked_57 f (nI k) 0 (nI (p + 1)) z1 else fQ_isChecked_57 f (nI k) x2 (nI (p + 1)) z2 := fun f => by
              have m47 : lcI z 82 (120 * (k + 1) + p) = 47 := by rw [e82]; exact m1
              have e : fQ_isChecked_169 (fQ_isChecked_57 f) (nI k) 1 (nI p) (nI (120 * (k + 1) + p)) (nI u) z = lc_bnd (fQ_isLinear (nI xa) z) (fun r1 z1 => if r1 = 0 then fQ_isChecked_212 (fQ_isChecked_57 f) (nI k) (nI p) (nI (120 * (k + 1) + p)) (nI u) z1 else lc_chk (lc_in (nI (120 * (k + 1) + p)) 600) (lc_bnd (fQ_isUsedOnce (nI k) (nI p) 0 (lcI z1 85 (120 * (k + 1) + p)) z1) (fun r2 z2 => if r2 = 0 then fQ_isChecked_57 f (nI k) 0 (nI (p + 1)) z2 else fQ_isChecked_212 (fQ_isChecked_57 f) (nI k) (nI p) (nI (120 * (k + 1) + p)) (nI u) z2))) := by
                rw [fQ_isChecked_169]
                simp only [lc_chk_pos c2, d2, m47, ↓reduceIte, lc_chk_pos c4, d4, g3', fQ_isChecked_247, fQ_isChecked_248, fQ_isChecked_249, lc_let_eq, nI_1]
              have e2 := w1 (fun x z => if x = 0 then fQ_isChecked_57 f (nI k) 0 (nI (p + 1)) z else fQ_isChecked_212 (fQ_isChecked_57 f) (nI k) (nI p) (nI (120 * (k + 1) + p)) (nI u) z)
              have t1 : ¬ (1 : Int32) = 0 := by decide
              simp only [t1, ↓reduceIte] at e2
              rw [e, e2, h212]
            have hst : ∀ f, fQ_isChecked_57 (f + 1) (nI k) 1 (nI p) z = fQ_isChecked_169 (fQ_isChecked_57 f) (nI k) 1 (nI p) (nI (120 * (k + 1) + p)) (nI u) z := fun f => by
              have n58' : lcI z 82 (120 * (k + 1) + p) ≠ 58 := by rw [e82]; exact n58
              rw [st, if_neg n58', if_pos (by rw [e82]; exact m1), fQ_isChecked_107]
              simp only [lc_chk_pos c2, d2, e84, lc_chk_pos c3, d3, u2]
              rw [fQ_isChecked_123]
              simp only [lc_chk_pos c2, d2, n58', ↓reduceIte]
            have hW : lc_Wp y0 o ρ D i ↔ x1 = 1 ∧ x2 = 1 := by
              rw [lc_Wp_of r1 q1 m6 (by omega) (by omega) m4, w4, v4]
              exact ⟨fun h => h.2 m1, fun h => ⟨fun e => absurd e n58, fun _ => h⟩⟩
            rcases w3 with hx | hx
            · exact ⟨0, z1, w2, fun f => by rw [hst, h169, if_pos hx], Or.inl rfl, ⟨fun h => absurd h (by decide), fun h => by rw [hW, hx] at h; exact absurd h.1 (by decide)⟩⟩
            · exact ⟨x2, z2, w2.tr v2, fun f => by rw [hst, h169, if_neg (by rw [hx]; decide)], v3, ⟨fun h => hW.mpr ⟨hx, h⟩, fun h => (hW.mp h).2⟩⟩
          · rw [u3] at hpair; exact absurd hpair (g1' ta tb)
        · exact absurd hno (hsome i hic)
    · exact pl2 (by rw [m1]; decide) (by rw [m1]; decide)
theorem lc_chkQ {y0 z0 : lc_S} {o k cnt n : Nat} {δ : Nat → lc_tp} {ρ VT GT : Nat → lc_ot} (hk : k < 4) (hc : cnt ≤ 120) (hsub : ∀ p, p < cnt → ∃ i, lc_pp2 y0 z0 o (120 * (k + 1)) cnt i p) (hsub2 : ∀ p, p < cnt → ∃ D i, lc_pq y0 z0 o (120 * (k + 1)) cnt D i p) (hl : ∀ j, j < cnt → lc_loc y0 o k ρ VT GT j) (hsome : ∀ j, j < cnt → ρ j ≠ none) (h89 : lcI z0 89 (k + 1) = nI cnt) :
    ∀ (m p f : Nat) (z : lc_S) (g : Int32), p + m = cnt → m < f → (g = 0 ∨ g = 1) → lc_sz z0 z → lc_TQ z δ n → (∀ i p, lc_pp2 y0 z0 o (120 * (k + 1)) cnt i p → lc_xQ δ n (lcI z 100 p) (ρ i)) → ∃ x z', fQ_isChecked_57 f (nI k) g (nI p) z = some (x, z') ∧ lc_kN z z' ∧ (x = 0 ∨ x = 1) ∧ (x = 1 ↔ g = 1 ∧ ∀ D i p', p ≤ p' → p' < cnt → lc_pq y0 z0 o (120 * (k + 1)) cnt D i p' → lc_Wp y0 o ρ D i)
  | m, p, 0, z, g, _, hf, _, _, _, _ => absurd hf (by omega)
  | 0, p, f + 1, z, g, hp, _, hg, sz, hT, hX => by
    have hp : p = cnt := by omega
    subst hp
    have c1 : lc_in (nI (k + 1)) 5 := nI_in (by omega) (by decide)
    have d1 : (nI (k + 1)).toNatClampNeg = k + 1 := nI_clamp (by omega)
    have e89 : lcI z 89 (k + 1) = nI p := by rw [sz _ _ (by decide) (by decide)]; exact h89
    refine ⟨g, z, ?_, lc_kN.rf, hg, ⟨fun h => ⟨h, fun D i p' a b => absurd b (by omega)⟩, fun h => h.1⟩⟩
    rw [fQ_isChecked_57, nI_1, lc_chk_pos c1, if_pos (by rw [d1, e89]; exact nI_le (Nat.le_refl _) (by omega)), fQ_isChecked_255, lc_chk_pos hg]
  | m + 1, p, f + 1, z, g, hp, hf, hg, sz, hT, hX => by
    have c1 : lc_in (nI (k + 1)) 5 := nI_in (by omega) (by decide)
    have d1 : (nI (k + 1)).toNatClampNeg = k + 1 := nI_clamp (by omega)
    have e89 : lcI z 89 (k + 1) = nI cnt := by rw [sz _ _ (by decide) (by decide)]; exact h89
    rcases hg with hg | hg
    · refine ⟨0, z, ?_, lc_kN.rf, Or.inl rfl, ⟨fun h => absurd h (by decide), fun h => by rw [hg] at h; exact absurd h.1 (by decide)⟩⟩
      rw [fQ_isChecked_57, nI_1, lc_chk_pos c1, if_neg (by rw [d1, e89]; exact nI_ge (by omega) (by omega)), if_pos hg, fQ_isChecked_255, hg, lc_chk_pos (Or.inl rfl)]
    · subst hg
      obtain ⟨D, i, hq⟩ := hsub2 p (by omega)
      obtain ⟨x, z1, k1, e1, e2, e3⟩ := lc_chkQ1 hk hc hsub hl hsome hq sz h89 hT hX
      obtain ⟨x', z', q1, q2, q3, q4⟩ := lc_chkQ (n := n) (δ := δ) hk hc hsub hsub2 hl hsome h89 m (p + 1) f z1 x (by omega) (by omega) e2 (fun c j a b => (k1.sz c j a b).trans (sz c j a b)) (lc_TQ_eq (k1.1 _ _ (by decide) (by decide) (by decide)) (fun j => k1.1 _ _ (by decide) (by decide) (by decide)) (fun j => k1.1 _ _ (by decide) (by decide) (by decide)) hT) (fun i p hp => by rw [k1.1 _ _ (by decide) (by decide) (by decide)]; exact hX i p hp)
      refine ⟨x', z', by rw [e1]; exact q1, k1.tr q2, q3, ?_⟩
      rw [q4]
      refine ⟨fun h => ⟨rfl, fun D' i' p' a b hq' => ?_⟩, fun h => ⟨e3.mpr (h.2 D i p (Nat.le_refl _) (by omega) hq), fun D' i' p' a b hq' => h.2 D' i' p' (by omega) b hq'⟩⟩
      by_cases hpp : p' = p
      · subst hpp
        obtain ⟨x2, z2, k2, f1, f2, f3⟩ := lc_chkQ1 hk hc hsub hl hsome hq' sz h89 hT hX
        rcases f2 with hx2 | hx2
        · exfalso
          have t1 := q1
          rw [← e1, f1, hx2] at t1
          obtain ⟨x3, z3, r1, r2, r3, r4⟩ := lc_chkQ (n := n) (δ := δ) hk hc hsub hsub2 hl hsome h89 m (p' + 1) f z2 0 (by omega) (by omega) (Or.inl rfl) (fun c j a b => (k2.sz c j a b).trans (sz c j a b)) (lc_TQ_eq (k2.1 _ _ (by decide) (by decide) (by decide)) (fun j => k2.1 _ _ (by decide) (by decide) (by decide)) (fun j => k2.1 _ _ (by decide) (by decide) (by decide)) hT) (fun i p hp => by rw [k2.1 _ _ (by decide) (by decide) (by decide)]; exact hX i p hp)
          rw [r1] at t1
          cases t1
          have := r4.mp (q4.mpr h)
          exact absurd this.1 (by decide)
        · exact f3.mp hx2
      · exact h.2 D' i' p' (by omega) b hq'
