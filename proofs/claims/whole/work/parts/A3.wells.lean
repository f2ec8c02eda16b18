/-! each variable is used well: pairs of expressions, and the class -/
def lc_pq (y z : lc_S) (o base cnt D i p : Nat) : Prop := ∃ lo hi env, lc_R y z o base (D + 1) lo i p hi env ∧ lc_eo y z o base env lo p ∧ lc_dis env ∧ i < cnt ∧ hi ≤ cnt
theorem lc_R_subs {y z : lc_S} {o base cnt : Nat} : ∀ (D lo i p hi : Nat) (env : List lc_en), lc_R y z o base D lo i p hi env → lc_eo y z o base env lo p → lc_dis env → i < cnt → hi ≤ cnt → (∀ i', lo ≤ i' → i' ≤ i → ∃ D' p', lc_pq y z o base cnt D' i' p' ∧ p' < hi) ∧ ∀ p', p ≤ p' → p' < hi → ∃ D' i', lc_pq y z o base cnt D' i' p'
  | 0, _, _, _, _, _, h, _, _, _, _ => absurd h id
  | D + 1, lo, i, p, hi, env, h, he, hd, hic, hhc => by
    have h0 := h
    rw [lc_R] at h
    obtain ⟨g1, g2, g3, g4, h⟩ := h
    have self : lc_pq y z o base cnt D i p := ⟨lo, hi, env, h0, he, hd, hic, hhc⟩
    rcases h with ⟨r1, r2, -⟩ | ⟨r1, r2, -⟩ | ⟨a, h1, r1, r2, r3, r4, h⟩
    · refine ⟨fun i' l1 l2 => ?_, fun p' l1 l2 => ?_⟩
      · have : i' = i := by omega
        subst this; exact ⟨D, p, self, by omega⟩
      · have : p' = p := by omega
        subst this; exact ⟨D, i, self⟩
    · refine ⟨fun i' l1 l2 => ?_, fun p' l1 l2 => ?_⟩
      · have : i' = i := by omega
        subst this; exact ⟨D, p, self, by omega⟩
      · have : p' = p := by omega
        subst this; exact ⟨D, i, self⟩
    · have ra := lc_R_lo r4
      have one : i = a + 1 → hi = h1 → (∀ i', lo ≤ i' → i' ≤ i → ∃ D' p', lc_pq y z o base cnt D' i' p' ∧ p' < hi) ∧ ∀ p', p ≤ p' → p' < hi → ∃ D' i', lc_pq y z o base cnt D' i' p' := fun hi1 hi2 => by
        clear h
        obtain ⟨A1, A2⟩ := lc_R_subs (cnt := cnt) D lo a (p + 1) h1 env r4 (lc_eo_mono (Nat.le_refl _) (by omega) env he) hd (by omega) (by omega)
        refine ⟨fun i' l1 l2 => ?_, fun p' l1 l2 => ?_⟩
        · by_cases c : i' = i
          · subst c; exact ⟨D, p, self, by omega⟩
          · obtain ⟨D', p', q1, q2⟩ := A1 i' l1 (by omega)
            exact ⟨D', p', q1, by omega⟩
        · by_cases c : p' = p
          · subst c; exact ⟨D, i, self⟩
          · exact A2 p' (by omega) (by omega)
      have two : ∀ a2 h2 env', i = a2 + 1 → hi = h2 → lc_R y z o base D (a + 1) a2 h1 h2 env' → lc_eo y z o base env' (a + 1) h1 → lc_dis env' → (∀ i', lo ≤ i' → i' ≤ i → ∃ D' p', lc_pq y z o base cnt D' i' p' ∧ p' < hi) ∧ ∀ p', p ≤ p' → p' < hi → ∃ D' i', lc_pq y z o base cnt D' i' p' := fun a2 h2 env' hi1 hi2 hR2 he2 hd2 => by
        clear h one
        have rb := lc_R_lo hR2
        obtain ⟨A1, A2⟩ := lc_R_subs (cnt := cnt) D lo a (p + 1) h1 env r4 (lc_eo_mono (Nat.le_refl _) (by omega) env he) hd (by omega) (by omega)
        obtain ⟨B1, B2⟩ := lc_R_subs (cnt := cnt) D (a + 1) a2 h1 h2 env' hR2 he2 hd2 (by omega) (by omega)
        refine ⟨fun i' l1 l2 => ?_, fun p' l1 l2 => ?_⟩
        · by_cases c : i' = i
          · subst c; exact ⟨D, p, self, by omega⟩
          · by_cases c2 : i' ≤ a
            · obtain ⟨D', p', q1, q2⟩ := A1 i' l1 c2
              exact ⟨D', p', q1, by omega⟩
            · obtain ⟨D', p', q1, q2⟩ := B1 i' (by omega) (by omega)
              exact ⟨D', p', q1, by omega⟩
        · by_cases c : p' = p
          · subst c; exact ⟨D, i, self⟩
          · by_cases c2 : p' < h1
            · exact A2 p' (by omega) c2
            · exact B2 p' (by omega) (by omega)
      rcases h with ⟨k1', k2', k3', k4'⟩ | ⟨k1', k2', k3', k4', -⟩ | ⟨a2, h2, q1, q2, ⟨m1, m2, m3, m4⟩ | ⟨m1, m2, m3, bb, m4, m5, m6, m7, m8⟩ | ⟨m1, m2, m3, bb, m4, m5, m6, m7, m8⟩ | ⟨m1, a3, m2, m3, m4, m5, m6⟩⟩
      · exact one k2' k3'
      · exact one k2' k3'
      · exact two a2 h2 _ m2 m3 m4 (lc_eo_mono (by omega) (by omega) env he) hd
      · exact two a2 h2 _ m2 m3 m8 (lc_eo_let he r4 m4 m5 m7 r2 (by rw [r3]; exact m1) (by omega) (Nat.le_refl _)) (lc_dis_let he (by omega) hd m5)
      · exact two a2 h2 _ m2 m3 m8 (lc_eo_split he r4 m4 m5 m7 r2 (by rw [r3]; exact m1) (by omega) (Nat.le_refl _)) (lc_dis_split he (by omega) hd m5)
      · have rb := lc_R_lo m5
        have rc := lc_R_lo m6
        obtain ⟨A1, A2⟩ := lc_R_subs (cnt := cnt) D lo a (p + 1) h1 env r4 (lc_eo_mono (Nat.le_refl _) (by omega) env he) hd (by omega) (by omega)
        obtain ⟨B1, B2⟩ := lc_R_subs (cnt := cnt) D (a + 1) a2 h1 h2 env m5 (lc_eo_mono (by omega) (by omega) env he) hd (by omega) (by omega)
        obtain ⟨C1, C2⟩ := lc_R_subs (cnt := cnt) D (a2 + 1) a3 h2 hi env m6 (lc_eo_mono (by omega) (by omega) env he) hd (by omega) hhc
        refine ⟨fun i' l1 l2 => ?_, fun p' l1 l2 => ?_⟩
        · by_cases c : i' = i
          · subst c; exact ⟨D, p, self, by omega⟩
          · by_cases c2 : i' ≤ a
            · obtain ⟨D', p', q1, q2⟩ := A1 i' l1 c2
              exact ⟨D', p', q1, by omega⟩
            · by_cases c3 : i' ≤ a2
              · obtain ⟨D', p', q1, q2⟩ := B1 i' (by omega) c3
                exact ⟨D', p', q1, by omega⟩
              · exact C1 i' (by omega) (by omega)
        · by_cases c : p' = p
          · subst c; exact ⟨D, i, self⟩
          · by_cases c2 : p' < h1
            · exact A2 p' (by omega) c2
            · by_cases c3 : p' < h2
              · exact B2 p' (by omega) c3
              · exact C2 p' (by omega) l2
/-- a type's wish to be used once; no type has none -/
def lc_ol : lc_ot → Int32
  | none => 0
  | some t => lc_lin t
/-- a variable for a part of what has type r, in the scope sc -/
def lc_wv (y : lc_S) (o : Nat) (r : lc_ot) (pt b D sc : Nat) : Prop := ∃ v, lc_part r pt v ∧ (lc_ol v = 0 ∨ lc_us y o b pt D sc = some 1)
theorem lc_part_det {r v w : lc_ot} {pt : Nat} (h : lc_part r pt v) (g : lc_part r pt w) : v = w := by
  rcases h with ⟨h0, h⟩ | ⟨h0, ⟨a, b, h1, h2⟩ | ⟨h1, h2⟩⟩ | ⟨h0, ⟨a, b, h1, h2⟩ | ⟨h1, h2⟩⟩
  · rcases g with ⟨-, g⟩ | ⟨g0, -⟩ | ⟨g0, -⟩
    · rw [h, g]
    · omega
    · omega
  · rcases g with ⟨g0, -⟩ | ⟨g0, ⟨c, d, g1, g2⟩ | ⟨g1, g2⟩⟩ | ⟨g0, -⟩
    · omega
    · rw [h1] at g1
      injection g1 with g1
      injection g1 with g1 _
      rw [h2, g2, g1]
    · exact absurd h1 (g1 a b)
    · omega
  · rcases g with ⟨g0, -⟩ | ⟨g0, ⟨c, d, g1, g2⟩ | ⟨g1, g2⟩⟩ | ⟨g0, -⟩
    · omega
    · exact absurd g1 (h1 c d)
    · rw [h2, g2]
    · omega
  · rcases g with ⟨g0, -⟩ | ⟨g0, -⟩ | ⟨g0, ⟨c, d, g1, g2⟩ | ⟨g1, g2⟩⟩
    · omega
    · omega
    · rw [h1] at g1
      injection g1 with g1
      injection g1 with _ g1
      rw [h2, g2, g1]
    · exact absurd h1 (g1 a b)
  · rcases g with ⟨g0, -⟩ | ⟨g0, -⟩ | ⟨g0, ⟨c, d, g1, g2⟩ | ⟨g1, g2⟩⟩
    · omega
    · omega
    · exact absurd g1 (h1 c d)
    · rw [h2, g2]
theorem lc_wv_iff {y : lc_S} {o pt b D sc : Nat} {r v : lc_ot} (h : lc_part r pt v) : lc_wv y o r pt b D sc ↔ (lc_ol v = 0 ∨ lc_us y o b pt D sc = some 1) :=
  ⟨fun ⟨w, g1, g2⟩ => by rw [lc_part_det h g1]; exact g2, fun g => ⟨v, h, g⟩⟩
theorem lc_isLinA {y : lc_S} {δ : Nat → lc_tp} {n t : Nat} (hT : lc_TA y δ n) (ht : t < n) : fT_isLinear (nI t) y = some (lc_ol (lc_oA δ t), y) := by
  have hn := hT.2.2.1
  have c1 : lc_in (nI t) 243 := nI_in (by omega) (by decide)
  have d1 : (nI t).toNatClampNeg = t := nI_clamp (by omega)
  have e : lcI y 13 t = lc_ol (lc_oA δ t) := by
    unfold lc_oA
    by_cases t0 : t = 0
    · rw [if_pos t0, t0]; exact hT.2.2.2.2.2.1.2.2.2.2.1
    · rw [if_neg t0]; exact (lc_TA_12 hT (by omega) ht).2
  have z : lc_zok (lcI y 13 t) := by
    rw [e]
    unfold lc_ol
    cases lc_oA δ t with
    | none => exact Or.inl rfl
    | some τ => exact lc_lin01 τ
  rw [fT_isLinear, lc_chk_pos c1, lc_chk_pos (by rw [d1]; exact z), d1, e]
/-- the class's isUsedWell -/
theorem lc_wellA {y0 z y : lc_S} {o base b pt s n D lo i p hi : Nat} {δ : Nat → lc_tp} {env : List lc_en} (ho : lc_sh o = (0, 1, 0)) (hR : lc_R y0 z o base D lo i p hi env) (hr : lcR y 8 4 = some o) (sy : lc_sy y0 y) (hb : b < 24) (hp : pt < 3) (h8 : lcI y0 (o + 8) b + 1 = nI lo) (hT : lc_TA y δ n) (hs : s < n) (hbt : fK_typeOfBound (nI b) y = some (nI s, y)) : ∃ x y', fK_isUsedWell (nI b) (nI pt) (nI i) y = some (x, y') ∧ lc_kU y y' ∧ (x = 0 ∨ x = 1) ∧ (x = 1 ↔ lc_wv y0 o (lc_oA δ s) pt b D i) := by
  obtain ⟨t, t1, t2, t3⟩ := lc_ptA hT hs hp
  have hl := lc_isLinA hT t1
  rw [lc_wv_iff t3]
  have st : fK_isUsedWell (nI b) (nI pt) (nI i) y = if lc_ol (lc_oA δ t) = 0 then some (1, y) else lc_bnd (fK_usesOf (nI b) (nI pt) (nI i) y) (fun r27 z27 => if r27 = 1 then some (1, z27) else some (0, z27)) := by
    rw [fK_isUsedWell, lc_bnd_eq hbt, lc_bnd_eq t2, lc_bnd_eq hl]; rfl
  by_cases h0 : lc_ol (lc_oA δ t) = 0
  · exact ⟨1, y, by rw [st, if_pos h0], lc_kU.rf, Or.inr rfl, ⟨fun _ => Or.inl h0, fun _ => rfl⟩⟩
  · obtain ⟨x, y', e1, e2, e3⟩ := lc_usesOfA (b := b) (pt := pt) ho hR hr sy hb h8
    rw [if_neg h0, lc_bnd_eq e1] at st
    by_cases hx : x = 1
    · exact ⟨1, y', by rw [st, if_pos hx], e2, Or.inr rfl, ⟨fun _ => Or.inr (e3.mp hx), fun _ => rfl⟩⟩
    · exact ⟨0, y', by rw [st, if_neg hx], e2, Or.inl rfl, ⟨fun h => absurd h (by decide), fun h => by
        rcases h with h | h
        · exact absurd h h0
        · exact absurd (e3.mpr h) hx⟩⟩
/-- a binder's expression is well used -/
def lc_Wp (y : lc_S) (o : Nat) (ρ : Nat → lc_ot) (D i : Nat) : Prop := ∀ a a2 b, lcI y (o + 3) i = nI a → lcI y (o + 4) i = nI a2 → lcI y (o + 7) i = nI b → a < 120 → a2 < 120 → b < 24 → (lcI y (o + 2) i = 58 → lc_wv y o (ρ a) 0 b D a2) ∧ (lcI y (o + 2) i = 47 → lc_wv y o (ρ a) 1 b D a2 ∧ lc_wv y o (ρ a) 2 b D a2)
theorem lc_Wp_of {y : lc_S} {o : Nat} {ρ : Nat → lc_ot} {D i a a2 b : Nat} (h3 : lcI y (o + 3) i = nI a) (h4 : lcI y (o + 4) i = nI a2) (h7 : lcI y (o + 7) i = nI b) (ha : a < 120) (ha2 : a2 < 120) (hb : b < 24) : lc_Wp y o ρ D i ↔ ((lcI y (o + 2) i = 58 → lc_wv y o (ρ a) 0 b D a2) ∧ (lcI y (o + 2) i = 47 → lc_wv y o (ρ a) 1 b D a2 ∧ lc_wv y o (ρ a) 2 b D a2)) := by
  refine ⟨fun h => h a a2 b h3 h4 h7 ha ha2 hb, fun h a' a2' b' g3 g4 g7 ga ga2 gb => ?_⟩
  have e1 : a' = a := (nI_eq (by omega) (by omega)).mp (g3.symm.trans h3)
  have e2 : a2' = a2 := (nI_eq (by omega) (by omega)).mp (g4.symm.trans h4)
  have e3 : b' = b := (nI_eq (by omega) (by omega)).mp (g7.symm.trans h7)
  subst e1; subst e2; subst e3
  exact h
theorem lc_Wp_no {y : lc_S} {o : Nat} {ρ : Nat → lc_ot} {D i : Nat} (h : lcI y (o + 2) i ≠ 58) (h' : lcI y (o + 2) i ≠ 47) : lc_Wp y o ρ D i := fun _ _ _ _ _ _ _ _ _ => ⟨fun e => absurd e h, fun e => absurd e h'⟩
/-- all of a body's binders from i on -/
def lc_OK (y z : lc_S) (o base cnt : Nat) (ρ : Nat → lc_ot) (i : Nat) : Prop := ∀ D p, lc_pq y z o base cnt D i p → lc_Wp y o ρ D i
/-- one expression of the class's loop -/
theorem lc_eachA1 {y0 z y : lc_S} {o base cnt k n D i p : Nat} {δ : Nat → lc_tp} {τ : Nat → Nat} (ho : lc_sh o = (0, 1, 0)) (hc : cnt ≤ 120) (hq : lc_pq y0 z o base cnt D i p) (hr : lcR y 8 4 = some o) (sy : lc_sy y0 y) (h11 : lcI y o 11 = nI cnt) (hT : lc_TA y δ n) (hτ : ∀ j, j < cnt → lcI y 17 j = nI (τ j) ∧ τ j < n) :
    ∃ y', lc_kU y y' ∧ (((∀ f, fK_eachVariableIsUsedWell_20 (f + 1) (nI i) y = fK_eachVariableIsUsedWell_20 f (nI (i + 1)) y') ∧ lc_Wp y0 o (fun j => lc_oA δ (τ j)) D i) ∨ ((∀ f, fK_eachVariableIsUsedWell_20 (f + 1) (nI i) y = some (0, y')) ∧ ¬ lc_Wp y0 o (fun j => lc_oA δ (τ j)) D i)) := by
  obtain ⟨lo, hi, env, hR, he, hd, hic, hhc⟩ := hq
  rw [lc_R] at hR
  obtain ⟨g1, g2, g3, g4, h⟩ := hR
  have ho' := lc_o ho
  have c1 : lc_in (nI i) 120 := nI_in g1 (by decide)
  have d1 : (nI i).toNatClampNeg = i := nI_clamp (by omega)
  have n1 : ¬ nI cnt ≤ nI i := nI_ge (by omega) (by omega)
  have hb : lc_bnr (some o) = fun f : Nat → Option (Int32 × lc_S) => f o := rfl
  have s2 := sy (o + 2) i (by omega) (by omega)
  have s4 := sy (o + 4) i (by omega) (by omega)
  have s7 := sy (o + 7) i (by omega) (by omega)
  have st : ∀ f, fK_eachVariableIsUsedWell_20 (f + 1) (nI i) y = if lcI y0 (o + 2) i = 58 then lc_bnd (fK_isUsedWell (lcI y0 (o + 7) i) 0 (lcI y0 (o + 4) i) y) (fun r69 z69 => if r69 = 0 then some (0, z69) else fK_eachVariableIsUsedWell_77 (fK_eachVariableIsUsedWell_20 f) (nI i) (lcI y0 (o + 7) i) (lcI y0 (o + 4) i) z69) else fK_eachVariableIsUsedWell_77 (fK_eachVariableIsUsedWell_20 f) (nI i) (lcI y0 (o + 7) i) (lcI y0 (o + 4) i) y := fun f => by
    rw [fK_eachVariableIsUsedWell_20]
    simp only [hr, hb, lc_chk_pos ho, h11, n1, ↓reduceIte, lc_chk_pos c1, d1, lc_let_eq, s2, s4, s7]
  have st77 : ∀ (f : Nat) (x2 x3 : Int32) (y1 : lc_S), lc_kU y y1 → fK_eachVariableIsUsedWell_77 (fK_eachVariableIsUsedWell_20 f) (nI i) x2 x3 y1 = if lcI y0 (o + 2) i = 47 then lc_bnd (fK_isUsedWell x2 1 x3 y1) (fun r95 z95 => if r95 = 0 then some (0, z95) else lc_bnd (fK_isUsedWell x2 2 x3 z95) (fun r105 z105 => if r105 = 0 then some (0, z105) else fK_eachVariableIsUsedWell_20 f (nI (i + 1)) z105)) else fK_eachVariableIsUsedWell_20 f (nI (i + 1)) y1 := fun f x2 x3 y1 k1 => by
    have hr1 : lcR y1 8 4 = some o := by rw [k1.2.2]; exact hr
    have s2' : lcI y1 (o + 2) i = lcI y0 (o + 2) i := by rw [k1.1 _ _ (by omega)]; exact s2
    rw [fK_eachVariableIsUsedWell_77]
    simp only [hr1, hb, lc_chk_pos ho, lc_chk_pos c1, d1, s2', fK_eachVariableIsUsedWell_111, fK_eachVariableIsUsedWell_113, lc_let_eq, nI_1]
  have plain : lcI y0 (o + 2) i ≠ 58 → lcI y0 (o + 2) i ≠ 47 → ∃ y', lc_kU y y' ∧ (((∀ f, fK_eachVariableIsUsedWell_20 (f + 1) (nI i) y = fK_eachVariableIsUsedWell_20 f (nI (i + 1)) y') ∧ lc_Wp y0 o (fun j => lc_oA δ (τ j)) D i) ∨ ((∀ f, fK_eachVariableIsUsedWell_20 (f + 1) (nI i) y = some (0, y')) ∧ ¬ lc_Wp y0 o (fun j => lc_oA δ (τ j)) D i)) := fun k1 k2 =>
    ⟨y, lc_kU.rf, Or.inl ⟨fun f => by rw [st, if_neg k1, st77 f _ _ y lc_kU.rf, if_neg k2], lc_Wp_no k1 k2⟩⟩
  have bt : ∀ (b a : Nat) (y1 : lc_S), lc_kU y y1 → 0 < b → b < 24 → lcI y0 (o + 8) b = nI a → a < cnt → fK_typeOfBound (nI b) y1 = some (nI (τ a), y1) := fun b a y1 k1 b0 b24 h8 ha => by
    have hr1 : lcR y1 8 4 = some o := by rw [k1.2.2]; exact hr
    rw [fK_typeOfBound, if_neg (nI_ne0 b0 (by omega)), lc_bnr_eq hr1, lc_chk_pos ho, lc_chk_pos (nI_in b24 (by decide)), nI_clamp (by omega), k1.1 _ _ (by omega), sy _ _ (by omega) (by omega), h8, lc_bnd_eq (lc_partA1 (by omega)), k1.1 _ _ (by omega), (hτ a ha).1]
  rcases h with ⟨r1, r2, r3, -⟩ | ⟨r1, r2, r3, -⟩ | ⟨a, h1, r1, r2, r3, r4, h⟩
  · exact plain (by rw [r3]; decide) (by rw [r3]; decide)
  · exact plain (by rw [r3]; decide) (by rw [r3]; decide)
  · have ra := lc_R_lo r4
    rcases h with ⟨k1', -⟩ | ⟨k1', -⟩ | ⟨a2, h2, q1, q2, ⟨m1, -⟩ | ⟨m1, m2, m3, bb, m4, m5, m6, m7, m8⟩ | ⟨m1, m2, m3, bb, m4, m5, m6, m7, m8⟩ | ⟨m1, -⟩⟩
    · exact plain (by rcases k1' with g | g | g <;> rw [g] <;> decide) (by rcases k1' with g | g | g <;> rw [g] <;> decide)
    · exact plain (by rw [k1']; decide) (by rw [k1']; decide)
    · exact plain (by rcases m1 with g | g | g | g | g | g <;> rw [g] <;> decide) (by rcases m1 with g | g | g | g | g | g <;> rw [g] <;> decide)
    · have rb := lc_R_lo m8
      obtain ⟨e0, me0⟩ := lc_eo_ne he
      have b0 : 0 < bb := by have := m5 e0 me0; omega
      obtain ⟨x, y1, w1, w2, w3, w4⟩ := lc_wellA (b := bb) (pt := 0) (s := τ a) ho m8 hr sy m4 (by decide) (by rw [m7, nI_1]) hT (hτ a (by omega)).2 (bt bb a y lc_kU.rf b0 m4 m7 (by omega))
      have hW : lc_Wp y0 o (fun j => lc_oA δ (τ j)) D i ↔ x = 1 := by
        rw [lc_Wp_of r1 q1 m6 (by omega) (by omega) m4, w4]
        exact ⟨fun h => h.1 m1, fun h => ⟨fun _ => h, fun e => by rw [m1] at e; exact absurd e (by decide)⟩⟩
      rcases w3 with hx | hx
      · refine ⟨y1, w2, Or.inr ⟨fun f => ?_, fun h => by rw [hW, hx] at h; exact absurd h (by decide)⟩⟩
        rw [st, if_pos m1, m6, q1, lc_bnd_eq (show fK_isUsedWell (nI bb) 0 (nI a2) y = some (x, y1) from w1), if_pos hx]
      · refine ⟨y1, w2, Or.inl ⟨fun f => ?_, hW.mpr hx⟩⟩
        rw [st, if_pos m1, m6, q1, lc_bnd_eq (show fK_isUsedWell (nI bb) 0 (nI a2) y = some (x, y1) from w1), if_neg (by rw [hx]; decide), st77 f _ _ y1 w2, if_neg (by rw [m1]; decide)]
    · have rb := lc_R_lo m8
      obtain ⟨e0, me0⟩ := lc_eo_ne he
      have b0 : 0 < bb := by have := m5 e0 me0; omega
      have n58 : lcI y0 (o + 2) i ≠ 58 := by rw [m1]; decide
      obtain ⟨x, y1, w1, w2, w3, w4⟩ := lc_wellA (b := bb) (pt := 1) (s := τ a) ho m8 hr sy m4 (by decide) (by rw [m7, nI_1]) hT (hτ a (by omega)).2 (bt bb a y lc_kU.rf b0 m4 m7 (by omega))
      have T1 : lc_TA y1 δ n := lc_TA_eq (fun c j a b => w2.1 c j (by omega)) hT
      obtain ⟨x2, y2, v1, v2, v3, v4⟩ := lc_wellA (y := y1) (b := bb) (pt := 2) (s := τ a) ho m8 (by rw [w2.2.2]; exact hr) (fun c j a b => (w2.sy c j a b).trans (sy c j a b)) m4 (by decide) (by rw [m7, nI_1]) T1 (hτ a (by omega)).2 (bt bb a y1 w2 b0 m4 m7 (by omega))
      have hW : lc_Wp y0 o (fun j => lc_oA δ (τ j)) D i ↔ x = 1 ∧ x2 = 1 := by
        rw [lc_Wp_of r1 q1 m6 (by omega) (by omega) m4, w4, v4]
        exact ⟨fun h => h.2 m1, fun h => ⟨fun e => absurd e n58, fun _ => h⟩⟩
      rcases w3 with hx | hx
      · refine ⟨y1, w2, Or.inr ⟨fun f => ?_, fun h => by rw [hW, hx] at h; exact absurd h.1 (by decide)⟩⟩
        rw [st, if_neg n58, st77 f _ _ y lc_kU.rf, if_pos m1, m6, q1, lc_bnd_eq (show fK_isUsedWell (nI bb) 1 (nI a2) y = some (x, y1) from w1), if_pos hx]
      · rcases v3 with hx2 | hx2
        · refine ⟨y2, w2.tr v2, Or.inr ⟨fun f => ?_, fun h => by rw [hW, hx2] at h; exact absurd h.2 (by decide)⟩⟩
          rw [st, if_neg n58, st77 f _ _ y lc_kU.rf, if_pos m1, m6, q1, lc_bnd_eq (show fK_isUsedWell (nI bb) 1 (nI a2) y = some (x, y1) from w1), if_neg (by rw [hx]; decide), lc_bnd_eq (show fK_isUsedWell (nI bb) 2 (nI a2) y1 = some (x2, y2) from v1), if_pos hx2]
        · refine ⟨y2, w2.tr v2, Or.inl ⟨fun f => ?_, hW.mpr ⟨hx, hx2⟩⟩⟩
          rw [st, if_neg n58, st77 f _ _ y lc_kU.rf, if_pos m1, m6, q1, lc_bnd_eq (show fK_isUsedWell (nI bb) 1 (nI a2) y = some (x, y1) from w1), if_neg (by rw [hx]; decide), lc_bnd_eq (show fK_isUsedWell (nI bb) 2 (nI a2) y1 = some (x2, y2) from v1), if_neg (by rw [hx2]; decide)]
    · exact plain (by rw [m1]; decide) (by rw [m1]; decide)
theorem lc_eachA {y0 z : lc_S} {o base cnt k n : Nat} {δ : Nat → lc_tp} {τ : Nat → Nat} (ho : lc_sh o = (0, 1, 0)) (hc : cnt ≤ 120) (hsub : ∀ i, i < cnt → ∃ D p, lc_pq y0 z o base cnt D i p) : ∀ (m i f : Nat) (y : lc_S), i + m = cnt → m < f → lcR y 8 4 = some o → lc_sy y0 y → lcI y o 11 = nI cnt → lc_TA y δ n → (∀ j, j < cnt → lcI y 17 j = nI (τ j) ∧ τ j < n) →
    ∃ x y', fK_eachVariableIsUsedWell_20 f (nI i) y = some (x, y') ∧ lc_kU y y' ∧ (x = 0 ∨ x = 1) ∧ (x = 1 ↔ ∀ j, i ≤ j → j < cnt → lc_OK y0 z o base cnt (fun j => lc_oA δ (τ j)) j)
  | 0, i, f + 1, y, hi, _, hr, sy, h11, hT, hτ => by
    have hi : i = cnt := by omega
    subst hi
    refine ⟨1, y, ?_, lc_kU.rf, Or.inr rfl, ⟨fun _ j a b => absurd b (by omega), fun _ => rfl⟩⟩
    rw [fK_eachVariableIsUsedWell_20, lc_bnr_eq hr, lc_chk_pos ho, h11, if_pos (nI_le (Nat.le_refl _) (by omega))]
  | m + 1, i, f + 1, y, hi, hf, hr, sy, h11, hT, hτ => by
    have ho' := lc_o ho
    obtain ⟨D, p, hq⟩ := hsub i (by omega)
    obtain ⟨y1, k1, h⟩ := lc_eachA1 (k := k) ho hc hq hr sy h11 hT hτ
    rcases h with ⟨e1, e2⟩ | ⟨e1, e2⟩
    · obtain ⟨x, y', q1, q2, q3, q4⟩ := lc_eachA (k := k) (δ := δ) (τ := τ) (n := n) ho hc hsub m (i + 1) f y1 (by omega) (by omega) (by rw [k1.2.2]; exact hr) (fun c j a b => (k1.sy c j a b).trans (sy c j a b)) (by rw [k1.1 _ _ (by omega)]; exact h11) (lc_TA_eq (fun c j a b => k1.1 c j (by omega)) hT) (fun j hj => by rw [k1.1 _ _ (by omega)]; exact hτ j hj)
      refine ⟨x, y', by rw [e1]; exact q1, k1.tr q2, q3, ⟨fun h j a b => ?_, fun h => q4.mpr (fun j a b => h j (by omega) b)⟩⟩
      by_cases hj : j = i
      · subst hj
        intro D' p' hq'
        obtain ⟨y2, k2, h2⟩ := lc_eachA1 (k := k) ho hc hq' hr sy h11 hT hτ
        rcases h2 with ⟨-, h2⟩ | ⟨h2, -⟩
        · exact h2
        · have := q1
          rw [← e1, h2] at this
          cases this
          exact absurd h (by decide)
      · exact q4.mp h j (by omega) b
    · exact ⟨0, y1, e1 f, k1, Or.inl rfl, ⟨fun h => absurd h (by decide), fun h => absurd (h i (Nat.le_refl _) (by omega) D p hq) e2⟩⟩
