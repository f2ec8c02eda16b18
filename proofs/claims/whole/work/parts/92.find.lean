/-! the reference goes over a body until nothing new is found -/
def lc_U (z : lc_S) : Nat → Nat
  | 0 => 0
  | m + 1 => lc_U z m + if lcI z 100 m = -2 then 1 else 0
theorem lc_U_eq {z z' : lc_S} (h : ∀ q, lcI z' 100 q = lcI z 100 q) : ∀ n, lc_U z' n = lc_U z n
  | 0 => rfl
  | n + 1 => by rw [lc_U, lc_U, lc_U_eq h n, h]
theorem lc_U_set {z z' : lc_S} {m : Nat} (h : ∀ q, q ≠ m → lcI z' 100 q = lcI z 100 q) (h0 : lcI z 100 m = -2) (h1 : lcI z' 100 m ≠ -2) : ∀ n, lc_U z' n + (if m < n then 1 else 0) = lc_U z n
  | 0 => by rw [if_neg (by omega)]; rfl
  | n + 1 => by
    have IH := lc_U_set h h0 h1 n
    rw [lc_U, lc_U]
    by_cases hm : n = m
    · subst hm
      rw [if_neg (by omega)] at IH
      rw [if_neg h1, if_pos h0, if_pos (by omega)]
      omega
    · rw [h n hm]
      by_cases hl : m < n
      · rw [if_pos hl] at IH
        rw [if_pos (show m < n + 1 by omega)]
        omega
      · rw [if_neg hl] at IH
        rw [if_neg (show ¬ m < n + 1 by omega)]
        omega
theorem lc_U_pos {z : lc_S} {m : Nat} (h0 : lcI z 100 m = -2) : ∀ n, m < n → 0 < lc_U z n
  | 0, h => absurd h (by omega)
  | n + 1, h => by
    rw [lc_U]
    by_cases hm : n = m
    · subst hm; rw [if_pos h0]; omega
    · have := lc_U_pos h0 n (by omega)
      omega
theorem lc_U_le (z : lc_S) : ∀ n, lc_U z n ≤ n
  | 0 => Nat.le_refl _
  | n + 1 => by
    have := lc_U_le z n
    rw [lc_U]
    split <;> omega
theorem lc_TQ_det {z : lc_S} {δ δ' : Nat → lc_tp} {n n' : Nat} (h : lc_TQ z δ n) (h' : lc_TQ z δ' n') : n = n' ∧ ∀ s, s < n → δ' s = δ s := by
  have e : n = n' := (nI_eq (by have := h.2.2.1; omega) (by have := h'.2.2.1; omega)).mp (h.1.symm.trans h'.1)
  subst e
  refine ⟨rfl, fun s => ?_⟩
  induction s using Nat.strongRecOn with
  | ind s IH =>
    intro hs
    obtain rfl | rfl | h2 : s = 0 ∨ s = 1 ∨ 2 ≤ s := by omega
    · rw [h.2.2.2.1, h'.2.2.2.1]
    · rw [h.2.2.2.2.1, h'.2.2.2.2.1]
    · obtain ⟨a, b, g1, g2, g3, g4, g5⟩ := h.2.2.2.2.2.1 s h2 hs
      obtain ⟨a', b', k1, k2, k3, k4, k5⟩ := h'.2.2.2.2.2.1 s h2 hs
      have ea : a' = a := (nI_eq (by have := h.2.2.1; omega) (by have := h.2.2.1; omega)).mp (k3.symm.trans g3)
      have eb : b' = b := (nI_eq (by have := h.2.2.1; omega) (by have := h.2.2.1; omega)).mp (k4.symm.trans g4)
      subst ea; subst eb
      rw [g5, k5, IH a' g1 (by omega), IH b' g2 (by omega)]
def lc_kP (z z' : lc_S) : Prop := (∀ c k, ¬ (c = 80 ∧ k = 25) → ¬ (c = 98 ∨ c = 99 ∨ c = 100) → lcI z' c k = lcI z c k) ∧ (∀ c k, lcL z' c k = lcL z c k) ∧ ∀ c k, lcR z' c k = lcR z c k
theorem lc_kP.rf {y : lc_S} : lc_kP y y := ⟨fun _ _ _ _ => rfl, fun _ _ => rfl, fun _ _ => rfl⟩
theorem lc_kP.tr {x y z : lc_S} (h : lc_kP x y) (g : lc_kP y z) : lc_kP x z := ⟨fun c k a b => (g.1 c k a b).trans (h.1 c k a b), fun c k => (g.2.1 c k).trans (h.2.1 c k), fun c k => (g.2.2 c k).trans (h.2.2 c k)⟩
theorem lc_kQ.p {x y : lc_S} (h : lc_kQ x y) : lc_kP x y := ⟨fun c k a b => h.1 c k a (by omega), h.2.1, h.2.2⟩
theorem lc_kP.u {y : lc_S} (k : Nat) (v : Int32) : lc_kP y (lcUI y 100 k v) := ⟨fun c' k' a b => by rw [lcI_UI, if_neg (by omega)], fun _ _ => rfl, fun _ _ => rfl⟩
theorem lc_kP.sz {x y : lc_S} (h : lc_kP x y) : lc_sz x y := fun c k a b => h.1 c k (by omega) (by omega)
/-- what holds while types are looked for -/
def lc_W (y z0 z : lc_S) (o k cnt : Nat) (ρ VT GT : Nat → lc_ot) (T S : Nat → lc_tp) (th : Nat → Prop) (δ : Nat → lc_tp) (n : Nat) : Prop := lc_sz z0 z ∧ lc_TQ z δ n ∧ n + lc_U z cnt ≤ 300 ∧ lc_VG z δ n T S th VT GT ∧ lc_IV y z0 z o (120 * (k + 1)) cnt ρ δ n
theorem lc_pass {y z0 : lc_S} {o k cnt : Nat} {ρ VT GT : Nat → lc_ot} {T S : Nat → lc_tp} {th : Nat → Prop} (hk : k < 4) (hc : cnt ≤ 120) (hthk : th k) (hl : ∀ j, j < cnt → lc_loc y o k ρ VT GT j) (hsub : ∀ p, p < cnt → ∃ i, lc_pp2 y z0 o (120 * (k + 1)) cnt i p) (K : Int32 → Int32 → Int32 → lc_S → Option (Int32 × lc_S)) :
    ∀ (m f : Nat) (z : lc_S) (δ : Nat → lc_tp) (n : Nat) (mo : Int32), m ≤ cnt → m < f → (mo = 0 ∨ mo = 1) → lc_W y z0 z o k cnt ρ VT GT T S th δ n → ∃ z' δ' n' mo', fQ_find_112 K f (nI k) (nI cnt) mo (nI m - 1) z = K (nI k) (nI cnt) mo' z' ∧ (mo' = 0 ∨ mo' = 1) ∧ lc_W y z0 z' o k cnt ρ VT GT T S th δ' n' ∧ lc_kP z z' ∧ lc_U z' cnt ≤ lc_U z cnt ∧ (mo' = 0 → mo = 0 ∧ (∀ q, lcI z' 100 q = lcI z 100 q) ∧ ∀ p i, p < m → lc_pp2 y z0 o (120 * (k + 1)) cnt i p → lcI z 100 p = -2 → lc_un y z0 z o (120 * (k + 1)) cnt i) ∧ (mo = 0 → mo' = 1 → lc_U z' cnt < lc_U z cnt)
  | 0, f + 1, z, δ, n, mo, _, _, hmo, hW => by
    refine ⟨z, δ, n, mo, ?_, hmo, hW, lc_kP.rf, Nat.le_refl _, fun h => ⟨h, fun _ => rfl, fun p i hp => absurd hp (by omega)⟩, fun h h' => by rw [h] at h'; exact absurd h' (by decide)⟩
    rw [fQ_find_112, if_pos (by decide)]
  | m + 1, f + 1, z, δ, n, mo, hm, hf, hmo, hW => by
    have c1 : lc_in (nI m) 120 := nI_in (by omega) (by decide)
    have d1 : (nI m).toNatClampNeg = m := nI_clamp (by omega)
    have n0 : ¬ nI m < 0 := nI_pos (by omega)
    by_cases hu : lcI z 100 m = -2
    · obtain ⟨w1, w2, w3, w4, w5⟩ := hW
      have hup := lc_U_pos hu cnt (by omega)
      obtain ⟨i0, hp0⟩ := hsub m (by omega)
      obtain ⟨x, z1, δ1, n1, e1, e2, e3, e4, e5, e6, e7⟩ := lc_tyQ hk hc hthk hl w1 w2 (by omega) w4 w5 hp0
      obtain ⟨z2, ez⟩ : ∃ v, v = lcUI z1 100 m x := ⟨_, rfl⟩
      have k2 : lc_kP z z2 := by rw [ez]; exact e6.p.tr (lc_kP.u _ _)
      have zm : lcI z2 100 m = x := by rw [ez, lcI_UI, if_pos ⟨rfl, rfl⟩]
      have zq : ∀ q, q ≠ m → lcI z2 100 q = lcI z 100 q := fun q hq => by rw [ez, lcI_UI, if_neg (by omega), e6.1 _ _ (by omega) (by omega)]
      have T2 : lc_TQ z2 δ1 n1 := lc_TQ_eq (by rw [ez]; simp only [lcI_UI, lcI_UL, lcI_UR, lcL_UI, lcL_UL, lcL_UR, lcR_UI, lcR_UL, lcR_UR, false_and, and_false, true_and, and_true, and_self, ↓reduceIte, Nat.reduceEqDiff, lc_let_eq]) (fun j => by rw [ez]; simp only [lcI_UI, lcI_UL, lcI_UR, lcL_UI, lcL_UL, lcL_UR, lcR_UI, lcR_UL, lcR_UR, false_and, and_false, true_and, and_true, and_self, ↓reduceIte, Nat.reduceEqDiff, lc_let_eq]) (fun j => by rw [ez]; simp only [lcI_UI, lcI_UL, lcI_UR, lcL_UI, lcL_UL, lcL_UR, lcR_UI, lcR_UL, lcR_UR, false_and, and_false, true_and, and_true, and_self, ↓reduceIte, Nat.reduceEqDiff, lc_let_eq]) e2
      have V2 : lc_VG z2 δ1 n1 T S th VT GT := fun c hc => by
        obtain ⟨v1, v2, v3⟩ := w4 c hc
        exact ⟨v1, lc_gQ_le (k2.1 _ _ (by omega) (by omega)) (k2.1 _ _ (by omega) (by omega)) e3 e5 v2, by rw [k2.1 _ _ (by omega) (by omega)]; exact v3⟩
      have I2 : lc_IV y z0 z2 o (120 * (k + 1)) cnt ρ δ1 n1 := fun i p hp => by
        by_cases hpm : p = m
        · subst hpm
          rw [zm]
          obtain ⟨x', z1', δ1', n1', g1, g2, g3, g4, g5, g6, g7⟩ := lc_tyQ hk hc hthk hl w1 w2 (by omega) w4 w5 hp
          rw [e1] at g1
          cases g1
          obtain ⟨q1, q2⟩ := lc_TQ_det g2 e2
          rcases g7 with ⟨g7, -⟩ | ⟨-, g7⟩
          · exact Or.inl g7
          · exact Or.inr (lc_xQ_le (by omega) q2 g7)
        · rw [zq p hpm]
          rcases w5 i p hp with h | h
          · exact Or.inl h
          · exact Or.inr (lc_xQ_le e3 e5 h)
      have step : fQ_find_112 K (f + 1) (nI k) (nI cnt) mo (nI (m + 1) - 1) z = fQ_find_112 K f (nI k) (nI cnt) (if mo = 0 ∧ x = -2 then 0 else 1) (nI m - 1) z2 := by
        rw [nI_pred, fQ_find_112, if_neg n0, lc_chk_pos c1, if_pos (by rw [d1]; exact hu), lc_bnd_eq e1, lc_chk_pos c1]
        simp only [d1, lc_chk_pos c1, ← ez, zm, fQ_find_162, fQ_find_167, fQ_find_168, lc_let_eq, lc_m1]
        by_cases h0 : mo = 0
        · by_cases hx : x = -2
          · rw [if_pos h0, if_pos hx, if_pos ⟨h0, hx⟩]
          · rw [if_pos h0, if_neg hx, if_neg (fun h => hx h.2)]
        · rw [if_neg h0, if_neg (fun h => h0 h.1)]
      by_cases hx : x = -2
      · have hall : ∀ q, lcI z2 100 q = lcI z 100 q := fun q => by
          by_cases hq : q = m
          · rw [hq, zm, hx, hu]
          · exact zq q hq
        have hU := lc_U_eq hall cnt
        have hn1 : n1 = n := by
          rcases e7 with ⟨-, -, h, -⟩ | ⟨h, -⟩
          · exact h
          · exact absurd hx h
        obtain ⟨z', δ', n', mo', q1, q2, q3, q4, q5, q6, q7⟩ := lc_pass hk hc hthk hl hsub K m f z2 δ1 n1 (if mo = 0 ∧ x = -2 then 0 else 1) (by omega) (by omega) (by split; exact Or.inl rfl; exact Or.inr rfl) ⟨fun c k a b => (k2.sz c k a b).trans (w1 c k a b), T2, by omega, V2, I2⟩
        refine ⟨z', δ', n', mo', step.trans q1, q2, q3, k2.tr q4, by omega, fun h => ?_, fun h h' => ?_⟩
        · obtain ⟨p1, p2, p3⟩ := q6 h
          have hmo0 : mo = 0 := by
            by_cases h0 : mo = 0
            · exact h0
            · rw [if_neg (fun h => h0 h.1)] at p1; exact absurd p1 (by decide)
          refine ⟨hmo0, fun q => (p2 q).trans (hall q), fun p i hp hpp hpu => ?_⟩
          by_cases hpm : p = m
          · subst hpm
            obtain ⟨x', z1', δ1', n1', g1, g2, g3, g4, g5, g6, g7⟩ := lc_tyQ hk hc hthk hl w1 w2 (by omega) w4 w5 hpp
            rw [e1] at g1
            cases g1
            rcases g7 with ⟨-, -, -, g7⟩ | ⟨g7, -⟩
            · exact g7
            · exact absurd hx g7
          · obtain ⟨i', p', s1, s2, s3⟩ := p3 p i (by omega) hpp (by rw [hall]; exact hpu)
            exact ⟨i', p', s1, s2, by rw [← hall]; exact s3⟩
        · rw [if_pos ⟨h, hx⟩] at q7
          have := q7 rfl h'
          omega
      · have hU := lc_U_set zq hu (by rw [zm]; exact hx) cnt
        rw [if_pos (by omega)] at hU
        obtain ⟨z', δ', n', mo', q1, q2, q3, q4, q5, q6, q7⟩ := lc_pass hk hc hthk hl hsub K m f z2 δ1 n1 (if mo = 0 ∧ x = -2 then 0 else 1) (by omega) (by omega) (by split; exact Or.inl rfl; exact Or.inr rfl) ⟨fun c k a b => (k2.sz c k a b).trans (w1 c k a b), T2, by omega, V2, I2⟩
        refine ⟨z', δ', n', mo', step.trans q1, q2, q3, k2.tr q4, by omega, fun h => ?_, fun h h' => by omega⟩
        obtain ⟨p1, -⟩ := q6 h
        rw [if_neg (fun h => hx h.2)] at p1
        exact absurd p1 (by decide)
    · obtain ⟨z', δ', n', mo', q1, q2, q3, q4, q5, q6, q7⟩ := lc_pass hk hc hthk hl hsub K m f z δ n mo (by omega) (by omega) hmo hW
      refine ⟨z', δ', n', mo', ?_, q2, q3, q4, q5, fun h => ?_, q7⟩
      · rw [nI_pred, fQ_find_112, if_neg n0, lc_chk_pos c1, if_neg (by rw [d1]; exact hu), fQ_find_168, lc_let_eq, lc_m1]
        exact q1
      · obtain ⟨p1, p2, p3⟩ := q6 h
        refine ⟨p1, p2, fun p i hp hpp hpu => ?_⟩
        by_cases hpm : p = m
        · subst hpm; exact absurd hpu hu
        · exact p3 p i (by omega) hpp hpu
theorem lc_passes {y z0 : lc_S} {o k cnt : Nat} {ρ VT GT : Nat → lc_ot} {T S : Nat → lc_tp} {th : Nat → Prop} (hk : k < 4) (hc : cnt ≤ 120) (hthk : th k) (hl : ∀ j, j < cnt → lc_loc y o k ρ VT GT j) (hsub : ∀ p, p < cnt → ∃ i, lc_pp2 y z0 o (120 * (k + 1)) cnt i p) :
    ∀ (u f : Nat) (z : lc_S) (δ : Nat → lc_tp) (n : Nat), lc_U z cnt ≤ u → u + 2 < f → lc_W y z0 z o k cnt ρ VT GT T S th δ n → ∃ z' δ' n', fQ_find_101 f (nI k) (nI cnt) 1 z = fQ_find_183 lc_FU (nI cnt) 1 0 z' ∧ lc_W y z0 z' o k cnt ρ VT GT T S th δ' n' ∧ lc_kP z z' ∧ ∀ i p, lc_pp2 y z0 o (120 * (k + 1)) cnt i p → lc_xQ δ' n' (lcI z' 100 p) (ρ i) := by
  intro u
  induction u with
  | zero =>
    intro f z δ n hu hf hW
    obtain ⟨f, rfl⟩ : ∃ g, f = g + 1 := ⟨f - 1, by omega⟩
    obtain ⟨f, rfl⟩ : ∃ g, f = g + 1 := ⟨f - 1, by omega⟩
    obtain ⟨z', δ', n', mo', q1, q2, q3, q4, q5, q6, q7⟩ := lc_pass hk hc hthk hl hsub (fQ_find_101 (f + 1)) cnt lc_FU z δ n 0 (Nat.le_refl _) (by unfold lc_FU; omega) (Or.inl rfl) hW
    have hmo : mo' = 0 := by
      rcases q2 with h | h
      · exact h
      · have := q7 rfl h; omega
    subst hmo
    refine ⟨z', δ', n', ?_, q3, q4, fun i p hp => ?_⟩
    · rw [fQ_find_101, if_neg (by decide), lc_let_eq, q1, fQ_find_101, if_pos rfl]
    · rcases q3.2.2.2.2 i p hp with h | h
      · have hp' := hp
        obtain ⟨D, lo, hi, env, r1, r2, r3, r4⟩ := hp'
        have := lc_R_lo r1
        have := lc_U_pos h cnt (by omega)
        omega
      · exact h
  | succ u IH =>
    intro f z δ n hu hf hW
    obtain ⟨f, rfl⟩ : ∃ g, f = g + 1 := ⟨f - 1, by omega⟩
    obtain ⟨f, rfl⟩ : ∃ g, f = g + 1 := ⟨f - 1, by omega⟩
    obtain ⟨z', δ', n', mo', q1, q2, q3, q4, q5, q6, q7⟩ := lc_pass hk hc hthk hl hsub (fQ_find_101 (f + 1)) cnt lc_FU z δ n 0 (Nat.le_refl _) (by unfold lc_FU; omega) (Or.inl rfl) hW
    rcases q2 with hmo | hmo
    · subst hmo
      obtain ⟨-, p2, p3⟩ := q6 rfl
      refine ⟨z', δ', n', ?_, q3, q4, ?_⟩
      · rw [fQ_find_101, if_neg (by decide), lc_let_eq, q1, fQ_find_101, if_pos rfl]
      · have key : ∀ i p, lc_pp2 y z0 o (120 * (k + 1)) cnt i p → lcI z 100 p ≠ -2 := fun i => by
          induction i using Nat.strongRecOn with
          | ind i IHi =>
            intro p hp hpu
            have hp' := hp
            obtain ⟨D, lo, hi, env, r1, r2, r3, r4⟩ := hp'
            have := lc_R_lo r1
            obtain ⟨i', p', s1, s2, s3⟩ := p3 p i (by omega) hp hpu
            exact IHi i' s2 p' s1 s3
        intro i p hp
        rcases q3.2.2.2.2 i p hp with h | h
        · rw [p2] at h; exact absurd h (key i p hp)
        · exact h
    · subst hmo
      have := q7 rfl rfl
      obtain ⟨z2, δ2, n2, g1, g2, g3, g4⟩ := IH (f + 1) z' δ' n' (by omega) (by omega) q3
      refine ⟨z2, δ2, n2, ?_, g2, q4.tr g3, g4⟩
      rw [fQ_find_101, if_neg (by decide), lc_let_eq, q1]
      exact g1
theorem lc_allQ {cnt : Nat} {z : lc_S} (hc : cnt ≤ 120) : ∀ (m i f : Nat) (acc : Int32), i + m = cnt → m < f → (acc = 0 ∨ acc = 1) → ∃ r, fQ_find_183 f (nI cnt) acc (nI i) z = some (r, z) ∧ ((r = 1 ∧ acc = 1 ∧ ∀ p, i ≤ p → p < cnt → ¬ lcI z 100 p < 0) ∨ (r = 0 ∧ (acc = 0 ∨ ∃ p, i ≤ p ∧ p < cnt ∧ lcI z 100 p < 0)))
  | 0, i, f + 1, acc, hi, _, ha => by
    have hi : i = cnt := by omega
    subst hi
    refine ⟨acc, ?_, ?_⟩
    · rw [fQ_find_183, if_pos (nI_le (Nat.le_refl _) (by omega)), lc_chk_pos ha]
    · rcases ha with h | h
      · exact Or.inr ⟨h, Or.inl h⟩
      · exact Or.inl ⟨h, h, fun p a b => absurd b (by omega)⟩
  | m + 1, i, f + 1, acc, hi, hf, ha => by
    have c1 : lc_in (nI i) 120 := nI_in (by omega) (by decide)
    have d1 : (nI i).toNatClampNeg = i := nI_clamp (by omega)
    have n1 : ¬ nI cnt ≤ nI i := nI_ge (by omega) (by omega)
    rw [fQ_find_183, if_neg n1]
    rcases ha with h | h
    · rw [if_pos h, fQ_find_208, fQ_find_209, lc_let_eq, nI_1]
      obtain ⟨r, q1, q2⟩ := lc_allQ hc m (i + 1) f 0 (by omega) (by omega) (Or.inl rfl)
      refine ⟨r, q1, ?_⟩
      rcases q2 with ⟨-, q2, -⟩ | ⟨q2, -⟩
      · exact absurd q2 (by decide)
      · exact Or.inr ⟨q2, Or.inl h⟩
    · rw [if_neg (by rw [h]; decide), lc_chk_pos c1, d1]
      by_cases hneg : lcI z 100 i < 0
      · rw [if_pos hneg, fQ_find_208, fQ_find_209, lc_let_eq, nI_1]
        obtain ⟨r, q1, q2⟩ := lc_allQ hc m (i + 1) f 0 (by omega) (by omega) (Or.inl rfl)
        refine ⟨r, q1, ?_⟩
        rcases q2 with ⟨-, q2, -⟩ | ⟨q2, -⟩
        · exact absurd q2 (by decide)
        · exact Or.inr ⟨q2, Or.inr ⟨i, Nat.le_refl _, by omega, hneg⟩⟩
      · rw [if_neg hneg, fQ_find_209, lc_let_eq, nI_1]
        obtain ⟨r, q1, q2⟩ := lc_allQ hc m (i + 1) f 1 (by omega) (by omega) (Or.inr rfl)
        refine ⟨r, q1, ?_⟩
        rcases q2 with ⟨q2, -, q3⟩ | ⟨q2, q3⟩
        · refine Or.inl ⟨q2, h, fun p a b => ?_⟩
          by_cases hp : p = i
          · rw [hp]; exact hneg
          · exact q3 p (by omega) b
        · refine Or.inr ⟨q2, Or.inr ?_⟩
          rcases q3 with q3 | ⟨p, a, b, c⟩
          · exact absurd q3 (by decide)
          · exact ⟨p, by omega, b, c⟩
