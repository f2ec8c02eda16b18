/-! names that hold, by what they are bound to; all expressions of a body -/
def lc_eo (y z : lc_S) (o base : Nat) : List lc_en → Nat → Nat → Prop
  | [], _, _ => False
  | [e], _, _ => e = (0, 0, -1, 0)
  | e :: e' :: es, L, M => (∃ pb a D lo hi b, e = (b, 0, nI pb, 0) ∧ pb < 119 ∧ 0 < b ∧ b < 24 ∧ lcI y (o + 8) b = nI a ∧ a < L ∧ lcI z 84 (base + pb) = nI (pb + 1) ∧ lcI z 82 (base + pb) = 58 ∧ lc_R y z o base D lo a (pb + 1) hi (e' :: es) ∧ lc_eo y z o base (e' :: es) lo pb ∧ hi ≤ M) ∨
      (∃ pb a D lo hi b, e = (b, 2, nI pb, 1) ∧ e' = (b, 1, nI pb, 0) ∧ pb < 119 ∧ 0 < b ∧ b < 24 ∧ lcI y (o + 8) b = nI a ∧ a < L ∧ lcI z 84 (base + pb) = nI (pb + 1) ∧ lcI z 82 (base + pb) = 47 ∧ lc_R y z o base D lo a (pb + 1) hi es ∧ lc_eo y z o base es lo pb ∧ hi ≤ M)
theorem lc_R_lo {y z : lc_S} {o base D lo i p hi : Nat} {env : List lc_en} (h : lc_R y z o base D lo i p hi env) : i < 120 ∧ lo ≤ i ∧ p < hi ∧ hi ≤ 120 := by
  cases D with
  | zero => exact absurd h id
  | succ D => rw [lc_R] at h; exact ⟨h.1, h.2.1, h.2.2.1, h.2.2.2.1⟩
theorem lc_eo_ne {y z : lc_S} {o base L M : Nat} {env : List lc_en} (h : lc_eo y z o base env L M) : ∃ e, e ∈ env := by
  cases env with
  | nil => exact absurd h id
  | cons e es => exact ⟨e, List.mem_cons_self⟩
theorem lc_eo_lk {y z : lc_S} {o base b pt : Nat} {b' ot : Int32} : ∀ (env : List lc_en) (L M : Nat), lc_eo y z o base env L M → lc_lk b' ot env = some (b, pt) →
    (b = 0 ∧ pt = 0 ∧ b' = -1 ∧ ot = 0) ∨ ∃ pb a D lo hi env', b' = nI pb ∧ pb < 119 ∧ 0 < b ∧ b < 24 ∧ lcI y (o + 8) b = nI a ∧ a < L ∧ lcI z 84 (base + pb) = nI (pb + 1) ∧ lc_R y z o base D lo a (pb + 1) hi env' ∧ lc_eo y z o base env' lo pb ∧ hi ≤ M ∧ ((lcI z 82 (base + pb) = 58 ∧ pt = 0 ∧ ot = 0) ∨ (lcI z 82 (base + pb) = 47 ∧ ((pt = 1 ∧ ot = 0) ∨ (pt = 2 ∧ ot = 1))))
  | [], L, M, h, _ => absurd h id
  | [e], L, M, h, hl => by
    rw [lc_eo] at h
    subst h
    rw [lc_lk] at hl
    by_cases c : (-1 : Int32) = b' ∧ (0 : Int32) = ot
    · rw [if_pos c] at hl
      obtain ⟨rfl, rfl⟩ := Prod.mk.inj (Option.some.inj hl)
      exact Or.inl ⟨rfl, rfl, c.1.symm, c.2.symm⟩
    · rw [if_neg c] at hl; cases hl
  | e :: e' :: es, L, M, h, hl => by
    rw [lc_eo] at h
    rcases h with ⟨pb, a, D, lo, hi, b0, rfl, h1, h2, h3, h4, h5, h6, h7, h8, h9, h10⟩ | ⟨pb, a, D, lo, hi, b0, rfl, rfl, h1, h2, h3, h4, h5, h6, h7, h8, h9, h10⟩
    · have hlo := lc_R_lo h8
      rw [lc_lk] at hl
      by_cases c : nI pb = b' ∧ (0 : Int32) = ot
      · rw [if_pos c] at hl
        obtain ⟨rfl, rfl⟩ := Prod.mk.inj (Option.some.inj hl)
        exact Or.inr ⟨pb, a, D, lo, hi, _, c.1.symm, h1, h2, h3, h4, h5, h6, h8, h9, h10, Or.inl ⟨h7, rfl, c.2.symm⟩⟩
      · rw [if_neg c] at hl
        rcases lc_eo_lk (e' :: es) lo pb h9 hl with g | ⟨pb', a', D', lo', hi', env', g1, g2, g3, g4, g5, g6, g7, g8, g9, g10, g11⟩
        · exact Or.inl g
        · exact Or.inr ⟨pb', a', D', lo', hi', env', g1, g2, g3, g4, g5, by omega, g7, g8, g9, by omega, g11⟩
    · have hlo := lc_R_lo h8
      rw [lc_lk] at hl
      by_cases c : nI pb = b' ∧ (1 : Int32) = ot
      · rw [if_pos c] at hl
        obtain ⟨rfl, rfl⟩ := Prod.mk.inj (Option.some.inj hl)
        exact Or.inr ⟨pb, a, D, lo, hi, _, c.1.symm, h1, h2, h3, h4, h5, h6, h8, h9, h10, Or.inr ⟨h7, Or.inr ⟨rfl, c.2.symm⟩⟩⟩
      · rw [if_neg c, lc_lk] at hl
        by_cases c2 : nI pb = b' ∧ (0 : Int32) = ot
        · rw [if_pos c2] at hl
          obtain ⟨rfl, rfl⟩ := Prod.mk.inj (Option.some.inj hl)
          exact Or.inr ⟨pb, a, D, lo, hi, _, c2.1.symm, h1, h2, h3, h4, h5, h6, h8, h9, h10, Or.inr ⟨h7, Or.inl ⟨rfl, c2.2.symm⟩⟩⟩
        · rw [if_neg c2] at hl
          rcases lc_eo_lk es lo pb h9 hl with g | ⟨pb', a', D', lo', hi', env', g1, g2, g3, g4, g5, g6, g7, g8, g9, g10, g11⟩
          · exact Or.inl g
          · exact Or.inr ⟨pb', a', D', lo', hi', env', g1, g2, g3, g4, g5, by omega, g7, g8, g9, by omega, g11⟩
theorem lc_eo_mono {y z : lc_S} {o base L L' M M' : Nat} (hL : L ≤ L') (hM : M ≤ M') : ∀ (env : List lc_en), lc_eo y z o base env L M → lc_eo y z o base env L' M'
  | [], h => absurd h id
  | [e], h => h
  | e :: e' :: es, h => by
    rw [lc_eo] at h ⊢
    rcases h with ⟨pb, a, D, lo, hi, b0, g1, h1, h2, h3, h4, h5, h6, h7, h8, h9, h10⟩ | ⟨pb, a, D, lo, hi, b0, g1, g2, h1, h2, h3, h4, h5, h6, h7, h8, h9, h10⟩
    · exact Or.inl ⟨pb, a, D, lo, hi, b0, g1, h1, h2, h3, h4, by omega, h6, h7, h8, h9, by omega⟩
    · exact Or.inr ⟨pb, a, D, lo, hi, b0, g1, g2, h1, h2, h3, h4, by omega, h6, h7, h8, h9, by omega⟩
theorem lc_eo_let {y z : lc_S} {o base D lo a p h1 b L M : Nat} {env : List lc_en} (he : lc_eo y z o base env lo p) (hR : lc_R y z o base D lo a (p + 1) h1 env) (hb : b < 24) (hf : ∀ e ∈ env, e.1 < b) (h8 : lcI y (o + 8) b = nI a) (h84 : lcI z 84 (base + p) = nI (p + 1)) (h82 : lcI z 82 (base + p) = 58) (hL : a < L) (hM : h1 ≤ M) : lc_eo y z o base ((b, 0, nI p, 0) :: env) L M := by
  obtain ⟨e0, m0⟩ := lc_eo_ne he
  have b0 := hf e0 m0
  have hl := lc_R_lo hR
  cases env with
  | nil => exact absurd he id
  | cons e es => exact Or.inl ⟨p, a, D, lo, h1, b, rfl, by omega, by omega, hb, h8, hL, h84, h82, hR, he, hM⟩
theorem lc_eo_split {y z : lc_S} {o base D lo a p h1 b L M : Nat} {env : List lc_en} (he : lc_eo y z o base env lo p) (hR : lc_R y z o base D lo a (p + 1) h1 env) (hb : b < 24) (hf : ∀ e ∈ env, e.1 < b) (h8 : lcI y (o + 8) b = nI a) (h84 : lcI z 84 (base + p) = nI (p + 1)) (h82 : lcI z 82 (base + p) = 47) (hL : a < L) (hM : h1 ≤ M) : lc_eo y z o base ((b, 2, nI p, 1) :: (b, 1, nI p, 0) :: env) L M := by
  obtain ⟨e0, m0⟩ := lc_eo_ne he
  have b0 := hf e0 m0
  have hl := lc_R_lo hR
  exact Or.inr ⟨p, a, D, lo, h1, b, rfl, rfl, by omega, by omega, hb, h8, hL, h84, h82, hR, he, hM⟩
theorem lc_eo_lk3 {y z : lc_S} {o base b pt L M : Nat} {b' ot : Int32} {env : List lc_en} (h : lc_eo y z o base env L M) (hl : lc_lk b' ot env = some (b, pt)) : b < 24 ∧ pt < 3 := by
  rcases lc_eo_lk env L M h hl with ⟨rfl, rfl, -⟩ | ⟨pb', a', D', lo', hi', env', g1, g2, g3, g4, g5, g6, g7, g8, g9, g10, g11⟩
  · exact ⟨by decide, by decide⟩
  · refine ⟨g4, ?_⟩
    rcases g11 with ⟨-, rfl, -⟩ | ⟨-, ⟨rfl, -⟩ | ⟨rfl, -⟩⟩ <;> decide
theorem lc_R_nd {y z : lc_S} {o base : Nat} : ∀ (D lo i p hi : Nat) (env : List lc_en), lc_R y z o base D lo i p hi env → lc_eo y z o base env lo p → ∀ i', lo ≤ i' → i' ≤ i → lc_nd y o i'
  | 0, _, _, _, _, _, h, _, _, _, _ => absurd h id
  | D + 1, lo, i, p, hi, env, h, he, i', l1, l2 => by
    rw [lc_R] at h
    obtain ⟨g1, g2, g3, g4, h⟩ := h
    rcases h with ⟨r1, r2, r3, r4, r5, r6, -⟩ | ⟨r1, r2, r3, r4, r5, r6, b, pt, r7, r8, r9⟩ | ⟨a, h1, r1, r2, r3, r4, h⟩
    · have : i' = i := by omega
      subst this
      exact ⟨g1, Or.inl ⟨r3, r5, r6⟩⟩
    · have : i' = i := by omega
      subst this
      obtain ⟨b1, b2⟩ := lc_eo_lk3 he r7
      refine ⟨g1, Or.inr (Or.inl ⟨r3, r5, r6, b, pt, b1, b2, r8, r9, ?_⟩)⟩
      rcases lc_eo_lk env lo p he r7 with ⟨e, -⟩ | ⟨pb', a', D', lo', hi', env', q1, q2, q3, q4, q5, q6, -⟩
      · exact Or.inl e
      · exact Or.inr ⟨q3, a', by omega, q5⟩
    · have ra := lc_R_lo r4
      have IH1 := lc_R_nd D lo a (p + 1) h1 env r4 (lc_eo_mono (Nat.le_refl _) (by omega) env he)
      rcases h with ⟨k1, k2, k3, k4⟩ | ⟨k1, k2, k3, k4, c, c1, c2, c3⟩ | ⟨a2, h2, k1, k2, h⟩
      · by_cases hi' : i' ≤ a
        · exact IH1 i' l1 hi'
        · have : i' = i := by omega
          subst this
          exact ⟨g1, Or.inr (Or.inr ⟨a, by omega, r1, Or.inl ⟨k1, k4⟩⟩)⟩
      · by_cases hi' : i' ≤ a
        · exact IH1 i' l1 hi'
        · have : i' = i := by omega
          subst this
          exact ⟨g1, Or.inr (Or.inr ⟨a, by omega, r1, Or.inr (Or.inl ⟨k1, k4, c, c1, c2⟩)⟩)⟩
      · rcases h with ⟨m1, m2, m3, m4⟩ | ⟨m1, m2, m3, b, m4, m5, m6, m7, m8⟩ | ⟨m1, m2, m3, b, m4, m5, m6, m7, m8⟩ | ⟨m1, a3, m2, m3, m4, m5, m6⟩
        · have rb := lc_R_lo m4
          by_cases hi' : i' ≤ a
          · exact IH1 i' l1 hi'
          · by_cases hi2 : i' ≤ a2
            · exact lc_R_nd D (a + 1) a2 h1 h2 env m4 (lc_eo_mono (by omega) (by omega) env he) i' (by omega) hi2
            · have : i' = i := by omega
              subst this
              exact ⟨g1, Or.inr (Or.inr ⟨a, by omega, r1, Or.inr (Or.inr ⟨a2, by omega, k1, Or.inl m1⟩)⟩)⟩
        · have rb := lc_R_lo m8
          by_cases hi' : i' ≤ a
          · exact IH1 i' l1 hi'
          · by_cases hi2 : i' ≤ a2
            · exact lc_R_nd D (a + 1) a2 h1 h2 _ m8 (lc_eo_let he r4 m4 m5 m7 r2 (by rw [r3]; exact m1) (by omega) (Nat.le_refl _)) i' (by omega) hi2
            · have : i' = i := by omega
              subst this
              exact ⟨g1, Or.inr (Or.inr ⟨a, by omega, r1, Or.inr (Or.inr ⟨a2, by omega, k1, Or.inr (Or.inl m1)⟩)⟩)⟩
        · have rb := lc_R_lo m8
          by_cases hi' : i' ≤ a
          · exact IH1 i' l1 hi'
          · by_cases hi2 : i' ≤ a2
            · exact lc_R_nd D (a + 1) a2 h1 h2 _ m8 (lc_eo_split he r4 m4 m5 m7 r2 (by rw [r3]; exact m1) (by omega) (Nat.le_refl _)) i' (by omega) hi2
            · have : i' = i := by omega
              subst this
              exact ⟨g1, Or.inr (Or.inr ⟨a, by omega, r1, Or.inr (Or.inr ⟨a2, by omega, k1, Or.inr (Or.inr (Or.inl m1))⟩)⟩)⟩
        · have rb := lc_R_lo m5
          have rc := lc_R_lo m6
          by_cases hi' : i' ≤ a
          · exact IH1 i' l1 hi'
          · by_cases hi2 : i' ≤ a2
            · exact lc_R_nd D (a + 1) a2 h1 h2 env m5 (lc_eo_mono (by omega) (by omega) env he) i' (by omega) hi2
            · by_cases hi3 : i' ≤ a3
              · exact lc_R_nd D (a2 + 1) a3 h2 hi env m6 (lc_eo_mono (by omega) (by omega) env he) i' (by omega) hi3
              · have : i' = i := by omega
                subst this
                exact ⟨g1, Or.inr (Or.inr ⟨a, by omega, r1, Or.inr (Or.inr ⟨a2, by omega, k1, Or.inr (Or.inr (Or.inr ⟨m1, a3, by omega, m2⟩))⟩)⟩)⟩
/-- every part of the reference's rows has its expression of the class -/
theorem lc_R_sub {y z : lc_S} {o base : Nat} : ∀ (D lo i p hi : Nat) (env : List lc_en), lc_R y z o base D lo i p hi env → lc_eo y z o base env lo p → ∀ p', p ≤ p' → p' < hi → ∃ D' lo' i' hi' env', lc_R y z o base D' lo' i' p' hi' env' ∧ lc_eo y z o base env' lo' p' ∧ lo ≤ lo' ∧ i' ≤ i ∧ hi' ≤ hi
  | 0, _, _, _, _, _, h, _, _, _, _ => absurd h id
  | D + 1, lo, i, p, hi, env, h, he, p', l1, l2 => by
    have h0 := h
    rw [lc_R] at h
    obtain ⟨g1, g2, g3, g4, h⟩ := h
    by_cases hp : p' = p
    · subst hp
      exact ⟨D + 1, lo, i, hi, env, h0, he, Nat.le_refl _, Nat.le_refl _, Nat.le_refl _⟩
    · rcases h with ⟨r1, r2, -⟩ | ⟨r1, r2, -⟩ | ⟨a, h1, r1, r2, r3, r4, h⟩
      · omega
      · omega
      · have ra := lc_R_lo r4
        have IH1 := lc_R_sub D lo a (p + 1) h1 env r4 (lc_eo_mono (Nat.le_refl _) (by omega) env he) p' (by omega)
        rcases h with ⟨k1, k2, k3, k4⟩ | ⟨k1, k2, k3, k4, c, c1, c2, c3⟩ | ⟨a2, h2, k1, k2, h⟩
        · obtain ⟨D', lo', i', hi', env', q1, q2, q3, q4, q5⟩ := IH1 (by omega)
          exact ⟨D', lo', i', hi', env', q1, q2, q3, by omega, by omega⟩
        · obtain ⟨D', lo', i', hi', env', q1, q2, q3, q4, q5⟩ := IH1 (by omega)
          exact ⟨D', lo', i', hi', env', q1, q2, q3, by omega, by omega⟩
        · by_cases hp1 : p' < h1
          · obtain ⟨D', lo', i', hi', env', q1, q2, q3, q4, q5⟩ := IH1 hp1
            suffices hh : i' ≤ i ∧ hi' ≤ hi from ⟨D', lo', i', hi', env', q1, q2, q3, hh.1, hh.2⟩
            rcases h with ⟨m1, m2, m3, m4⟩ | ⟨m1, m2, m3, b, m4, m5, m6, m7, m8⟩ | ⟨m1, m2, m3, b, m4, m5, m6, m7, m8⟩ | ⟨m1, a3, m2, m3, m4, m5, m6⟩
            · have := lc_R_lo m4; omega
            · have := lc_R_lo m8; omega
            · have := lc_R_lo m8; omega
            · have := lc_R_lo m5; have := lc_R_lo m6; omega
          · rcases h with ⟨m1, m2, m3, m4⟩ | ⟨m1, m2, m3, b, m4, m5, m6, m7, m8⟩ | ⟨m1, m2, m3, b, m4, m5, m6, m7, m8⟩ | ⟨m1, a3, m2, m3, m4, m5, m6⟩
            · obtain ⟨D', lo', i', hi', env', q1, q2, q3, q4, q5⟩ := lc_R_sub D (a + 1) a2 h1 h2 env m4 (lc_eo_mono (by omega) (by omega) env he) p' (by omega) (by omega)
              exact ⟨D', lo', i', hi', env', q1, q2, by omega, by omega, by omega⟩
            · obtain ⟨D', lo', i', hi', env', q1, q2, q3, q4, q5⟩ := lc_R_sub D (a + 1) a2 h1 h2 _ m8 (lc_eo_let he r4 m4 m5 m7 r2 (by rw [r3]; exact m1) (by omega) (Nat.le_refl _)) p' (by omega) (by omega)
              exact ⟨D', lo', i', hi', env', q1, q2, by omega, by omega, by omega⟩
            · obtain ⟨D', lo', i', hi', env', q1, q2, q3, q4, q5⟩ := lc_R_sub D (a + 1) a2 h1 h2 _ m8 (lc_eo_split he r4 m4 m5 m7 r2 (by rw [r3]; exact m1) (by omega) (Nat.le_refl _)) p' (by omega) (by omega)
              exact ⟨D', lo', i', hi', env', q1, q2, by omega, by omega, by omega⟩
            · have rb := lc_R_lo m5
              have rc := lc_R_lo m6
              by_cases hp2 : p' < h2
              · obtain ⟨D', lo', i', hi', env', q1, q2, q3, q4, q5⟩ := lc_R_sub D (a + 1) a2 h1 h2 env m5 (lc_eo_mono (by omega) (by omega) env he) p' (by omega) hp2
                exact ⟨D', lo', i', hi', env', q1, q2, by omega, by omega, by omega⟩
              · obtain ⟨D', lo', i', hi', env', q1, q2, q3, q4, q5⟩ := lc_R_sub D (a2 + 1) a3 h2 hi env m6 (lc_eo_mono (by omega) (by omega) env he) p' (by omega) (by omega)
                exact ⟨D', lo', i', hi', env', q1, q2, by omega, by omega, by omega⟩
