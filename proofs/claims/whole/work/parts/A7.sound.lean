/-! a turn of sound -/
/-- what is known of calls in the reference's rows -/
def lc_gq (z : lc_S) (j n m : Nat) : Prop := ∀ c, c < 4 → (m.testBit c = true ↔ ∃ p, p < n ∧ lcI z 82 (120 * (j + 1) + p) = 64 ∧ lcI z 83 (120 * (j + 1) + p) = nI c)
theorem lc_soundAL {y0 : lc_S} {R : Nat} {P : Nat → Prop} (hR : R < 16) (hF : ∀ j, j < 4 → ∀ y, lc_kC y0 y → lc_t3 y → ∃ x y', fK_findsNoFault 3 (nI j) y = some (x, y') ∧ lc_kC y0 y' ∧ lc_t3 y' ∧ (x = 0 ∨ x = 1) ∧ (x = 1 ↔ P j)) : ∀ (m j f : Nat) (y : lc_S), j + m = 4 → m < f → lc_kC y0 y → lc_t3 y → ∃ x y', fA_sound_18 f (nI R) (nI j) y = some (x, y') ∧ lc_kC y0 y' ∧ lc_t3 y' ∧ (x = 0 ∨ x = 1) ∧ (x = 1 ↔ ∀ i, j ≤ i → i < 4 → R.testBit i = true → P i)
  | 0, j, f + 1, y, hj, _, hk, ht => by
    have hj : j = 4 := by omega
    subst hj
    exact ⟨1, y, by rw [fA_sound_18, if_pos (by decide)], hk, ht, Or.inr rfl, ⟨fun _ i a b => absurd b (by omega), fun _ => rfl⟩⟩
  | m + 1, j, f + 1, y, hj, hf, hk, ht => by
    have n4 : ¬ (4 : Int32) ≤ nI j := nI_ge (b := 4) (by omega) (by decide)
    by_cases hb : R.testBit j = true
    · obtain ⟨x, y1, e1, e2, e3, e4, e5⟩ := hF j (by omega) y hk ht
      rcases e4 with hx | hx
      · refine ⟨0, y1, ?_, e2, e3, Or.inl rfl, ⟨fun h => absurd h (by decide), fun h => ?_⟩⟩
        · rw [fA_sound_18, if_neg n4, lc_bnd_eq (lc_hasB hR (by omega)), if_pos hb, if_neg (by decide), lc_bnd_eq e1, if_pos hx]
        · have := e5.mpr (h j (Nat.le_refl _) (by omega) hb)
          rw [hx] at this
          exact absurd this (by decide)
      · obtain ⟨x', y', q1, q2, q3, q4, q5⟩ := lc_soundAL (P := P) hR hF m (j + 1) f y1 (by omega) (by omega) e2 e3
        refine ⟨x', y', ?_, q2, q3, q4, ?_⟩
        · rw [fA_sound_18, if_neg n4, lc_bnd_eq (lc_hasB hR (by omega)), if_pos hb, if_neg (by decide), lc_bnd_eq e1, if_neg (by rw [hx]; decide), fA_sound_48, lc_let_eq, nI_1]
          exact q1
        · rw [q5]
          refine ⟨fun h i a b hb' => ?_, fun h i a b hb' => h i (by omega) b hb'⟩
          by_cases hi : i = j
          · rw [hi]; exact e5.mp hx
          · exact h i (by omega) b hb'
    · obtain ⟨x', y', q1, q2, q3, q4, q5⟩ := lc_soundAL (P := P) hR hF m (j + 1) f y (by omega) (by omega) hk ht
      refine ⟨x', y', ?_, q2, q3, q4, ?_⟩
      · rw [fA_sound_18, if_neg n4, lc_bnd_eq (lc_hasB hR (by omega)), if_neg hb, if_pos rfl, fA_sound_48, lc_let_eq, nI_1]
        exact q1
      · rw [q5]
        refine ⟨fun h i a b hb' => ?_, fun h i a b hb' => h i (by omega) b hb'⟩
        by_cases hi : i = j
        · rw [hi] at hb'; exact absurd hb' hb
        · exact h i (by omega) b hb'
/-- the reference gathers what is called by j -/
theorem lc_scanQ {z : lc_S} {j n : Nat} (hj : j < 4) (hn : n ≤ 120) (h89 : lcI z 89 (j + 1) = nI n) (hcall : ∀ p, p < n → lcI z 82 (120 * (j + 1) + p) = 64 → ∃ c, c < 4 ∧ lcI z 83 (120 * (j + 1) + p) = nI c) (K : Int32 → Int32 → Int32 → lc_S → Option (Int32 × lc_S)) (x3 x4 : Int32) : ∀ (m p f X : Nat), p + m = n → m < f → X < 16 → ∃ X', fQ_sound_97 K f (nI X) x3 x4 (nI j) (nI p) z = K (nI X') x3 x4 z ∧ X' < 16 ∧ ∀ c, c < 4 → (X'.testBit c = true ↔ X.testBit c = true ∨ ∃ q, p ≤ q ∧ q < n ∧ lcI z 82 (120 * (j + 1) + q) = 64 ∧ lcI z 83 (120 * (j + 1) + q) = nI c)
  | m, p, 0, X, _, hf, _ => absurd hf (by omega)
  | 0, p, f + 1, X, hp, _, hX => by
    have hp : p = n := by omega
    subst hp
    have c1 : lc_in (nI (j + 1)) 5 := nI_in (by omega) (by decide)
    have d1 : (nI (j + 1)).toNatClampNeg = j + 1 := nI_clamp (by omega)
    refine ⟨X, ?_, hX, fun c hc => ⟨fun h => Or.inl h, fun h => ?_⟩⟩
    · rw [fQ_sound_97, nI_1, lc_chk_pos c1, if_pos (by rw [d1, h89]; exact nI_le (Nat.le_refl _) (by omega))]
    · rcases h with h | ⟨q, a, b, -⟩
      · exact h
      · omega
  | m + 1, p, f + 1, X, hp, hf, hX => by
    have c1 : lc_in (nI (j + 1)) 5 := nI_in (by omega) (by decide)
    have d1 : (nI (j + 1)).toNatClampNeg = j + 1 := nI_clamp (by omega)
    have c2 : lc_in (nI (120 * (j + 1) + p)) 600 := nI_in (by omega) (by decide)
    have d2 : (nI (120 * (j + 1) + p)).toNatClampNeg = 120 * (j + 1) + p := nI_clamp (by omega)
    have hbs : (120 : Int32) * nI (j + 1) = nI (120 * (j + 1)) := by rw [show (120 : Int32) = nI 120 from rfl, pk_mul]
    have st : fQ_sound_97 K (f + 1) (nI X) x3 x4 (nI j) (nI p) z = if lcI z 82 (120 * (j + 1) + p) = 64 then fQ_sound_149 K (fQ_sound_97 K f) x3 x4 (nI j) (nI p) (nI X) (1 <<< (lcI z 83 (120 * (j + 1) + p) &&& 31)) z else fQ_sound_149 K (fQ_sound_97 K f) x3 x4 (nI j) (nI p) (nI X) 0 z := by
      rw [fQ_sound_97, nI_1, lc_chk_pos c1, if_neg (by rw [d1, h89]; exact nI_ge (by omega) (by omega)), hbs, nI_add, lc_let_eq]
      simp only [lc_chk_pos c2, d2]
    by_cases h64 : lcI z 82 (120 * (j + 1) + p) = 64
    · obtain ⟨c0, hc0, h83⟩ := hcall p (by omega) h64
      have hX1 := lc_or16 hX (lc_pow16 c0 hc0)
      obtain ⟨X', e1, e2, e3⟩ := lc_scanQ hj hn h89 hcall K x3 x4 m (p + 1) f (X ||| 2 ^ c0) (by omega) (by omega) hX1
      refine ⟨X', ?_, e2, fun c hc => ?_⟩
      · rw [st, if_pos h64, h83, lc_shlI c0 hc0, fQ_sound_149, lc_let_eq, lc_let_eq, lc_orI X hX _ (lc_pow16 c0 hc0), nI_1]
        exact e1
      · rw [e3 c hc, Nat.testBit_or, Nat.testBit_two_pow]
        refine ⟨fun h => ?_, fun h => ?_⟩
        · rcases h with h | ⟨q, a, b, d⟩
          · rw [Bool.or_eq_true] at h
            rcases h with h | h
            · exact Or.inl h
            · have : c0 = c := of_decide_eq_true h
              subst this
              exact Or.inr ⟨p, Nat.le_refl _, by omega, h64, h83⟩
          · exact Or.inr ⟨q, by omega, b, d⟩
        · rcases h with h | ⟨q, a, b, d1', d2'⟩
          · left; rw [h]; rfl
          · by_cases hq : q = p
            · subst hq
              left
              have : c0 = c := (nI_eq (by omega) (by omega)).mp (h83.symm.trans d2')
              subst this
              rw [Bool.or_eq_true]; right; exact decide_eq_true rfl
            · exact Or.inr ⟨q, by omega, b, d1', d2'⟩
    · obtain ⟨X', e1, e2, e3⟩ := lc_scanQ hj hn h89 hcall K x3 x4 m (p + 1) f X (by omega) (by omega) hX
      refine ⟨X', ?_, e2, fun c hc => ?_⟩
      · have e0 : nI X ||| 0 = nI X := by rw [show (0 : Int32) = nI 0 from rfl, lc_orI X hX 0 (by decide), Nat.or_zero]
        rw [st, if_neg h64, fQ_sound_149, lc_let_eq, lc_let_eq, e0, nI_1]
        exact e1
      · rw [e3 c hc]
        refine ⟨fun h => ?_, fun h => ?_⟩
        · rcases h with h | ⟨q, a, b, d⟩
          · exact Or.inl h
          · exact Or.inr ⟨q, by omega, b, d⟩
        · rcases h with h | ⟨q, a, b, d1', d2'⟩
          · exact Or.inl h
          · by_cases hq : q = p
            · subst hq; exact absurd d1' h64
            · exact Or.inr ⟨q, by omega, b, d1', d2'⟩
/-- what the reference does with j: is it without fault, and what does it call -/
def lc_goS (z0 : lc_S) (P : Nat → Prop) (g : Nat → Nat) : Prop := ∀ j, j < 4 → ∀ z, lc_kS z0 z → ∀ (K : Int32 → Int32 → Int32 → lc_S → Option (Int32 × lc_S)) (X : Nat) (x3 : Int32), X < 16 → ∃ x z', lc_bnd (fQ_isThere (nI j) z) (fun r72 z72 => if r72 = 0 then fQ_sound_91 K (nI X) x3 (nI j) z72 else lc_bnd (fQ_isChecked (nI j) z72) (fun r81 z81 => if r81 = 0 then fQ_sound_91 K (nI X) x3 (nI j) z81 else fQ_sound_92 K (nI X) x3 (nI j) 1 z81)) = K (nI (X ||| g j)) x3 x z' ∧ lc_kS z0 z' ∧ (x = 0 ∨ x = 1) ∧ (x = 1 ↔ P j)
theorem lc_findJ {K : Int32 → Int32 → Int32 → lc_S → Option (Int32 × lc_S)} {z : lc_S} {X Y j : Nat} (hX : X < 16) (hY : Y < 16) (hj : j < 4) (hb : X.testBit j = true) (hn : Y.testBit j = false) (hl : ∀ i, i < j → X.testBit i = false ∨ Y.testBit i = true) : ∀ (m i f : Nat), i + m = j → m < f → fQ_sound_37 K f (nI X) (nI Y) (nI i) z = lc_bnd (fQ_isThere (nI j) z) (fun r72 z72 => if r72 = 0 then fQ_sound_91 K (nI X) (nI (Y ||| 2 ^ j)) (nI j) z72 else lc_bnd (fQ_isChecked (nI j) z72) (fun r81 z81 => if r81 = 0 then fQ_sound_91 K (nI X) (nI (Y ||| 2 ^ j)) (nI j) z81 else fQ_sound_92 K (nI X) (nI (Y ||| 2 ^ j)) (nI j) 1 z81))
  | 0, i, f + 1, hi, _ => by
    have hi : i = j := by omega
    subst hi
    rw [fQ_sound_37, if_neg (by rw [lc_bitI X hX i hj, hb]; decide), if_neg (by rw [lc_bitI Y hY i hj, hn]; decide), lc_let_eq, lc_shlI i hj, lc_orI Y hY _ (lc_pow16 i hj)]
  | m + 1, i, f + 1, hi, hf => by
    have IH := lc_findJ (K := K) (z := z) hX hY hj hb hn hl m (i + 1) f (by omega) (by omega)
    rw [fQ_sound_37, lc_bitI X hX i (by omega), lc_bitI Y hY i (by omega)]
    rcases hl i (by omega) with h | h
    · rw [h, if_pos (by decide), fQ_sound_56, lc_let_eq, nI_1]; exact IH
    · by_cases hx : X.testBit i = true
      · rw [hx, h, if_neg (by decide), if_pos (by decide), fQ_sound_56, lc_let_eq, nI_1]; exact IH
      · have hx' : X.testBit i = false := by cases e : X.testBit i with
          | false => rfl
          | true => exact absurd e hx
        rw [hx', if_pos (by decide), fQ_sound_56, lc_let_eq, nI_1]; exact IH
theorem lc_leastB {X Y : Nat} (hX : X < 16) (hY : Y < 16) (hs : lc_sub Y X) (hne : Y ≠ X) : ∃ j, j < 4 ∧ X.testBit j = true ∧ Y.testBit j = false ∧ ∀ i, i < j → X.testBit i = false ∨ Y.testBit i = true := by
  have key : ∀ n, n ≤ 4 → (∃ j, j < n ∧ X.testBit j = true ∧ Y.testBit j = false ∧ ∀ i, i < j → X.testBit i = false ∨ Y.testBit i = true) ∨ ∀ i, i < n → X.testBit i = false ∨ Y.testBit i = true := fun n => by
    induction n with
    | zero => intro _; exact Or.inr (fun i hi => absurd hi (by omega))
    | succ n IH =>
      intro hn
      rcases IH (by omega) with ⟨j, a, b, c, d⟩ | h
      · exact Or.inl ⟨j, by omega, b, c, d⟩
      · cases hx : X.testBit n with
        | false => exact Or.inr (fun i hi => by
            by_cases e : i = n
            · rw [e]; exact Or.inl hx
            · exact h i (by omega))
        | true => cases hy : Y.testBit n with
          | true => exact Or.inr (fun i hi => by
              by_cases e : i = n
              · rw [e]; exact Or.inr hy
              · exact h i (by omega))
          | false => exact Or.inl ⟨n, by omega, hx, hy, h⟩
  rcases key 4 (Nat.le_refl _) with h | h
  · exact h
  · exfalso
    apply hne
    refine hs.as (lc_sub_of hX hY (fun c hc e => ?_))
    rcases h c hc with h | h
    · rw [h] at e; cases e
    · exact h
theorem lc_soundQL {z0 : lc_S} {P : Nat → Prop} {g : Nat → Nat} {R k : Nat} (hg : ∀ j, j < 4 → g j < 16) (hgo : lc_goS z0 P g) (hRk : lc_sub (2 ^ k) R) (hRc : lc_cld g R) (hRm : ∀ N, lc_sub (2 ^ k) N → lc_cld g N → lc_sub R N) : ∀ (u f : Nat) (z : lc_S) (X Y : Nat), lc_pop Y + u = 4 → u + 1 < f → lc_kS z0 z → X < 16 → Y < 16 → lc_sub Y X → lc_sub X R → lc_sub (2 ^ k) X → (∀ j, j < 4 → Y.testBit j = true → P j ∧ lc_sub (g j) X) → ∃ x z', fQ_sound_24 f (nI X) (nI Y) 1 z = some (x, z') ∧ lc_kS z0 z' ∧ (x = 0 ∨ x = 1) ∧ (x = 1 ↔ ∀ i, i < 4 → R.testBit i = true → P i) := by
  intro u
  induction u with
  | zero =>
    intro f z X Y hu hf hk hX hY hs hXR hkX hdone
    obtain ⟨f, rfl⟩ : ∃ h, f = h + 1 := ⟨f - 1, by omega⟩
    have hXY : Y = X := by
      rcases Classical.em (Y = X) with h | h
      · exact h
      · have := lc_pop_lt Y hY X hX hs h
        have := lc_pop4 X hX
        omega
    subst hXY
    refine ⟨1, z, ?_, hk, Or.inr rfl, ⟨fun _ i hi hb => ?_, fun _ => rfl⟩⟩
    · rw [fQ_sound_24, if_pos rfl, fQ_sound_160, lc_chk_pos (Or.inr rfl)]
    · exact (hdone i hi ((hRm Y hkX (fun j hj hb => (hdone j hj hb).2)).bit hb)).1
  | succ u IH =>
    intro f z X Y hu hf hk hX hY hs hXR hkX hdone
    obtain ⟨f, rfl⟩ : ∃ h, f = h + 1 := ⟨f - 1, by omega⟩
    by_cases hXY : Y = X
    · subst hXY
      refine ⟨1, z, ?_, hk, Or.inr rfl, ⟨fun _ i hi hb => ?_, fun _ => rfl⟩⟩
      · rw [fQ_sound_24, if_pos rfl, fQ_sound_160, lc_chk_pos (Or.inr rfl)]
      · exact (hdone i hi ((hRm Y hkX (fun j hj hb => (hdone j hj hb).2)).bit hb)).1
    · obtain ⟨j, hj, hb, hn, hl⟩ := lc_leastB hX hY hs hXY
      have hRj : R.testBit j = true := hXR.bit hb
      obtain ⟨x, z1, e1, e2, e3, e4⟩ := hgo j hj z hk (fQ_sound_24 f) X (nI (Y ||| 2 ^ j)) hX
      have hX' := lc_or16 hX (hg j hj)
      have hY' := lc_or16 hY (lc_pow16 j hj)
      have hjX : lc_sub (2 ^ j) X := lc_sub_of (lc_pow16 j hj) hX (fun c hc e => by
        rw [Nat.testBit_two_pow] at e
        have : j = c := of_decide_eq_true e
        rw [← this]; exact hb)
      have hst : fQ_sound_24 (f + 1) (nI X) (nI Y) 1 z = fQ_sound_24 f (nI (X ||| g j)) (nI (Y ||| 2 ^ j)) x z1 := by
        have hne : ¬ nI Y = nI X := fun e => hXY ((nI_eq (by omega) (by omega)).mp e)
        rw [fQ_sound_24, if_neg hne, if_neg (by decide)]
        have := lc_findJ (K := fQ_sound_24 f) (z := z) hX hY hj hb hn hl j 0 lc_FU (by omega) (by unfold lc_FU; omega)
        exact Eq.trans this e1
      have hpop : lc_pop Y < lc_pop (Y ||| 2 ^ j) := lc_pop_lt Y hY _ hY' lc_sub.l (fun e => by
        have : (Y ||| 2 ^ j).testBit j = true := by rw [Nat.testBit_or, Nat.testBit_two_pow, Bool.or_eq_true]; right; exact decide_eq_true rfl
        rw [← e, hn] at this
        cases this)
      have hp4 := lc_pop4 _ hY'
      rcases e3 with hx | hx
      · obtain ⟨f, rfl⟩ : ∃ h, f = h + 1 := ⟨f - 1, by omega⟩
        refine ⟨0, z1, ?_, e2, Or.inl rfl, ⟨fun h => absurd h (by decide), fun h => ?_⟩⟩
        · rw [hst, hx, fQ_sound_24]
          by_cases c : nI (Y ||| 2 ^ j) = nI (X ||| g j)
          · rw [if_pos c, fQ_sound_160, lc_chk_pos (Or.inl rfl)]
          · rw [if_neg c, if_pos rfl, fQ_sound_160, lc_chk_pos (Or.inl rfl)]
        · have := e4.mpr (h j hj hRj)
          rw [hx] at this
          exact absurd this (by decide)
      · subst hx
        have hPj := e4.mp rfl
        obtain ⟨x', z', q1, q2, q3, q4⟩ : ∃ x z', fQ_sound_24 f (nI (X ||| g j)) (nI (Y ||| 2 ^ j)) 1 z1 = some (x, z') ∧ lc_kS z0 z' ∧ (x = 0 ∨ x = 1) ∧ (x = 1 ↔ ∀ i, i < 4 → R.testBit i = true → P i) := by
          have mono : ∀ u', u' ≤ u → lc_pop (Y ||| 2 ^ j) + u' = 4 → ∃ x z', fQ_sound_24 f (nI (X ||| g j)) (nI (Y ||| 2 ^ j)) 1 z1 = some (x, z') ∧ lc_kS z0 z' ∧ (x = 0 ∨ x = 1) ∧ (x = 1 ↔ ∀ i, i < 4 → R.testBit i = true → P i) := fun u' hu' he => by
            have hu1 : u' = u := by
              have : lc_pop (Y ||| 2 ^ j) = lc_pop Y + 1 := by
                have key : ∀ Y, Y < 16 → ∀ j, j < 4 → Y.testBit j = false → lc_pop (Y ||| 2 ^ j) = lc_pop Y + 1 := by decide +kernel
                exact key Y hY j hj hn
              omega
            subst hu1
            refine IH f z1 (X ||| g j) (Y ||| 2 ^ j) he (by omega) e2 hX' hY' ((hs.tr lc_sub.l).or (hjX.tr lc_sub.l)) (hXR.or (hRc j hj hRj)) (hkX.tr lc_sub.l) (fun i hi hb' => ?_)
            rw [Nat.testBit_or, Nat.testBit_two_pow, Bool.or_eq_true] at hb'
            rcases hb' with hb' | hb'
            · exact ⟨(hdone i hi hb').1, (hdone i hi hb').2.tr lc_sub.l⟩
            · have : j = i := of_decide_eq_true hb'
              subst this
              exact ⟨hPj, by unfold lc_sub; rw [Nat.or_comm X, ← Nat.or_assoc, Nat.or_self]⟩
          exact mono (4 - lc_pop (Y ||| 2 ^ j)) (by omega) (by omega)
        exact ⟨x', z', by rw [hst]; exact q1, q2, q3, q4⟩
