/-! types as trees, and the tables of types of class and reference: each type once -/
abbrev lc_tp : Type := Std.Format
abbrev lc_prr (a b : lc_tp) : lc_tp := Std.Format.append a b
def lc_num : lc_tp → Int32
  | .nil => 1
  | .line => 2
  | .append a b => 8 * lc_num a + lc_num b + 3
  | _ => 0
def lc_lin : lc_tp → Int32
  | .line => 1
  | .append a b => if lc_lin a = 0 then lc_lin b else 1
  | _ => 0
theorem lc_lin01 : ∀ t : lc_tp, lc_lin t = 0 ∨ lc_lin t = 1
  | .nil => Or.inl rfl
  | .line => Or.inr rfl
  | .append a b => by
    rw [lc_lin]
    by_cases h : lc_lin a = 0
    · rw [if_pos h]; exact lc_lin01 b
    · rw [if_neg h]; exact Or.inr rfl
  | .align _ => Or.inl rfl
  | .text _ => Or.inl rfl
  | .nest _ _ => Or.inl rfl
  | .group _ _ => Or.inl rfl
  | .tag _ _ => Or.inl rfl
/-- the class's first places: no type, i, r -/
def lc_t3 (y : lc_S) : Prop := (∀ j, j < 3 → lcI y 10 j = 0 ∧ lcI y 11 j = 0) ∧ lcI y 12 0 = 0 ∧ lcI y 12 1 = 1 ∧ lcI y 12 2 = 2 ∧ lcI y 13 0 = 0 ∧ lcI y 13 1 = 0 ∧ lcI y 13 2 = 1
def lc_TA (y : lc_S) (δ : Nat → lc_tp) (n : Nat) : Prop := lcI y 9 4 = nI n ∧ 3 ≤ n ∧ n ≤ 243 ∧ δ 1 = .nil ∧ δ 2 = .line ∧ lc_t3 y ∧ (∀ t, 3 ≤ t → t < n → ∃ a b, 0 < a ∧ a < t ∧ 0 < b ∧ b < t ∧ lcI y 10 t = nI a ∧ lcI y 11 t = nI b ∧ δ t = lc_prr (δ a) (δ b)) ∧ (∀ t, 3 ≤ t → t < n → lcI y 12 t = lc_num (δ t) ∧ lcI y 13 t = lc_lin (δ t)) ∧ ∀ s t, 0 < s → s < n → 0 < t → t < n → δ s = δ t → s = t
/-- all but the table of types stays -/
def lc_kT (y y' : lc_S) : Prop := (∀ c k, ¬ (c = 9 ∧ k = 4) → ¬ (10 ≤ c ∧ c ≤ 13) → lcI y' c k = lcI y c k) ∧ (∀ c k, lcL y' c k = lcL y c k) ∧ ∀ c k, lcR y' c k = lcR y c k
theorem lc_kT.rf {y : lc_S} : lc_kT y y := ⟨fun _ _ _ _ => rfl, fun _ _ => rfl, fun _ _ => rfl⟩
theorem lc_kT.tr {x y z : lc_S} (h : lc_kT x y) (g : lc_kT y z) : lc_kT x z := ⟨fun c k a b => (g.1 c k a b).trans (h.1 c k a b), fun c k => (g.2.1 c k).trans (h.2.1 c k), fun c k => (g.2.2 c k).trans (h.2.2 c k)⟩
theorem lc_TA_12 {y : lc_S} {δ : Nat → lc_tp} {n t : Nat} (h : lc_TA y δ n) (h0 : 0 < t) (ht : t < n) : lcI y 12 t = lc_num (δ t) ∧ lcI y 13 t = lc_lin (δ t) := by
  obtain ⟨h1, h2, h3, h4, h5, ⟨h6, h7, h8, h9, h10, h11, h12⟩, h13, h14, h15⟩ := h
  obtain rfl | rfl | h : t = 1 ∨ t = 2 ∨ 3 ≤ t := by omega
  · rw [h4]; exact ⟨h8, h11⟩
  · rw [h5]; exact ⟨h9, h12⟩
  · exact h14 t h ht
theorem lc_pairAL {y : lc_S} {δ : Nat → lc_tp} {n a b : Nat} (h : lc_TA y δ n) (hn : n < 243) (a0 : 0 < a) (an : a < n) (b0 : 0 < b) (bn : b < n) : ∀ (m i f : Nat), i + m = n → 3 ≤ i → m < f → (∀ s, 3 ≤ s → s < i → ¬ (lcI y 10 s = nI a ∧ lcI y 11 s = nI b)) →
    ∃ t y' δ' n', fT_pairOf_12 f (nI a) (nI b) (nI i) y = some (nI t, y') ∧ lc_TA y' δ' n' ∧ n ≤ n' ∧ n' ≤ n + 1 ∧ 3 ≤ t ∧ t < n' ∧ δ' t = lc_prr (δ a) (δ b) ∧ (∀ s, s < n → δ' s = δ s) ∧ lc_kT y y'
  | 0, i, f + 1, hi, i3, _, hs => by
    have hi : i = n := by omega
    subst hi
    have h0 := h
    obtain ⟨h1, h2, h3, h4, h5, ⟨h6, h7, h8, h9, h10, h11, h12⟩, h13, h14, h15⟩ := h
    obtain ⟨l, el⟩ : ∃ l : Int32, l = if lc_lin (δ a) = 0 then lc_lin (δ b) else 1 := ⟨_, rfl⟩
    obtain ⟨y', ey⟩ : ∃ x, x = lcUI (lcUI (lcUI (lcUI (lcUI y 10 i (nI a)) 11 i (nI b)) 12 i (8 * lc_num (δ a) + lc_num (δ b) + 3)) 13 i l) 9 4 (nI (i + 1)) := ⟨_, rfl⟩
    have yI : ∀ c k, ¬ (c = 9 ∧ k = 4) → ¬ (10 ≤ c ∧ c ≤ 13 ∧ k = i) → lcI y' c k = lcI y c k := fun c k p q => by
      rw [ey, lcI_UI, if_neg p, lcI_UI, if_neg (by omega), lcI_UI, if_neg (by omega), lcI_UI, if_neg (by omega), lcI_UI, if_neg (by omega)]
    obtain ⟨δ', dd1, dd2⟩ : ∃ δ' : Nat → lc_tp, δ' i = lc_prr (δ a) (δ b) ∧ ∀ s, s ≠ i → δ' s = δ s := ⟨fun s => if s = i then lc_prr (δ a) (δ b) else δ s, if_pos rfl, fun s h => if_neg h⟩
    refine ⟨i, y', δ', i + 1, ?_, ⟨?_, by omega, by omega, ?_, ?_, ⟨fun j hj => ?_, ?_, ?_, ?_, ?_, ?_, ?_⟩, fun t t3 tn => ?_, fun t t3 tn => ?_, fun s t s0 sn t0 tn e => ?_⟩, by omega, by omega, by omega, by omega, dd1, fun s hs => dd2 s (by omega), ⟨fun c k p q => yI c k p (by omega), fun c k => by rw [ey]; rfl, fun c k => by rw [ey]; rfl⟩⟩
    · have c1 : lc_in (nI i) 243 := nI_in hn (by decide)
      have c2 : lc_in (nI a) 243 := nI_in (by omega) (by decide)
      have c3 : lc_in (nI b) 243 := nI_in (by omega) (by decide)
      have d1 : (nI i).toNatClampNeg = i := nI_clamp (by omega)
      have d2 : (nI a).toNatClampNeg = a := nI_clamp (by omega)
      have d3 : (nI b).toNatClampNeg = b := nI_clamp (by omega)
      have n1 : nI i < 243 := nI_lt (b := 243) hn (by decide)
      have n2 : nI i ≤ nI i := nI_le (Nat.le_refl _) (by omega)
      have ai : ¬ a = i := by omega
      have bi : ¬ b = i := by omega
      obtain ⟨ea, la⟩ := lc_TA_12 h0 a0 an
      obtain ⟨eb, lb⟩ := lc_TA_12 h0 b0 bn
      have v0 : vp_nar .boolean 0 = 0 := by decide
      have v1 : vp_nar .boolean 1 = 1 := by decide
      rw [fT_pairOf_12, h1, if_pos n2, if_pos n1]
      simp only [h1, lc_chk_pos c1, lc_chk_pos c2, lc_chk_pos c3, d1, d2, d3, ai, bi, ea, eb, la, lb, fT_pairOf_133, fT_pairOf_138, lc_chk_pos v0, lc_chk_pos v1, nI_1, nI_pred, lcI_UI, lcI_UL, lcI_UR, lcL_UI, lcL_UL, lcL_UR, lcR_UI, lcR_UL, lcR_UR, false_and, and_false, true_and, and_true, and_self, ↓reduceIte, Nat.reduceEqDiff, lc_let_eq]
      rw [ey, el]
      by_cases l1 : lc_lin (δ a) = 0
      · rw [if_pos l1, if_pos l1]
        rcases lc_lin01 (δ b) with l2 | l2
        · rw [if_pos l2, l2]
        · rw [if_neg (by rw [l2]; decide), l2]
      · rw [if_neg l1, if_neg l1]
    · rw [ey]; simp only [lcI_UI, lcI_UL, lcI_UR, lcL_UI, lcL_UL, lcL_UR, lcR_UI, lcR_UL, lcR_UR, false_and, and_false, true_and, and_true, and_self, ↓reduceIte, Nat.reduceEqDiff, lc_let_eq]
    · rw [dd2 _ (by omega)]; exact h4
    · rw [dd2 _ (by omega)]; exact h5
    · rw [yI _ _ (by omega) (by omega), yI _ _ (by omega) (by omega)]; exact h6 j hj
    · rw [yI _ _ (by omega) (by omega)]; exact h7
    · rw [yI _ _ (by omega) (by omega)]; exact h8
    · rw [yI _ _ (by omega) (by omega)]; exact h9
    · rw [yI _ _ (by omega) (by omega)]; exact h10
    · rw [yI _ _ (by omega) (by omega)]; exact h11
    · rw [yI _ _ (by omega) (by omega)]; exact h12
    · by_cases ht : t = i
      · subst ht
        refine ⟨a, b, a0, an, b0, bn, ?_, ?_, ?_⟩
        · rw [ey]; simp only [lcI_UI, lcI_UL, lcI_UR, lcL_UI, lcL_UL, lcL_UR, lcR_UI, lcR_UL, lcR_UR, false_and, and_false, true_and, and_true, and_self, ↓reduceIte, Nat.reduceEqDiff, lc_let_eq]
        · rw [ey]; simp only [lcI_UI, lcI_UL, lcI_UR, lcL_UI, lcL_UL, lcL_UR, lcR_UI, lcR_UL, lcR_UR, false_and, and_false, true_and, and_true, and_self, ↓reduceIte, Nat.reduceEqDiff, lc_let_eq]
        · rw [dd1, dd2 _ (by omega), dd2 _ (by omega)]
      · obtain ⟨a', b', g1, g2, g3, g4, g5, g6, g7⟩ := h13 t t3 (by omega)
        exact ⟨a', b', g1, g2, g3, g4, by rw [yI _ _ (by omega) (by omega)]; exact g5, by rw [yI _ _ (by omega) (by omega)]; exact g6, by rw [dd2 _ ht, dd2 _ (by omega), dd2 _ (by omega)]; exact g7⟩
    · by_cases ht : t = i
      · subst ht
        rw [dd1]
        refine ⟨?_, ?_⟩
        · rw [ey]; simp only [lcI_UI, lcI_UL, lcI_UR, lcL_UI, lcL_UL, lcL_UR, lcR_UI, lcR_UL, lcR_UR, false_and, and_false, true_and, and_true, and_self, ↓reduceIte, Nat.reduceEqDiff, lc_let_eq]; rfl
        · rw [ey]; simp only [lcI_UI, lcI_UL, lcI_UR, lcL_UI, lcL_UL, lcL_UR, lcR_UI, lcR_UL, lcR_UR, false_and, and_false, true_and, and_true, and_self, ↓reduceIte, Nat.reduceEqDiff, lc_let_eq]; rw [el]; rfl
      · rw [dd2 _ ht, yI _ _ (by omega) (by omega), yI _ _ (by omega) (by omega)]; exact h14 t t3 (by omega)
    · have key : ∀ s, 0 < s → s < i → δ s ≠ lc_prr (δ a) (δ b) := fun s s0 sn e => by
        obtain rfl | rfl | s3 : s = 1 ∨ s = 2 ∨ 3 ≤ s := by omega
        · rw [h4] at e; cases e
        · rw [h5] at e; cases e
        · obtain ⟨a', b', g1, g2, g3, g4, g5, g6, g7⟩ := h13 s s3 sn
          rw [g7] at e
          injection e with e1 e2
          have e1 := h15 a' a g1 (by omega) a0 an e1
          have e2 := h15 b' b g3 (by omega) b0 bn e2
          subst e1; subst e2
          exact hs s s3 sn ⟨g5, g6⟩
      by_cases hsi : s = i
      · by_cases hti : t = i
        · omega
        · rw [hsi, dd1, dd2 _ hti] at e
          exact absurd e.symm (key t t0 (by omega))
      · by_cases hti : t = i
        · rw [dd2 _ hsi, hti, dd1] at e
          exact absurd e (key s s0 (by omega))
        · rw [dd2 _ hsi, dd2 _ hti] at e
          exact h15 s t s0 (by omega) t0 (by omega) e
  | m + 1, i, f + 1, hi, i3, hf, hs => by
    obtain ⟨h1, h2, h3, h4, h5, h6, h13, h14, h15⟩ := h
    have c1 : lc_in (nI i) 243 := nI_in (by omega) (by decide)
    have d1 : (nI i).toNatClampNeg = i := nI_clamp (by omega)
    have n2 : ¬ nI n ≤ nI i := nI_ge (by omega) (by omega)
    obtain ⟨a', b', g1, g2, g3, g4, g5, g6, g7⟩ := h13 i i3 (by omega)
    have IH := lc_pairAL ⟨h1, h2, h3, h4, h5, h6, h13, h14, h15⟩ hn a0 an b0 bn m (i + 1) f (by omega) (by omega) (by omega)
    by_cases hf' : lcI y 10 i = nI a ∧ lcI y 11 i = nI b
    · refine ⟨i, y, δ, n, ?_, ⟨h1, h2, h3, h4, h5, h6, h13, h14, h15⟩, by omega, by omega, by omega, by omega, ?_, fun _ _ => rfl, lc_kT.rf⟩
      · simp only [fT_pairOf_12, h1, n2, lc_chk_pos c1, d1, hf'.1, hf'.2, ↓reduceIte]
      · rw [g7]
        have e1 : a' = a := (nI_eq (by omega) (by omega)).mp (g5.symm.trans hf'.1)
        have e2 : b' = b := (nI_eq (by omega) (by omega)).mp (g6.symm.trans hf'.2)
        rw [e1, e2]
    · obtain ⟨t, y', δ', n', q⟩ := IH (fun s s3 si => by
        by_cases hsi : s = i
        · rw [hsi]; exact hf'
        · exact hs s s3 (by omega))
      refine ⟨t, y', δ', n', ?_, q.2⟩
      by_cases p1 : lcI y 10 i = nI a
      · have p2 : ¬ lcI y 11 i = nI b := fun p => hf' ⟨p1, p⟩
        simp only [fT_pairOf_12, fT_pairOf_42, h1, n2, lc_chk_pos c1, d1, p1, p2, ↓reduceIte, lc_let_eq, nI_1]
        exact q.1
      · simp only [fT_pairOf_12, fT_pairOf_42, h1, n2, lc_chk_pos c1, d1, p1, ↓reduceIte, lc_let_eq, nI_1]
        exact q.1
theorem lc_pairA {y : lc_S} {δ : Nat → lc_tp} {n a b : Nat} (h : lc_TA y δ n) (hn : n < 243) (a0 : 0 < a) (an : a < n) (b0 : 0 < b) (bn : b < n) : ∃ t y' δ' n', fT_pairOf (nI a) (nI b) y = some (nI t, y') ∧ lc_TA y' δ' n' ∧ n ≤ n' ∧ n' ≤ n + 1 ∧ 3 ≤ t ∧ t < n' ∧ δ' t = lc_prr (δ a) (δ b) ∧ (∀ s, s < n → δ' s = δ s) ∧ lc_kT y y' := by
  have n3 := h.2.1
  obtain ⟨t, y', δ', n', q⟩ := lc_pairAL h hn a0 an b0 bn (n - 3) 3 lc_FU (by omega) (Nat.le_refl _) (by unfold lc_FU; omega) (fun s s3 si => absurd si (by omega))
  refine ⟨t, y', δ', n', ?_, q.2⟩
  rw [fT_pairOf, if_neg (nI_ne0 a0 (by omega)), if_neg (nI_ne0 b0 (by omega))]
  exact q.1
/-! the reference's table -/
def lc_TQ (z : lc_S) (δ : Nat → lc_tp) (n : Nat) : Prop := lcI z 80 25 = nI n ∧ 2 ≤ n ∧ n ≤ 340 ∧ δ 0 = .nil ∧ δ 1 = .line ∧ (∀ t, 2 ≤ t → t < n → ∃ a b, a < t ∧ b < t ∧ lcI z 98 t = nI a ∧ lcI z 99 t = nI b ∧ δ t = lc_prr (δ a) (δ b)) ∧ ∀ s t, s < n → t < n → δ s = δ t → s = t
def lc_kQ (z z' : lc_S) : Prop := (∀ c k, ¬ (c = 80 ∧ k = 25) → ¬ (c = 98 ∨ c = 99) → lcI z' c k = lcI z c k) ∧ (∀ c k, lcL z' c k = lcL z c k) ∧ ∀ c k, lcR z' c k = lcR z c k
theorem lc_kQ.rf {y : lc_S} : lc_kQ y y := ⟨fun _ _ _ _ => rfl, fun _ _ => rfl, fun _ _ => rfl⟩
theorem lc_kQ.tr {x y z : lc_S} (h : lc_kQ x y) (g : lc_kQ y z) : lc_kQ x z := ⟨fun c k a b => (g.1 c k a b).trans (h.1 c k a b), fun c k => (g.2.1 c k).trans (h.2.1 c k), fun c k => (g.2.2 c k).trans (h.2.2 c k)⟩
theorem lc_pairQL {z : lc_S} {δ : Nat → lc_tp} {n a b : Nat} (h : lc_TQ z δ n) (hn : n < 340) (an : a < n) (bn : b < n) : ∀ (m i f : Nat), i + m = n → 2 ≤ i → m < f → (∀ s, 2 ≤ s → s < i → ¬ (lcI z 98 s = nI a ∧ lcI z 99 s = nI b)) →
    ∃ t z' δ' n', fQ_pairType_2 f (nI a) (nI b) (nI i) z = some (nI t, z') ∧ lc_TQ z' δ' n' ∧ n ≤ n' ∧ n' ≤ n + 1 ∧ 2 ≤ t ∧ t < n' ∧ δ' t = lc_prr (δ a) (δ b) ∧ (∀ s, s < n → δ' s = δ s) ∧ lc_kQ z z'
  | 0, i, f + 1, hi, i3, _, hs => by
    have hi : i = n := by omega
    subst hi
    obtain ⟨h1, h2, h3, h4, h5, h13, h15⟩ := h
    obtain ⟨z', ey⟩ : ∃ x, x = lcUI (lcUI (lcUI z 98 i (nI a)) 99 i (nI b)) 80 25 (nI (i + 1)) := ⟨_, rfl⟩
    have yI : ∀ c k, ¬ (c = 80 ∧ k = 25) → ¬ ((c = 98 ∨ c = 99) ∧ k = i) → lcI z' c k = lcI z c k := fun c k p q => by
      rw [ey, lcI_UI, if_neg p, lcI_UI, if_neg (by omega), lcI_UI, if_neg (by omega)]
    obtain ⟨δ', dd1, dd2⟩ : ∃ δ' : Nat → lc_tp, δ' i = lc_prr (δ a) (δ b) ∧ ∀ s, s ≠ i → δ' s = δ s := ⟨fun s => if s = i then lc_prr (δ a) (δ b) else δ s, if_pos rfl, fun s h => if_neg h⟩
    refine ⟨i, z', δ', i + 1, ?_, ⟨?_, by omega, by omega, ?_, ?_, fun t t3 tn => ?_, fun s t sn tn e => ?_⟩, by omega, by omega, by omega, by omega, dd1, fun s hs => dd2 s (by omega), ⟨fun c k p q => yI c k p (by omega), fun c k => by rw [ey]; rfl, fun c k => by rw [ey]; rfl⟩⟩
    · have c1 : lc_in (nI i) 340 := nI_in hn (by decide)
      have d1 : (nI i).toNatClampNeg = i := nI_clamp (by omega)
      have n2 : nI i ≤ nI i := nI_le (Nat.le_refl _) (by omega)
      rw [fQ_pairType_2, h1, if_pos n2]
      simp only [h1, lc_chk_pos c1, d1, nI_1, nI_pred, ey, lcI_UI, lcI_UL, lcI_UR, lcL_UI, lcL_UL, lcL_UR, lcR_UI, lcR_UL, lcR_UR, false_and, and_false, true_and, and_true, and_self, ↓reduceIte, Nat.reduceEqDiff, lc_let_eq]
    · rw [ey]; simp only [lcI_UI, lcI_UL, lcI_UR, lcL_UI, lcL_UL, lcL_UR, lcR_UI, lcR_UL, lcR_UR, false_and, and_false, true_and, and_true, and_self, ↓reduceIte, Nat.reduceEqDiff, lc_let_eq]
    · rw [dd2 _ (by omega)]; exact h4
    · rw [dd2 _ (by omega)]; exact h5
    · by_cases ht : t = i
      · subst ht
        refine ⟨a, b, an, bn, ?_, ?_, ?_⟩
        · rw [ey]; simp only [lcI_UI, lcI_UL, lcI_UR, lcL_UI, lcL_UL, lcL_UR, lcR_UI, lcR_UL, lcR_UR, false_and, and_false, true_and, and_true, and_self, ↓reduceIte, Nat.reduceEqDiff, lc_let_eq]
        · rw [ey]; simp only [lcI_UI, lcI_UL, lcI_UR, lcL_UI, lcL_UL, lcL_UR, lcR_UI, lcR_UL, lcR_UR, false_and, and_false, true_and, and_true, and_self, ↓reduceIte, Nat.reduceEqDiff, lc_let_eq]
        · rw [dd1, dd2 _ (by omega), dd2 _ (by omega)]
      · obtain ⟨a', b', g2, g4, g5, g6, g7⟩ := h13 t t3 (by omega)
        exact ⟨a', b', g2, g4, by rw [yI _ _ (by omega) (by omega)]; exact g5, by rw [yI _ _ (by omega) (by omega)]; exact g6, by rw [dd2 _ ht, dd2 _ (by omega), dd2 _ (by omega)]; exact g7⟩
    · have key : ∀ s, s < i → δ s ≠ lc_prr (δ a) (δ b) := fun s sn e => by
        obtain rfl | rfl | s3 : s = 0 ∨ s = 1 ∨ 2 ≤ s := by omega
        · rw [h4] at e; cases e
        · rw [h5] at e; cases e
        · obtain ⟨a', b', g2, g4, g5, g6, g7⟩ := h13 s s3 sn
          rw [g7] at e
          injection e with e1 e2
          have e1 := h15 a' a (by omega) an e1
          have e2 := h15 b' b (by omega) bn e2
          subst e1; subst e2
          exact hs s s3 sn ⟨g5, g6⟩
      by_cases hsi : s = i
      · by_cases hti : t = i
        · omega
        · rw [hsi, dd1, dd2 _ hti] at e
          exact absurd e.symm (key t (by omega))
      · by_cases hti : t = i
        · rw [dd2 _ hsi, hti, dd1] at e
          exact absurd e (key s (by omega))
        · rw [dd2 _ hsi, dd2 _ hti] at e
          exact h15 s t (by omega) (by omega) e
  | m + 1, i, f + 1, hi, i3, hf, hs => by
    obtain ⟨h1, h2, h3, h4, h5, h13, h15⟩ := h
    have c1 : lc_in (nI i) 340 := nI_in (by omega) (by decide)
    have d1 : (nI i).toNatClampNeg = i := nI_clamp (by omega)
    have n2 : ¬ nI n ≤ nI i := nI_ge (by omega) (by omega)
    obtain ⟨a', b', g2, g4, g5, g6, g7⟩ := h13 i i3 (by omega)
    have IH := lc_pairQL ⟨h1, h2, h3, h4, h5, h13, h15⟩ hn an bn m (i + 1) f (by omega) (by omega) (by omega)
    by_cases hf' : lcI z 98 i = nI a ∧ lcI z 99 i = nI b
    · refine ⟨i, z, δ, n, ?_, ⟨h1, h2, h3, h4, h5, h13, h15⟩, by omega, by omega, by omega, by omega, ?_, fun _ _ => rfl, lc_kQ.rf⟩
      · simp only [fQ_pairType_2, h1, n2, lc_chk_pos c1, d1, hf'.1, hf'.2, ↓reduceIte]
      · rw [g7]
        have e1 : a' = a := (nI_eq (by omega) (by omega)).mp (g5.symm.trans hf'.1)
        have e2 : b' = b := (nI_eq (by omega) (by omega)).mp (g6.symm.trans hf'.2)
        rw [e1, e2]
    · obtain ⟨t, y', δ', n', q⟩ := IH (fun s s3 si => by
        by_cases hsi : s = i
        · rw [hsi]; exact hf'
        · exact hs s s3 (by omega))
      refine ⟨t, y', δ', n', ?_, q.2⟩
      by_cases p1 : lcI z 98 i = nI a
      · have p2 : ¬ lcI z 99 i = nI b := fun p => hf' ⟨p1, p⟩
        simp only [fQ_pairType_2, fQ_pairType_32, h1, n2, lc_chk_pos c1, d1, p1, p2, ↓reduceIte, lc_let_eq, nI_1]
        exact q.1
      · simp only [fQ_pairType_2, fQ_pairType_32, h1, n2, lc_chk_pos c1, d1, p1, ↓reduceIte, lc_let_eq, nI_1]
        exact q.1
theorem lc_pairQ {z : lc_S} {δ : Nat → lc_tp} {n a b : Nat} (h : lc_TQ z δ n) (hn : n < 340) (an : a < n) (bn : b < n) : ∃ t z' δ' n', fQ_pairType (nI a) (nI b) z = some (nI t, z') ∧ lc_TQ z' δ' n' ∧ n ≤ n' ∧ n' ≤ n + 1 ∧ 2 ≤ t ∧ t < n' ∧ δ' t = lc_prr (δ a) (δ b) ∧ (∀ s, s < n → δ' s = δ s) ∧ lc_kQ z z' := by
  have n3 := h.2.1
  exact lc_pairQL h hn an bn (n - 2) 2 lc_FU (by omega) (Nat.le_refl _) (by unfold lc_FU; omega) (fun s s3 si => absurd si (by omega))
