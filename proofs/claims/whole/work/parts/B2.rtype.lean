/-! reading a type: class and reference -/
/-- class: only the place, the signs of types and their number change -/
def lc_kt (o s : Nat) (y y' : lc_S) : Prop := (∀ c k, ¬ (c = 4 ∧ k = 2) → ¬ (c = o ∧ k = 3) → ¬ (c = o + 1 ∧ s ≤ k) → lcI y' c k = lcI y c k) ∧ (∀ c k, lcL y' c k = lcL y c k) ∧ ∀ c k, lcR y' c k = lcR y c k
theorem lc_kt.tr {o s s' : Nat} {x y z : lc_S} (h : lc_kt o s x y) (g : lc_kt o s' y z) (hs : s ≤ s') : lc_kt o s x z := ⟨fun c k a b d => (g.1 c k a b (by omega)).trans (h.1 c k a b d), fun c k => (g.2.1 c k).trans (h.2.1 c k), fun c k => (g.2.2 c k).trans (h.2.2 c k)⟩
theorem lc_kp4.t {o s : Nat} {x y : lc_S} (h : lc_kp4 x y) : lc_kt o s x y := ⟨fun c k a _ _ => h.1 c k a, h.2.1, h.2.2⟩
/-- reference: only place, bad, the row of a type from r on and what is held change -/
def lc_kr (r : Nat) (z z' : lc_S) : Prop := (∀ c k, ¬ (c = 80 ∧ (k = 13 ∨ k = 14)) → ¬ (c = 119 ∧ r ≤ k) → c ≠ 97 → lcI z' c k = lcI z c k) ∧ (∀ c k, lcL z' c k = lcL z c k) ∧ ∀ c k, lcR z' c k = lcR z c k
theorem lc_kr.tr {r r' : Nat} {x y z : lc_S} (h : lc_kr r x y) (g : lc_kr r' y z) (hr : r ≤ r') : lc_kr r x z := ⟨fun c k a b d => (g.1 c k a (by omega) d).trans (h.1 c k a b d), fun c k => (g.2.1 c k).trans (h.2.1 c k), fun c k => (g.2.2 c k).trans (h.2.2 c k)⟩
theorem lc_kp9.r {r : Nat} {x y : lc_S} (h : lc_kp9 x y) : lc_kr r x y := ⟨fun c k a _ _ => h.1 c k a, h.2.1, h.2.2⟩
theorem lc_kr.u {r k : Nat} {y : lc_S} (v : Int32) (h : r ≤ k) : lc_kr r y (lcUI y 119 k v) := ⟨fun c' k' a b d => by rw [lcI_UI, if_neg (by omega)], fun _ _ => rfl, fun _ _ => rfl⟩
theorem lc_kr.h {r k : Nat} {y : lc_S} (v : Int32) : lc_kr r y (lcUI y 97 k v) := ⟨fun c' k' a b d => by rw [lcI_UI, if_neg (by omega)], fun _ _ => rfl, fun _ _ => rfl⟩
theorem lc_txQr {z z' : lc_S} {tx : Nat → Int32} {n r : Nat} (k : lc_kr r z z') (h : lc_txQ z tx n) : lc_txQ z' tx n := ⟨by rw [k.1 _ _ (by omega) (by omega) (by omega)]; exact h.1, h.2.1, fun j hj => by rw [k.1 _ _ (by omega) (by omega) (by omega)]; exact h.2.2 j hj⟩
theorem lc_txAt {y y' : lc_S} {tx : Nat → Int32} {n o s : Nat} (ho : lc_sh o = (0, 1, 0)) (k : lc_kt o s y y') (h : lc_txA y tx n) : lc_txA y' tx n := by
  have ho' := lc_o ho
  exact ⟨by rw [k.2.2]; exact h.1, by rw [k.1 _ _ (by omega) (by omega) (by omega)]; exact h.2.1, h.2.2.1, fun j hj => by rw [k.1 _ _ (by omega) (by omega) (by omega)]; exact h.2.2.2 j hj⟩
theorem lc_addT {y : lc_S} {o s : Nat} (v : Int32) (ho : lc_sh o = (0, 1, 0)) (h3 : lcI y o 3 = nI s) (hs : s < 62) : ∃ y', fP_addTypeSign o v y = some (1, y') ∧ lcI y' o 3 = nI (s + 1) ∧ lcI y' (o + 1) s = v ∧ (∀ j, j ≠ s → lcI y' (o + 1) j = lcI y (o + 1) j) ∧ lcI y' 4 2 = lcI y 4 2 ∧ lc_kt o s y y' := by
  have ho' := lc_o ho
  have c1 : lc_in (nI s) 62 := nI_in hs (by decide)
  have d1 : (nI s).toNatClampNeg = s := nI_clamp (by omega)
  have n1 : nI s < 62 := nI_lt (b := 62) hs (by decide)
  have e : lcI (lcUI y (o + 1) s v) o 3 = nI s := by rw [lcI_UI, if_neg (by omega)]; exact h3
  refine ⟨lcUI (lcUI y (o + 1) s v) o 3 (nI (s + 1)), ?_, ?_, ?_, fun j hj => ?_, ?_, ⟨fun c k a b d => ?_, fun _ _ => rfl, fun _ _ => rfl⟩⟩
  · rw [fP_addTypeSign, lc_chk_pos ho, h3, if_pos n1, lc_chk_pos c1, d1, e, nI_1]
  · rw [lcI_UI, if_pos ⟨rfl, rfl⟩]
  · rw [lcI_UI, if_neg (by omega), lcI_UI, if_pos ⟨rfl, rfl⟩]
  · rw [lcI_UI, if_neg (by omega), lcI_UI, if_neg (by omega)]
  · rw [lcI_UI, if_neg (by omega), lcI_UI, if_neg (by omega)]
  · rw [lcI_UI, if_neg (by omega), lcI_UI, if_neg (by omega)]
/-- behind a type at depth d: what is held there goes down by one -/
def lc_dec (d : Nat) (z : lc_S) : lc_S := if d = 0 then z else lcUI z 97 (d - 1) (lcI z 97 (d - 1) - 1)
theorem lc_dec_kr {r d : Nat} {z : lc_S} : lc_kr r z (lc_dec d z) := by
  unfold lc_dec
  split
  · exact ⟨fun _ _ _ _ _ => rfl, fun _ _ => rfl, fun _ _ => rfl⟩
  · exact lc_kr.h _
/-- a sign of a type is read by the reference -/
theorem lc_tyStep {z : lc_S} {tx : Nat → Int32} {n a r d : Nat} {s : Int32} (hz : lc_txQ z tx n) (hb : lcI z 80 14 = 0) (h13 : lcI z 80 13 = nI a) (ha : a < 1000) (hr : r < 129) (hd : d ≤ 100) (hs : lc_sg tx n a = s) : ∃ z1, lc_kp8 z z1 ∧ lcI z1 80 13 = nI (lc_at tx n a + 1) ∧ ∀ F, fQ_type_12 (F + 1) 119 (nI r) (nI d) 0 z = if (s = 105 ∨ s = 114 ∨ s = 40) ∧ d ≤ 4 then (if s = 40 then fQ_type_12 F 119 (nI (r + 1)) (nI (d + 1)) 0 (lcUI (lcUI (lcUI z1 80 14 0) 119 r s) 97 d 2) else fQ_type_117 (fQ_type_12 F) lc_FU 119 (nI (r + 1)) (nI d) (lc_dec d (lcUI (lcUI z1 80 14 0) 119 r s))) else some ((), lcUI z1 80 14 1) := by
  obtain ⟨z1, e1, e2, e3, e4⟩ := lc_ntQ hz h13 ha
  rw [hs] at e1
  have s119 : lc_sh 119 = (1, 0, 130) := by decide +kernel
  have c1 : lc_in (nI r) 130 := nI_in (by omega) (by decide)
  have d1 : (nI r).toNatClampNeg = r := nI_clamp (by omega)
  have c2 : lc_in (nI d) 128 := nI_in (by omega) (by decide)
  have d2 : (nI d).toNatClampNeg = d := nI_clamp (by omega)
  refine ⟨z1, e3, e2, fun F => ?_⟩
  have bad : fQ_type_57 (fQ_type_12 F) 119 (nI r) (nI d) 0 s z1 = some ((), lcUI z1 80 14 1) := by
    rw [fQ_type_57, fQ_type_62, lc_chk_pos (Or.inr rfl), if_neg (by simp only [lcI_UI, lcI_UL, lcI_UR, lcL_UI, lcL_UL, lcL_UR, lcR_UI, lcR_UL, lcR_UR, false_and, and_false, true_and, and_true, and_self, ↓reduceIte, Nat.reduceEqDiff, lc_let_eq]; decide)]
  have good : fQ_type_62 (fQ_type_12 F) 119 (nI r) (nI d) 0 s 0 z1 = if s = 40 then fQ_type_12 F 119 (nI (r + 1)) (nI (d + 1)) 0 (lcUI (lcUI (lcUI z1 80 14 0) 119 r s) 97 d 2) else fQ_type_117 (fQ_type_12 F) lc_FU 119 (nI (r + 1)) (nI d) (lc_dec d (lcUI (lcUI z1 80 14 0) 119 r s)) := by
    have h0 : lcI (lcUI z1 80 14 0) 80 14 = 0 := by simp only [lcI_UI, lcI_UL, lcI_UR, lcL_UI, lcL_UL, lcL_UR, lcR_UI, lcR_UL, lcR_UR, false_and, and_false, true_and, and_true, and_self, ↓reduceIte, Nat.reduceEqDiff, lc_let_eq]
    rw [fQ_type_62, lc_chk_pos (Or.inl rfl), if_pos h0, lc_chk_pos s119]
    simp only [lc_chk_pos c1, d1, lc_let_eq, nI_1, lc_chk_pos c2, d2]
    by_cases h40 : s = 40
    · rw [if_pos h40, if_pos h40]
    · rw [if_neg h40, if_neg h40]
      unfold lc_dec
      by_cases hd0 : d = 0
      · subst hd0
        rw [if_pos (show nI 0 ≤ 0 by decide), if_pos rfl]
      · have c3 : lc_in (nI (d - 1)) 128 := nI_in (by omega) (by decide)
        have d3 : (nI (d - 1)).toNatClampNeg = d - 1 := nI_clamp (by omega)
        have ed : nI d - 1 = nI (d - 1) := by rw [show d = d - 1 + 1 by omega, nI_pred]; rfl
        rw [if_neg (nI_nle (by omega) (by omega)), if_neg hd0, ed]
        simp only [lc_chk_pos c3, d3]
  rw [fQ_type_12, if_pos rfl, if_pos hb, lc_bnd_eq e1]
  have h52 : fQ_type_52 (fQ_type_12 F) 119 (nI r) (nI d) 0 s z1 = if d ≤ 4 then fQ_type_62 (fQ_type_12 F) 119 (nI r) (nI d) 0 s 0 z1 else some ((), lcUI z1 80 14 1) := by
    rw [fQ_type_52, bad]
    by_cases h4 : d ≤ 4
    · rw [if_pos h4, if_pos (show nI d ≤ 4 from nI_le (b := 4) h4 (by decide))]
    · rw [if_neg h4, if_neg (show ¬ nI d ≤ 4 from nI_ge (a := 4) (by omega) (by omega))]
  rw [h52, good, bad]
  by_cases k1 : s = 105
  · rw [if_pos k1]
    by_cases h4 : d ≤ 4
    · rw [if_pos h4, if_pos (show (s = 105 ∨ s = 114 ∨ s = 40) ∧ d ≤ 4 from ⟨Or.inl k1, h4⟩)]
    · rw [if_neg h4, if_neg (show ¬ ((s = 105 ∨ s = 114 ∨ s = 40) ∧ d ≤ 4) from fun h => h4 h.2)]
  · rw [if_neg k1]
    by_cases k2 : s = 114
    · rw [if_pos k2]
      by_cases h4 : d ≤ 4
      · rw [if_pos h4, if_pos (show (s = 105 ∨ s = 114 ∨ s = 40) ∧ d ≤ 4 from ⟨Or.inr (Or.inl k2), h4⟩)]
      · rw [if_neg h4, if_neg (show ¬ ((s = 105 ∨ s = 114 ∨ s = 40) ∧ d ≤ 4) from fun h => h4 h.2)]
    · rw [if_neg k2]
      by_cases k3 : s = 40
      · rw [if_pos k3]
        by_cases h4 : d ≤ 4
        · rw [if_pos h4, if_pos (show (s = 105 ∨ s = 114 ∨ s = 40) ∧ d ≤ 4 from ⟨Or.inr (Or.inr k3), h4⟩)]
        · rw [if_neg h4, if_neg (show ¬ ((s = 105 ∨ s = 114 ∨ s = 40) ∧ d ≤ 4) from fun h => h4 h.2)]
      · rw [if_neg k3, if_neg (fun h => by rcases h.1 with h | h | h <;> contradiction)]
/-- what reading one type at depth d comes to -/
def lc_tyR (tx : Nat → Int32) (n o d a s r : Nat) (y z : lc_S) (X : Option (Int32 × lc_S)) : Prop := ∃ y' z', lc_kt o s y y' ∧ lc_kr r z z' ∧
  ((∃ τ a' s' r' g, X = some (1, y') ∧ lc_pd τ + d ≤ 4 ∧ s' + 1 ≤ s + 2 ^ (5 - d) ∧ r' + 1 ≤ r + 2 ^ (5 - d) ∧ lc_pf (fun j => lcI y' (o + 1) j) τ s s' ∧ lc_xf (fun j => lcI z' 119 j) τ r r' ∧ a < a' ∧ a' ≤ n ∧ lcI y' 4 2 = nI a' ∧ lcI y' o 3 = nI s' ∧ lcI z' 80 13 = nI a' ∧ lcI z' 80 14 = 0 ∧ (∀ j, j < d → lcI z' 97 j = lcI z 97 j) ∧ 90000 + d ≤ g ∧ ∀ F, fQ_type_12 (F + (r' - r)) 119 (nI r) (nI d) 0 z = fQ_type_117 (fQ_type_12 F) g 119 (nI r') (nI d) (lc_dec d z')) ∨
   (X = some (0, y') ∧ lcI z' 80 14 = 1 ∧ ∀ F, 2 ^ (6 - d) ≤ F → fQ_type_12 F 119 (nI r) (nI d) 0 z = some ((), z')))
theorem lc_117 {z : lc_S} {K : Nat → Int32 → Int32 → Int32 → lc_S → Option (Unit × lc_S)} {g r d : Nat} (hd : d ≤ 100) (hne : d = 0 ∨ lcI z 97 (d - 1) ≠ 0 ∨ lcI z 80 14 ≠ 0) : fQ_type_117 K (g + 1) 119 (nI r) (nI d) z = K 119 (nI r) (nI d) (if d = 0 then 1 else 0) z := by
  have h167 : fQ_type_167 K 119 (nI r) (nI d) z = K 119 (nI r) (nI d) (if d = 0 then 1 else 0) z := by
    have e0 : (nI d = 0) = (d = 0) := lc_eqn (b := 0) (by omega) (by decide)
    rw [fQ_type_167]
    simp only [e0, fQ_type_176]
    by_cases h : d = 0
    · rw [if_pos h, if_pos h]
    · rw [if_neg h, if_neg h]
  rw [fQ_type_117]
  by_cases h0 : d = 0
  · subst h0
    rw [if_pos (show nI 0 ≤ 0 by decide)]; exact h167
  · have c3 : lc_in (nI (d - 1)) 128 := nI_in (by omega) (by decide)
    have d3 : (nI (d - 1)).toNatClampNeg = d - 1 := nI_clamp (by omega)
    have ed : nI d - 1 = nI (d - 1) := by rw [show d = d - 1 + 1 by omega, nI_pred]; rfl
    rw [if_neg (nI_nle (by omega) (by omega)), ed]
    simp only [lc_chk_pos c3, d3]
    by_cases h1 : lcI z 97 (d - 1) = 0
    · rw [if_pos h1]
      have h2 : lcI z 80 14 ≠ 0 := by
        rcases hne with h | h | h
        · exact absurd h h0
        · exact absurd h1 h
        · exact h
      rw [if_neg h2]; exact h167
    · rw [if_neg h1]; exact h167
/-- a closing bracket behind the second part of a pair at depth d -/
theorem lc_117c {z : lc_S} {K : Nat → Int32 → Int32 → Int32 → lc_S → Option (Unit × lc_S)} {tx : Nat → Int32} {n a g r d : Nat} (hz : lc_txQ z tx n) (hb : lcI z 80 14 = 0) (h13 : lcI z 80 13 = nI a) (ha : a < 1000) (hd : d ≤ 90) (h0 : lcI z 97 d = 0) : ∃ z1, lc_kp8 z z1 ∧ lcI z1 80 13 = nI (lc_at tx n a + 1) ∧ fQ_type_117 K (g + 1) 119 (nI r) (nI (d + 1)) z = fQ_type_117 K g 119 (nI r) (nI d) (lc_dec d (lcUI z1 80 14 (if lc_sg tx n a = 41 then 0 else 1))) := by
  obtain ⟨z1, e1, e2, e3, e4⟩ := lc_ntQ hz h13 ha
  have c3 : lc_in (nI d) 128 := nI_in (by omega) (by decide)
  have d3 : (nI d).toNatClampNeg = d := nI_clamp (by omega)
  refine ⟨z1, e3, e2, ?_⟩
  have he : fQ_expect 41 z = some ((), lcUI z1 80 14 (if lc_sg tx n a = 41 then 0 else 1)) := by
    rw [fQ_expect, if_pos hb, lc_bnd_eq e1]
    by_cases h : lc_sg tx n a = 41
    · rw [if_pos h, if_pos h, fQ_expect_21, lc_chk_pos (Or.inl rfl)]
    · rw [if_neg h, if_neg h, fQ_expect_16, fQ_expect_21, lc_chk_pos (Or.inr rfl)]
  rw [fQ_type_117, if_neg (nI_nle (by omega) (by omega)), nI_pred]
  simp only [lc_chk_pos c3, d3]
  rw [if_pos h0, if_pos hb, lc_bnd_eq he, lc_let_eq, pk_m1]
  unfold lc_dec
  by_cases hd0 : d = 0
  · subst hd0
    rw [if_pos (show nI 0 ≤ 0 by decide), if_pos rfl]
  · have c4 : lc_in (nI (d - 1)) 128 := nI_in (by omega) (by decide)
    have d4 : (nI (d - 1)).toNatClampNeg = d - 1 := nI_clamp (by omega)
    have ed : nI d - 1 = nI (d - 1) := by rw [show d = d - 1 + 1 by omega, nI_pred]; rfl
    rw [if_neg (nI_nle (by omega) (by omega)), if_neg hd0, ed]
    simp only [lc_chk_pos c4, d4]
