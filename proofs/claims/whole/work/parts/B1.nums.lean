/-! reading a text: letters and numbers -/
def lc_il (x : Int32) : Int32 := if x < 97 then 0 else if 122 < x then 0 else 1
def lc_ig (x : Int32) : Int32 := if x < 48 then 0 else if 57 < x then 0 else 1
theorem lc_ilA (x : Int32) (y : lc_S) : fR_isLetter x y = some (lc_il x, y) := by
  unfold lc_il; rw [fR_isLetter]; split
  · rfl
  · split <;> rfl
theorem lc_ilQ (x : Int32) (y : lc_S) : fQ_isLetter x y = some (lc_il x, y) := by
  unfold lc_il; rw [fQ_isLetter]; split
  · rfl
  · split <;> rfl
theorem lc_igA (x : Int32) (y : lc_S) : fR_isDigit x y = some (lc_ig x, y) := by
  unfold lc_ig; rw [fR_isDigit]; split
  · rfl
  · split <;> rfl
theorem lc_igQ (x : Int32) (y : lc_S) : fQ_isDigit x y = some (lc_ig x, y) := by
  unfold lc_ig; rw [fQ_isDigit]; split
  · rfl
  · split <;> rfl
theorem lc_il01 (x : Int32) : lc_il x = 0 ∨ lc_il x = 1 := by
  unfold lc_il; split
  · exact Or.inl rfl
  · split
    · exact Or.inl rfl
    · exact Or.inr rfl
theorem lc_ig01 (x : Int32) : lc_ig x = 0 ∨ lc_ig x = 1 := by
  unfold lc_ig; split
  · exact Or.inl rfl
  · split
    · exact Or.inl rfl
    · exact Or.inr rfl
theorem lc_ig_nI {v : Nat} (hv : v < 1000) (h : lc_ig (nI v) ≠ 0) : 48 ≤ v ∧ v ≤ 57 := by
  unfold lc_ig at h
  by_cases h1 : nI v < 48
  · rw [if_pos h1] at h; exact absurd rfl h
  · rw [if_neg h1] at h
    by_cases h2 : 57 < nI v
    · rw [if_pos h2] at h; exact absurd rfl h
    · refine ⟨Nat.le_of_not_lt (fun q => h1 (nI_lt (b := 48) q (by decide))), Nat.le_of_not_lt (fun q => h2 (nI_lt (a := 57) q (by omega)))⟩
theorem lc_il_nI {v : Nat} (hv : v < 1000) (h : lc_il (nI v) ≠ 0) : 97 ≤ v ∧ v ≤ 122 := by
  unfold lc_il at h
  by_cases h1 : nI v < 97
  · rw [if_pos h1] at h; exact absurd rfl h
  · rw [if_neg h1] at h
    by_cases h2 : 122 < nI v
    · rw [if_pos h2] at h; exact absurd rfl h
    · refine ⟨Nat.le_of_not_lt (fun q => h1 (nI_lt (b := 97) q (by decide))), Nat.le_of_not_lt (fun q => h2 (nI_lt (a := 122) q (by omega)))⟩
/-- the signs of a text -/
def lc_tk (tx : Nat → Int32) (n : Nat) : Prop := ∀ j, j < n → ∃ v, 32 ≤ v ∧ v ≤ 126 ∧ tx j = nI v
theorem lc_sg_nI {tx : Nat → Int32} {n a : Nat} (ht : lc_tk tx n) : ∃ v, v ≤ 126 ∧ lc_sg tx n a = nI v ∧ (v = 0 ∨ (32 ≤ v ∧ lc_at tx n a < n)) := by
  unfold lc_sg
  by_cases h : lc_at tx n a < n
  · obtain ⟨v, h1, h2, h3⟩ := ht _ h
    exact ⟨v, h2, by rw [if_pos h]; exact h3, Or.inr ⟨h1, h⟩⟩
  · exact ⟨0, by omega, by rw [if_neg h]; rfl, Or.inl rfl⟩
theorem lc_sg_lt {tx : Nat → Int32} {n a : Nat} (h : lc_sg tx n a ≠ 0) : lc_at tx n a < n := by
  unfold lc_sg at h
  by_cases g : lc_at tx n a < n
  · exact g
  · rw [if_neg g] at h; exact absurd rfl h
theorem lc_dig {v d : Nat} (hd : 48 ≤ d) : (10 : Int32) * nI v + nI d - 48 = nI (10 * v + (d - 48)) := by
  rw [show (10 : Int32) = nI 10 from rfl, pk_mul, nI_add, show (48 : Int32) = nI 48 from rfl, pk_sub (by omega)]
  congr 1; omega
theorem lc_digits {tx : Nat → Int32} {n : Nat} (ht : lc_tk tx n) : ∀ (m a t v f f' : Nat) (y z : lc_S), t + m = 4 → 1 ≤ t → v < 10 ^ t → m + 1 < f → m + 2 < f' → lc_txA y tx n → lc_txQ z tx n → lcI y 4 2 = nI a → lcI z 80 13 = nI a → a ≤ n →
    ∃ y' z', lc_kp4 y y' ∧ lc_kp8 z z' ∧ ((∃ v' a', v' < 10000 ∧ a ≤ a' ∧ a' ≤ n ∧ lcI y' 4 2 = nI a' ∧ lcI z' 80 13 = nI a' ∧ fR_readNumber_7 f (nI v) (nI t) y = some (nI v', y') ∧ ∃ t', t' ≤ 4 ∧ fQ_number_30 f' (nI v) (nI t) z = fQ_number_95 (nI v') (nI t') z') ∨ (fR_readNumber_7 f (nI v) (nI t) y = some (-1, y') ∧ ∃ x, fQ_number_30 f' (nI v) (nI t) z = fQ_number_95 x (nI 5) z' ∧ ∃ a', a' < 1000 ∧ lcI z' 80 13 = nI a'))
  | m, a, t, v, 0, f', y, z, _, _, _, h, _, _, _, _, _, _ => absurd h (by omega)
  | m, a, t, v, f + 1, 0, y, z, _, _, _, _, h, _, _, _, _, _ => absurd h (by omega)
  | m, a, t, v, f + 1, f' + 1, y, z, htm, ht1, hv, hf, hf', hy, hz, h2, h13, ha => by
    have hn := hy.2.2.1
    have hv4 : v < 10000 := Nat.lt_of_lt_of_le hv (show 10 ^ t ≤ 10 ^ 4 from Nat.pow_le_pow_right (by decide) (by omega))
    have s2 : lc_sh 2 = (1, 2, 120) := by decide +kernel
    by_cases hlt : a < n
    · have c1 : lc_in (nI a) 120 := nI_in (by omega) (by decide)
      have d1 : (nI a).toNatClampNeg = a := nI_clamp (by omega)
      obtain ⟨d, dd1, dd2, dd3⟩ := ht a hlt
      have eA : fR_readNumber_7 (f + 1) (nI v) (nI t) y = if lc_ig (tx a) = 0 then some (nI v, y) else (if nI (t + 1) ≤ 4 then fR_readNumber_7 f ((10 * nI v + tx a) - 48) (nI (t + 1)) (lcUI y 4 2 (nI (a + 1))) else some (-1, lcUI y 4 2 (nI (a + 1)))) := by
        rw [fR_readNumber_7, hy.2.1, h2, if_neg (nI_ge hlt (by omega)), lc_bnr_eq hy.1, lc_chk_pos s2]
        simp only [lc_chk_pos c1, d1, hy.2.2.2 a hlt]
        rw [lc_bnd_eq (lc_igA _ y), lc_bnr_eq hy.1, lc_chk_pos s2]
        simp only [h2, lc_chk_pos c1, d1, hy.2.2.2 a hlt, lc_let_eq, nI_1]
        rfl
      have eQ : fQ_number_30 (f' + 1) (nI v) (nI t) z = if lc_ig (tx a) = 0 then fQ_number_95 (nI v) (nI t) z else fQ_number_30 f' ((10 * nI v + tx a) - 48) (nI (t + 1)) (lcUI z 80 13 (nI (a + 1))) := by
        rw [fQ_number_30, hz.1, h13, if_neg (nI_ge hlt (by omega))]
        simp only [lc_chk_pos c1, d1, hz.2.2 a hlt]
        rw [lc_bnd_eq (lc_igQ _ z), if_neg (show ¬ (5 : Int32) ≤ nI t from nI_ge (b := 5) (by omega) (by decide))]
        simp only [h13, lc_chk_pos c1, d1, hz.2.2 a hlt, lc_let_eq, nI_1]
      by_cases hg : lc_ig (tx a) = 0
      · rw [if_pos hg] at eA eQ
        exact ⟨y, z, lc_kp4.rf, lc_kp8.rf, Or.inl ⟨v, a, hv4, Nat.le_refl _, ha, h2, h13, eA, t, by omega, eQ⟩⟩
      · rw [if_neg hg] at eA eQ
        have hd := lc_ig_nI (v := d) (by omega) (by rw [← dd3]; exact hg)
        rw [dd3, lc_dig hd.1] at eA eQ
        by_cases ht4 : t < 4
        · obtain ⟨m, rfl⟩ : ∃ k, m = k + 1 := ⟨m - 1, by omega⟩
          rw [if_pos (show nI (t + 1) ≤ 4 from nI_le (b := 4) (by omega) (by decide))] at eA
          have hv' : 10 * v + (d - 48) < 10 ^ (t + 1) := by rw [Nat.pow_succ]; omega
          obtain ⟨y', z', k1, k2, h⟩ := lc_digits (tx := tx) (n := n) ht m (a + 1) (t + 1) (10 * v + (d - 48)) f f' (lcUI y 4 2 (nI (a + 1))) (lcUI z 80 13 (nI (a + 1))) (by omega) (by omega) hv' (by omega) (by omega) ⟨hy.1, by rw [lcI_UI, if_neg (by omega)]; exact hy.2.1, hn, fun j hj => by rw [lcI_UI, if_neg (by omega)]; exact hy.2.2.2 j hj⟩ ⟨by rw [lcI_UI, if_neg (by omega)]; exact hz.1, hz.2.1, fun j hj => by rw [lcI_UI, if_neg (by omega)]; exact hz.2.2 j hj⟩ (by simp only [lcI_UI, lcI_UL, lcI_UR, lcL_UI, lcL_UL, lcL_UR, lcR_UI, lcR_UL, lcR_UR, false_and, and_false, true_and, and_true, and_self, ↓reduceIte, Nat.reduceEqDiff, lc_let_eq]) (by simp only [lcI_UI, lcI_UL, lcI_UR, lcL_UI, lcL_UL, lcL_UR, lcR_UI, lcR_UL, lcR_UR, false_and, and_false, true_and, and_true, and_self, ↓reduceIte, Nat.reduceEqDiff, lc_let_eq]) (by omega)
          refine ⟨y', z', (lc_kp4.u _).tr k1, (lc_kp8.u _).tr k2, ?_⟩
          rw [eA, eQ]
          rcases h with ⟨v', a', q1, q2, q3⟩ | h
          · exact Or.inl ⟨v', a', q1, by omega, q3⟩
          · exact Or.inr h
        · have ht4 : t = 4 := by omega
          subst ht4
          rw [if_neg (show ¬ nI (4 + 1) ≤ 4 by decide)] at eA
          refine ⟨lcUI y 4 2 (nI (a + 1)), lcUI z 80 13 (nI (a + 1)), lc_kp4.u _, lc_kp8.u _, Or.inr ⟨eA, nI (10 * v + (d - 48)), ?_, a + 1, by omega, by simp only [lcI_UI, lcI_UL, lcI_UR, lcL_UI, lcL_UL, lcL_UR, lcR_UI, lcR_UL, lcR_UR, false_and, and_false, true_and, and_true, and_self, ↓reduceIte, Nat.reduceEqDiff, lc_let_eq]⟩⟩
          rw [eQ]
          obtain ⟨f', rfl⟩ : ∃ k, f' = k + 1 := ⟨f' - 1, by omega⟩
          have h1' : lcI (lcUI z 80 13 (nI (a + 1))) 80 13 = nI (a + 1) := by simp only [lcI_UI, lcI_UL, lcI_UR, lcL_UI, lcL_UL, lcL_UR, lcR_UI, lcR_UL, lcR_UR, false_and, and_false, true_and, and_true, and_self, ↓reduceIte, Nat.reduceEqDiff, lc_let_eq]
          have h2' : lcI (lcUI z 80 13 (nI (a + 1))) 80 1 = nI n := by rw [lcI_UI, if_neg (by omega)]; exact hz.1
          rw [fQ_number_30, h1', h2']
          by_cases hlt2 : a + 1 < n
          · have c2 : lc_in (nI (a + 1)) 120 := nI_in (by omega) (by decide)
            rw [if_neg (nI_ge hlt2 (by omega)), lc_chk_pos c2, lc_bnd_eq (lc_igQ _ _)]
            by_cases hg2 : lc_ig (lcI (lcUI z 80 13 (nI (a + 1))) 81 (nI (a + 1)).toNatClampNeg) = 0
            · rw [if_pos hg2]
            · rw [if_neg hg2, if_pos (show (5 : Int32) ≤ nI (4 + 1) by decide)]
          · rw [if_pos (nI_le (by omega) (by omega))]
    · have : a = n := by omega
      subst this
      refine ⟨y, z, lc_kp4.rf, lc_kp8.rf, Or.inl ⟨v, a, hv4, Nat.le_refl _, ha, h2, h13, ?_, t, by omega, ?_⟩⟩
      · rw [fR_readNumber_7, hy.2.1, h2, if_pos (nI_le (Nat.le_refl _) (by omega))]; rfl
      · rw [fQ_number_30, hz.1, h13, if_pos (nI_le (Nat.le_refl _) (by omega))]
/-- a number behind its first digit -/
theorem lc_k8b {z z' : lc_S} (h : lc_kp8 z z') : lcI z' 80 14 = lcI z 80 14 := h.1 _ _ (by omega)
/-- reference: bad, or at a place -/
def lc_kp9 (z z' : lc_S) : Prop := (∀ c k, ¬ (c = 80 ∧ (k = 13 ∨ k = 14)) → lcI z' c k = lcI z c k) ∧ (∀ c k, lcL z' c k = lcL z c k) ∧ ∀ c k, lcR z' c k = lcR z c k
theorem lc_kp9.rf {y : lc_S} : lc_kp9 y y := ⟨fun _ _ _ => rfl, fun _ _ => rfl, fun _ _ => rfl⟩
theorem lc_kp9.tr {x y z : lc_S} (h : lc_kp9 x y) (g : lc_kp9 y z) : lc_kp9 x z := ⟨fun c k a => (g.1 c k a).trans (h.1 c k a), fun c k => (g.2.1 c k).trans (h.2.1 c k), fun c k => (g.2.2 c k).trans (h.2.2 c k)⟩
theorem lc_kp8.n {x y : lc_S} (h : lc_kp8 x y) : lc_kp9 x y := ⟨fun c k a => h.1 c k (by omega), h.2.1, h.2.2⟩
theorem lc_kp9.u {y : lc_S} (v : Int32) : lc_kp9 y (lcUI y 80 14 v) := ⟨fun c' k' a => by rw [lcI_UI, if_neg (by omega)], fun _ _ => rfl, fun _ _ => rfl⟩
theorem lc_txQ9 {z z' : lc_S} {tx : Nat → Int32} {n : Nat} (k : lc_kp9 z z') (h : lc_txQ z tx n) : lc_txQ z' tx n := ⟨by rw [k.1 _ _ (by omega)]; exact h.1, h.2.1, fun j hj => by rw [k.1 _ _ (by omega)]; exact h.2.2 j hj⟩
theorem lc_txA4 {y y' : lc_S} {tx : Nat → Int32} {n : Nat} (k : lc_kp4 y y') (h : lc_txA y tx n) : lc_txA y' tx n := ⟨by rw [k.2.2]; exact h.1, by rw [k.1 _ _ (by omega)]; exact h.2.1, h.2.2.1, fun j hj => by rw [k.1 _ _ (by omega)]; exact h.2.2.2 j hj⟩
/-- a number: class from its first digit s, reference from before -/
theorem lc_number {tx : Nat → Int32} {n a : Nat} (ht : lc_tk tx n) (y z : lc_S) (hy : lc_txA y tx n) (hz : lc_txQ z tx n) (hb : lcI z 80 14 = 0) (hlt : lc_at tx n a < n) (h2 : lcI y 4 2 = nI (lc_at tx n a + 1)) (h13 : lcI z 80 13 = nI a) (ha : a ≤ n) (hg : lc_ig (lc_sg tx n a) ≠ 0) :
    ∃ y' z', lc_kp4 y y' ∧ lc_kp9 z z' ∧ ((∃ v a', v < 10000 ∧ lc_at tx n a < a' ∧ a' ≤ n ∧ lcI y' 4 2 = nI a' ∧ lcI z' 80 13 = nI a' ∧ lcI z' 80 14 = 0 ∧ fR_readNumber (lc_sg tx n a) y = some (nI v, y') ∧ fQ_number z = some (nI v, z')) ∨ (fR_readNumber (lc_sg tx n a) y = some (-1, y') ∧ ∃ x, fQ_number z = some (x, z') ∧ lcI z' 80 14 = 1)) := by
  have hn := hy.2.2.1
  obtain ⟨z1, e1, e2, e3, e4⟩ := lc_pkQ hz h13 (by omega)
  obtain ⟨d, dd1, dd2, dd3⟩ := ht _ hlt
  have es : lc_sg tx n a = nI d := by unfold lc_sg; rw [if_pos hlt]; exact dd3
  have hd := lc_ig_nI (v := d) (by omega) (by rw [← es]; exact hg)
  have c1 : lc_in (nI (lc_at tx n a)) 120 := nI_in (by omega) (by decide)
  have d1 : (nI (lc_at tx n a)).toNatClampNeg = lc_at tx n a := nI_clamp (by omega)
  obtain ⟨z2, ez2⟩ : ∃ x, x = lcUI (lcUI z1 80 14 0) 80 13 (nI (lc_at tx n a + 1)) := ⟨_, rfl⟩
  have k02 : lc_kp9 z z2 := by rw [ez2]; exact (e3.n.tr (lc_kp9.u _)).tr (lc_kp8.u _).n
  obtain ⟨f', hf'⟩ : ∃ f', lc_FU = f' + 1 := ⟨lc_FU - 1, by unfold lc_FU; omega⟩
  have z1t := lc_txQ9 e3.n hz
  have hfirst : fQ_number z = fQ_number_30 f' (nI (d - 48)) (nI 1) z2 := by
    rw [fQ_number, if_pos hb, lc_bnd_eq e1, lc_bnd_eq (lc_igQ _ z1), if_neg hg, fQ_number_27, lc_chk_pos (Or.inl rfl), hf', fQ_number_30]
    have w1 : lcI (lcUI z1 80 14 0) 80 1 = nI n := by rw [lcI_UI, if_neg (by omega)]; exact z1t.1
    have w2 : lcI (lcUI z1 80 14 0) 80 13 = nI (lc_at tx n a) := by rw [lcI_UI, if_neg (by omega)]; exact e2
    have w3 : lcI (lcUI z1 80 14 0) 81 (lc_at tx n a) = nI d := by rw [lcI_UI, if_neg (by omega), z1t.2.2 _ hlt]; exact dd3
    rw [w1, w2, if_neg (nI_ge hlt (by omega))]
    simp only [lc_chk_pos c1, d1, w3]
    rw [lc_bnd_eq (lc_igQ _ _), if_neg (by rw [← es]; exact hg), if_neg (by decide)]
    simp only [w2, lc_chk_pos c1, d1, w3, lc_let_eq, nI_1]
    rw [show ((10 : Int32) * 0 + nI d - 48) = nI (d - 48) by
      have := lc_dig (v := 0) hd.1
      rw [show 10 * 0 + (d - 48) = d - 48 by omega] at this
      exact this, ez2]
    rfl
  have hfA : fR_readNumber (lc_sg tx n a) y = fR_readNumber_7 lc_FU (nI (d - 48)) (nI 1) y := by
    rw [fR_readNumber, lc_let_eq, es, show (48 : Int32) = nI 48 from rfl, pk_sub hd.1]; rfl
  obtain ⟨y', z', k1, k2, h⟩ := lc_digits (tx := tx) (n := n) ht 3 (lc_at tx n a + 1) 1 (d - 48) lc_FU f' y z2 rfl (by decide) (by omega) (by unfold lc_FU; omega) (by unfold lc_FU at hf'; omega) hy (lc_txQ9 k02 hz) h2 (by rw [ez2]; simp only [lcI_UI, lcI_UL, lcI_UR, lcL_UI, lcL_UL, lcL_UR, lcR_UI, lcR_UL, lcR_UR, false_and, and_false, true_and, and_true, and_self, ↓reduceIte, Nat.reduceEqDiff, lc_let_eq]) (by omega)
  have hb2 : lcI z2 80 14 = 0 := by rw [ez2]; simp only [lcI_UI, lcI_UL, lcI_UR, lcL_UI, lcL_UL, lcL_UR, lcR_UI, lcR_UL, lcR_UR, false_and, and_false, true_and, and_true, and_self, ↓reduceIte, Nat.reduceEqDiff, lc_let_eq]
  rcases h with ⟨v', a', q1, q2, q3, q4, q5, q6, t', q7, q8⟩ | ⟨q1, x, q2, a', q3, q4⟩
  · have hb' : lcI z' 80 14 = 0 := by rw [lc_k8b k2]; exact hb2
    refine ⟨y', lcUI z' 80 14 0, k1, (k02.tr k2.n).tr (lc_kp9.u _), Or.inl ⟨v', a', q1, by omega, q3, q4, by rw [lcI_UI, if_neg (by omega)]; exact q5, by simp only [lcI_UI, lcI_UL, lcI_UR, lcL_UI, lcL_UL, lcL_UR, lcR_UI, lcR_UL, lcR_UR, false_and, and_false, true_and, and_true, and_self, ↓reduceIte, Nat.reduceEqDiff, lc_let_eq], by rw [hfA]; exact q6, ?_⟩⟩
    rw [hfirst, q8, fQ_number_95, if_pos hb', if_pos (show nI t' ≤ 4 from nI_le (b := 4) q7 (by decide)), fQ_number_113, lc_chk_pos (Or.inl rfl)]
  · have hb' : lcI z' 80 14 = 0 := by rw [lc_k8b k2]; exact hb2
    refine ⟨y', lcUI z' 80 14 1, k1, (k02.tr k2.n).tr (lc_kp9.u _), Or.inr ⟨by rw [hfA]; exact q1, x, ?_, by simp only [lcI_UI, lcI_UL, lcI_UR, lcL_UI, lcL_UL, lcL_UR, lcR_UI, lcR_UL, lcR_UR, false_and, and_false, true_and, and_true, and_self, ↓reduceIte, Nat.reduceEqDiff, lc_let_eq]⟩⟩
    rw [hfirst, q2, fQ_number_95, if_pos hb', if_neg (by decide), fQ_number_108, fQ_number_113, lc_chk_pos (Or.inr rfl)]
