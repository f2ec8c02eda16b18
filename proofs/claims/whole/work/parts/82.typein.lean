/-! written types: the reference reads its row from behind -/
def lc_kV (z z' : lc_S) : Prop := (∀ c k, ¬ (c = 80 ∧ (k = 23 ∨ k = 25)) → ¬ (97 ≤ c ∧ c ≤ 99) → lcI z' c k = lcI z c k) ∧ (∀ c k, lcL z' c k = lcL z c k) ∧ ∀ c k, lcR z' c k = lcR z c k
theorem lc_kV.rf {y : lc_S} : lc_kV y y := ⟨fun _ _ _ _ => rfl, fun _ _ => rfl, fun _ _ => rfl⟩
theorem lc_kV.tr {x y z : lc_S} (h : lc_kV x y) (g : lc_kV y z) : lc_kV x z := ⟨fun c k a b => (g.1 c k a b).trans (h.1 c k a b), fun c k => (g.2.1 c k).trans (h.2.1 c k), fun c k => (g.2.2 c k).trans (h.2.2 c k)⟩
theorem lc_kQ.v {x y : lc_S} (h : lc_kQ x y) : lc_kV x y := ⟨fun c k a b => h.1 c k (by omega) (by omega), h.2.1, h.2.2⟩
theorem lc_kV.u {y : lc_S} (k : Nat) (v : Int32) : lc_kV y (lcUI y 97 k v) := ⟨fun c k' a b => by rw [lcI_UI, if_neg (by omega)], fun _ _ => rfl, fun _ _ => rfl⟩
theorem lc_kV.h {y : lc_S} (v : Int32) : lc_kV y (lcUI y 80 23 v) := ⟨fun c k' a b => by rw [lcI_UI, if_neg (by omega)], fun _ _ => rfl, fun _ _ => rfl⟩
theorem lc_TQ_eq {z z' : lc_S} {δ : Nat → lc_tp} {n : Nat} (e : lcI z' 80 25 = lcI z 80 25) (e8 : ∀ j, lcI z' 98 j = lcI z 98 j) (e9 : ∀ j, lcI z' 99 j = lcI z 99 j) (h : lc_TQ z δ n) : lc_TQ z' δ n := by
  obtain ⟨h1, h2, h3, h4, h5, h13, h15⟩ := h
  exact ⟨by rw [e]; exact h1, h2, h3, h4, h5, fun t a b => by rw [e8, e9]; exact h13 t a b, h15⟩
theorem lc_m1 (x : Int32) : x + (-1) = x - 1 := (Int32.sub_eq_add_neg x 1).symm
theorem lc_ileaf {z : lc_S} {p base lo h f : Nat} {v w : Int32} (hp : lc_sh p = (1, 0, 600)) (hv : lcI z p (base + lo) = v) (v3 : v ≠ 40) (hw : w = if v = 105 then 0 else 1) (hl : base + lo < 600) (h23 : lcI z 80 23 = nI h) (hh : h < 128) : fQ_typeIn_26 (f + 1) p (nI base) (nI (lo + 1) - 1) z = fQ_typeIn_26 f p (nI base) (nI lo - 1) (lcUI (lcUI z 97 h w) 80 23 (nI (h + 1))) := by
  have c1 : lc_in (nI (base + lo)) 600 := nI_in hl (by decide)
  have d1 : (nI (base + lo)).toNatClampNeg = base + lo := nI_clamp (by omega)
  have c2 : lc_in (nI h) 128 := nI_in hh (by decide)
  have d2 : (nI h).toNatClampNeg = h := nI_clamp (by omega)
  have n1 : ¬ nI lo < 0 := nI_pos (by omega)
  rw [nI_pred, hw]
  by_cases h5 : v = 105
  · simp only [fQ_typeIn_26, fQ_typeIn_114, fQ_typeIn_125, n1, lc_chk_pos hp, nI_add, lc_chk_pos c1, d1, hv, v3, h5, h23, lc_chk_pos c2, d2, nI_1, lc_m1, lcI_UI, lcI_UL, lcI_UR, lcL_UI, lcL_UL, lcL_UR, lcR_UI, lcR_UL, lcR_UR, false_and, and_false, true_and, and_true, and_self, ↓reduceIte, Nat.reduceEqDiff, lc_let_eq]
    rw [if_neg (by decide)]
  · simp only [fQ_typeIn_26, fQ_typeIn_114, fQ_typeIn_125, n1, lc_chk_pos hp, nI_add, lc_chk_pos c1, d1, hv, v3, h5, h23, lc_chk_pos c2, d2, nI_1, lc_m1, lcI_UI, lcI_UL, lcI_UR, lcL_UI, lcL_UL, lcL_UR, lcR_UI, lcR_UL, lcR_UR, false_and, and_false, true_and, and_true, and_self, ↓reduceIte, Nat.reduceEqDiff, lc_let_eq]
theorem lc_wrQ {p base : Nat} (hp : lc_sh p = (1, 0, 600)) (hp' : p = 90 ∨ p = 91) : ∀ (τ : lc_tp) (lo hi h : Nat) (z : lc_S) (δ : Nat → lc_tp) (n : Nat), lc_xf (fun j => lcI z p (base + j)) τ lo hi → h + lc_pd τ ≤ 4 → base + hi ≤ 600 → lc_TQ z δ n → n + lc_pc τ ≤ 340 → lcI z 80 23 = nI h →
    ∃ z' δ' n' t, (∀ f, fQ_typeIn_26 (f + (hi - lo)) p (nI base) (nI hi - 1) z = fQ_typeIn_26 f p (nI base) (nI lo - 1) z') ∧ lc_TQ z' δ' n' ∧ n ≤ n' ∧ n' ≤ n + lc_pc τ ∧ lcI z' 80 23 = nI (h + 1) ∧ lcI z' 97 h = nI t ∧ t < n' ∧ δ' t = τ ∧ (∀ s, s < n → δ' s = δ s) ∧ (∀ j, j < h → lcI z' 97 j = lcI z 97 j) ∧ lc_kV z z'
  | .nil, lo, hi, h, z, δ, n, hx, hd, h62, hT, hn, h23 => by
    obtain ⟨rfl, hx⟩ := hx
    refine ⟨lcUI (lcUI z 97 h 0) 80 23 (nI (h + 1)), δ, n, 0, fun f => ?_, lc_TQ_eq (by simp only [lcI_UI, lcI_UL, lcI_UR, lcL_UI, lcL_UL, lcL_UR, lcR_UI, lcR_UL, lcR_UR, false_and, and_false, true_and, and_true, and_self, ↓reduceIte, Nat.reduceEqDiff, lc_let_eq]) (fun j => by simp only [lcI_UI, lcI_UL, lcI_UR, lcL_UI, lcL_UL, lcL_UR, lcR_UI, lcR_UL, lcR_UR, false_and, and_false, true_and, and_true, and_self, ↓reduceIte, Nat.reduceEqDiff, lc_let_eq]) (fun j => by simp only [lcI_UI, lcI_UL, lcI_UR, lcL_UI, lcL_UL, lcL_UR, lcR_UI, lcR_UL, lcR_UR, false_and, and_false, true_and, and_true, and_self, ↓reduceIte, Nat.reduceEqDiff, lc_let_eq]) hT, Nat.le_refl _, by omega, by simp only [lcI_UI, lcI_UL, lcI_UR, lcL_UI, lcL_UL, lcL_UR, lcR_UI, lcR_UL, lcR_UR, false_and, and_false, true_and, and_true, and_self, ↓reduceIte, Nat.reduceEqDiff, lc_let_eq], by simp only [lcI_UI, lcI_UL, lcI_UR, lcL_UI, lcL_UL, lcL_UR, lcR_UI, lcR_UL, lcR_UR, false_and, and_false, true_and, and_true, and_self, ↓reduceIte, Nat.reduceEqDiff, lc_let_eq]; rfl, by have := hT.2.1; omega, hT.2.2.2.1, fun _ _ => rfl, fun j hj => by rw [lcI_UI, if_neg (by omega), lcI_UI, if_neg (by omega)], (lc_kV.u _ _).tr (lc_kV.h _)⟩
    rw [show f + (lo + 1 - lo) = f + 1 by omega]
    exact lc_ileaf hp hx (by decide) rfl (by omega) h23 (by omega)
  | .line, lo, hi, h, z, δ, n, hx, hd, h62, hT, hn, h23 => by
    obtain ⟨rfl, hx⟩ := hx
    refine ⟨lcUI (lcUI z 97 h 1) 80 23 (nI (h + 1)), δ, n, 1, fun f => ?_, lc_TQ_eq (by simp only [lcI_UI, lcI_UL, lcI_UR, lcL_UI, lcL_UL, lcL_UR, lcR_UI, lcR_UL, lcR_UR, false_and, and_false, true_and, and_true, and_self, ↓reduceIte, Nat.reduceEqDiff, lc_let_eq]) (fun j => by simp only [lcI_UI, lcI_UL, lcI_UR, lcL_UI, lcL_UL, lcL_UR, lcR_UI, lcR_UL, lcR_UR, false_and, and_false, true_and, and_true, and_self, ↓reduceIte, Nat.reduceEqDiff, lc_let_eq]) (fun j => by simp only [lcI_UI, lcI_UL, lcI_UR, lcL_UI, lcL_UL, lcL_UR, lcR_UI, lcR_UL, lcR_UR, false_and, and_false, true_and, and_true, and_self, ↓reduceIte, Nat.reduceEqDiff, lc_let_eq]) hT, Nat.le_refl _, by omega, by simp only [lcI_UI, lcI_UL, lcI_UR, lcL_UI, lcL_UL, lcL_UR, lcR_UI, lcR_UL, lcR_UR, false_and, and_false, true_and, and_true, and_self, ↓reduceIte, Nat.reduceEqDiff, lc_let_eq], by simp only [lcI_UI, lcI_UL, lcI_UR, lcL_UI, lcL_UL, lcL_UR, lcR_UI, lcR_UL, lcR_UR, false_and, and_false, true_and, and_true, and_self, ↓reduceIte, Nat.reduceEqDiff, lc_let_eq]; rfl, by have := hT.2.1; omega, hT.2.2.2.2.1, fun _ _ => rfl, fun j hj => by rw [lcI_UI, if_neg (by omega), lcI_UI, if_neg (by omega)], (lc_kV.u _ _).tr (lc_kV.h _)⟩
    rw [show f + (lo + 1 - lo) = f + 1 by omega]
    exact lc_ileaf hp hx (by decide) rfl (by omega) h23 (by omega)
  | .append a b, lo, hi, h, z, δ, n, hx, hd, h62, hT, hn, h23 => by
    obtain ⟨m, p1, p2, p3⟩ := hx
    rw [lc_pd] at hd
    rw [lc_pc] at hn
    have m1 : lc_pd a ≤ Nat.max (lc_pd a) (lc_pd b) := Nat.le_max_left _ _
    have m2 : lc_pd b ≤ Nat.max (lc_pd a) (lc_pd b) := Nat.le_max_right _ _
    have l1 := (lc_xf_lt a (lo + 1) m p2).1
    have l2 := (lc_xf_lt b m hi p3).1
    obtain ⟨z1, δ1, n1, t1, a1, a2, a3, a4, a5, a6, a7, a8, a9, a10, a11⟩ := lc_wrQ hp hp' b m hi h z δ n p3 (by omega) (by omega) hT (by omega) h23
    have e1 : ∀ j, lcI z1 p (base + j) = lcI z p (base + j) := fun j => a11.1 _ _ (by omega) (by omega)
    obtain ⟨z2, δ2, n2, t2, b1, b2, b3, b4, b5, b6, b7, b8, b9, b10, b11⟩ := lc_wrQ hp hp' a (lo + 1) m (h + 1) z1 δ1 n1 (lc_xf_eq a (lo + 1) m (fun j _ _ => e1 j) p2) (by omega) (by omega) a2 (by omega) a5
    have w1 : lcI z2 97 h = nI t1 := by rw [b10 h (by omega)]; exact a6
    obtain ⟨t, z3, δ3, n3, c1, c2, c3, c4, c5, c6, c7, c8, c9⟩ := lc_pairQ (z := lcUI z2 80 23 (nI (h + 1))) (a := t2) (b := t1) (lc_TQ_eq (by simp only [lcI_UI, lcI_UL, lcI_UR, lcL_UI, lcL_UL, lcL_UR, lcR_UI, lcR_UL, lcR_UR, false_and, and_false, true_and, and_true, and_self, ↓reduceIte, Nat.reduceEqDiff, lc_let_eq]) (fun j => by simp only [lcI_UI, lcI_UL, lcI_UR, lcL_UI, lcL_UL, lcL_UR, lcR_UI, lcR_UL, lcR_UR, false_and, and_false, true_and, and_true, and_self, ↓reduceIte, Nat.reduceEqDiff, lc_let_eq]) (fun j => by simp only [lcI_UI, lcI_UL, lcI_UR, lcL_UI, lcL_UL, lcL_UR, lcR_UI, lcR_UL, lcR_UR, false_and, and_false, true_and, and_true, and_self, ↓reduceIte, Nat.reduceEqDiff, lc_let_eq]) b2) (by omega) b7 (by omega)
    refine ⟨lcUI z3 97 h (nI t), δ3, n3, t, fun f => ?_, lc_TQ_eq (by simp only [lcI_UI, lcI_UL, lcI_UR, lcL_UI, lcL_UL, lcL_UR, lcR_UI, lcR_UL, lcR_UR, false_and, and_false, true_and, and_true, and_self, ↓reduceIte, Nat.reduceEqDiff, lc_let_eq]) (fun j => by simp only [lcI_UI, lcI_UL, lcI_UR, lcL_UI, lcL_UL, lcL_UR, lcR_UI, lcR_UL, lcR_UR, false_and, and_false, true_and, and_true, and_self, ↓reduceIte, Nat.reduceEqDiff, lc_let_eq]) (fun j => by simp only [lcI_UI, lcI_UL, lcI_UR, lcL_UI, lcL_UL, lcL_UR, lcR_UI, lcR_UL, lcR_UR, false_and, and_false, true_and, and_true, and_self, ↓reduceIte, Nat.reduceEqDiff, lc_let_eq]) c2, by omega, by rw [lc_pc]; omega, ?_, by rw [lcI_UI, if_pos ⟨rfl, rfl⟩], c6, by rw [c7, b9 t1 a7, a8, b8], fun s hs => by rw [c8 s (by omega), b9 s (by omega), a9 s hs], fun j hj => by rw [lcI_UI, if_neg (by omega), c9.1 _ _ (by omega) (by omega), lcI_UI, if_neg (by omega), b10 j (by omega), a10 j hj], (a11.tr b11).tr ((lc_kV.h _).tr (c9.v.tr (lc_kV.u _ _)))⟩
    · rw [show f + (hi - lo) = f + 1 + (m - (lo + 1)) + (hi - m) by omega, a1, b1]
      have d0 : lcI z2 p (base + lo) = 40 := by rw [b11.1 _ _ (by omega) (by omega), e1]; exact p1
      have q1 : lc_in (nI (base + lo)) 600 := nI_in (by omega) (by decide)
      have q2 : (nI (base + lo)).toNatClampNeg = base + lo := nI_clamp (by omega)
      have q3 : lc_in (nI h) 128 := nI_in (by omega) (by decide)
      have q4 : (nI h).toNatClampNeg = h := nI_clamp (by omega)
      have q5 : lc_in (nI (h + 1)) 128 := nI_in (by omega) (by decide)
      have q6 : (nI (h + 1)).toNatClampNeg = h + 1 := nI_clamp (by omega)
      have q7 : ¬ nI lo < 0 := nI_pos (by omega)
      have b5' : lcI z2 80 23 - 1 = nI (h + 1) := by rw [b5, nI_pred]
      rw [nI_pred, fQ_typeIn_26, if_neg q7, lc_chk_pos hp, nI_add, lc_chk_pos q1, q2, lc_let_eq, d0, if_pos rfl, b5']
      simp only [nI_pred, lc_chk_pos q3, lc_chk_pos q5, q4, q6, w1, b6, lcI_UI, lcI_UL, lcI_UR, lcL_UI, lcL_UL, lcL_UR, lcR_UI, lcR_UL, lcR_UR, false_and, and_false, true_and, and_true, and_self, ↓reduceIte, Nat.reduceEqDiff, lc_let_eq]
      rw [lc_bnd_eq c1, fQ_typeIn_125, lc_let_eq, lc_m1]
    · rw [lcI_UI, if_neg (by omega), c9.1 _ _ (by omega) (by omega)]; simp only [lcI_UI, lcI_UL, lcI_UR, lcL_UI, lcL_UL, lcL_UR, lcR_UI, lcR_UL, lcR_UR, false_and, and_false, true_and, and_true, and_self, ↓reduceIte, Nat.reduceEqDiff, lc_let_eq]
theorem lc_lenQ {p base len : Nat} {z : lc_S} (hp : lc_sh p = (1, 0, 600)) (hb : base + len < 600) (h0 : lcI z p (base + len) = 0) (hn : ∀ j, j < len → lcI z p (base + j) ≠ 0) : ∀ (m i f : Nat), i + m = len → m < f → fQ_typeIn_2 f p (nI base) (nI i) z = fQ_typeIn_26 lc_FU p (nI base) (nI len - 1) (lcUI z 80 23 0)
  | 0, i, f + 1, hi, _ => by
    have hi : i = len := by omega
    subst hi
    have c1 : lc_in (nI (base + i)) 600 := nI_in hb (by decide)
    have d1 : (nI (base + i)).toNatClampNeg = base + i := nI_clamp (by omega)
    rw [fQ_typeIn_2, lc_chk_pos hp, nI_add, lc_chk_pos c1, d1, if_pos h0, lc_let_eq]
  | m + 1, i, f + 1, hi, hf => by
    have c1 : lc_in (nI (base + i)) 600 := nI_in (by omega) (by decide)
    have d1 : (nI (base + i)).toNatClampNeg = base + i := nI_clamp (by omega)
    rw [fQ_typeIn_2, lc_chk_pos hp, nI_add, lc_chk_pos c1, d1, if_neg (hn i (by omega)), lc_let_eq, nI_1]
    exact lc_lenQ hp hb h0 hn m (i + 1) f (by omega) (by omega)
theorem lc_wroteQ {z : lc_S} {p base len : Nat} {τ : lc_tp} {δ : Nat → lc_tp} {n : Nat} (hp : lc_sh p = (1, 0, 600)) (hp' : p = 90 ∨ p = 91) (hx : lc_xf (fun j => lcI z p (base + j)) τ 0 len) (h0 : lcI z p (base + len) = 0) (hb : base + len < 600) (hd : lc_pd τ ≤ 4) (hT : lc_TQ z δ n) (hn : n + 15 ≤ 340) :
    ∃ z' δ' n' t, fQ_typeIn p (nI base) z = some (nI t, z') ∧ lc_TQ z' δ' n' ∧ n ≤ n' ∧ n' ≤ n + 15 ∧ t < n' ∧ δ' t = τ ∧ (∀ s, s < n → δ' s = δ s) ∧ lc_kV z z' := by
  have hc := lc_pc15 hd
  have e : ∀ j, lcI (lcUI z 80 23 0) p (base + j) = lcI z p (base + j) := fun j => by rw [lcI_UI, if_neg (by omega)]
  obtain ⟨z', δ', n', t, a1, a2, a3, a4, a5, a6, a7, a8, a9, a10, a11⟩ := lc_wrQ hp hp' τ 0 len 0 (lcUI z 80 23 0) δ n (lc_xf_eq τ 0 len (fun j _ _ => e j) hx) (by omega) (by omega) (lc_TQ_eq (by simp only [lcI_UI, lcI_UL, lcI_UR, lcL_UI, lcL_UL, lcL_UR, lcR_UI, lcR_UL, lcR_UR, false_and, and_false, true_and, and_true, and_self, ↓reduceIte, Nat.reduceEqDiff, lc_let_eq]) (fun j => by simp only [lcI_UI, lcI_UL, lcI_UR, lcL_UI, lcL_UL, lcL_UR, lcR_UI, lcR_UL, lcR_UR, false_and, and_false, true_and, and_true, and_self, ↓reduceIte, Nat.reduceEqDiff, lc_let_eq]) (fun j => by simp only [lcI_UI, lcI_UL, lcI_UR, lcL_UI, lcL_UL, lcL_UR, lcR_UI, lcR_UL, lcR_UR, false_and, and_false, true_and, and_true, and_self, ↓reduceIte, Nat.reduceEqDiff, lc_let_eq]) hT) (by omega) (by simp only [lcI_UI, lcI_UL, lcI_UR, lcL_UI, lcL_UL, lcL_UR, lcR_UI, lcR_UL, lcR_UR, false_and, and_false, true_and, and_true, and_self, ↓reduceIte, Nat.reduceEqDiff, lc_let_eq]; rfl)
  refine ⟨z', δ', n', t, ?_, a2, a3, by omega, a7, a8, a9, (lc_kV.h _).tr a11⟩
  have hl := lc_xf_lt τ 0 len hx
  have hlen := lc_lenQ (z := z) hp hb h0 (fun j hj => hl.2 j (by omega) hj) len 0 lc_FU (by omega) (by unfold lc_FU; omega)
  rw [fQ_typeIn]
  refine Eq.trans hlen ?_
  have := a1 (lc_FU - (len - 0))
  rw [show lc_FU - (len - 0) + (len - 0) = lc_FU by unfold lc_FU; omega] at this
  refine Eq.trans this ?_
  obtain ⟨f, ef⟩ : ∃ f, lc_FU - (len - 0) = f + 1 := ⟨lc_FU - (len - 0) - 1, by unfold lc_FU; omega⟩
  rw [ef, fQ_typeIn_26, if_pos (by decide)]
  show some (lcI z' 97 0, z') = _
  rw [a6]
