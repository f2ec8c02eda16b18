/-! the expression begun last, its stage counted up from s: what a step may use -/
def lc_TP (y z : lc_S) (t b N P st : Nat) (dd : Nat → Nat) (ee : Nat → List lc_en) (o k D i p s : Nat) : Prop :=
  lc_C y z (t + 1) b N P ∧ lc_Es y z P N t dd ee ∧ N + lc_c1 y t + (if s = 1 then 1 else 0) ≤ b ∧ st + lc_c3 y t + (2 - s) ≤ 3 * b ∧ t + D ≤ 17 * dd t ∧ 0 < dd t ∧ dd t ≤ 24 ∧ k < 4 ∧ lc_sh o = (0, 1, 0) ∧ lcR y 29 (dd t) = some o ∧ (∀ j, j < t → dd j ≤ dd t ∧ (dd j = dd t → ∀ e ∈ ee j, e ∈ ee t)) ∧
  lcI y 31 t = nI i ∧ lcI y 32 t = nI (dd t) ∧ lcI y 33 t = nI (s + 1) ∧ lcI z 105 t = nI p ∧ lcI z 106 t = nI (120 * (k + 1)) ∧ lcI z 108 t = nI (dd t) ∧ lcI z 109 t = nI (s + 1) ∧ lc_CH y z P (dd t) (ee t) N (lcI z 107 t)
theorem lc_T_end {y z : lc_S} {t b N P st k' w o k D i p s : Nat} {dd : Nat → Nat} {ee : Nat → List lc_en} (h : lc_TP y z t b N P st dd ee o k D i p s) (ho : lc_okr P k' w) : ∃ y' z', fM_end (lc_cv k' w) y = some ((), y') ∧ fQ_answer (lc_mv k' w) z = some ((), z') ∧ lc_O y' z' st :=
  lc_endT h.1 h.2.1 (by have := h.2.2.1; omega) (by have := h.2.2.2.1; omega) ho
theorem lc_T_Es {y z : lc_S} {t b N P st o k D i p s lo hi : Nat} {dd : Nat → Nat} {ee : Nat → List lc_en} (h : lc_TP y z t b N P st dd ee o k D i p s) (hs : s ≤ 1) (hR : lc_R y z o (120 * (k + 1)) D lo i p hi (ee t)) (hk : s = 1 → lc_two (lcI y (o + 2) i) → ∃ k w, lc_okr P k w ∧ lcL y 34 t = lc_cv k w ∧ lcL z 110 t = lc_mv k w) : lc_Es y z P N (t + 1) dd ee := by
  obtain ⟨a1, a2, a3, a4, a5, a6, a7, a8, a9, a10, a11, a12, a13, a14, a15, a16, a17, a18, a19⟩ := h
  refine ⟨fun j hj => ?_, fun j j' hj hj' => ?_⟩
  · by_cases hjt : j = t
    · subst hjt
      exact ⟨o, k, D, lo, i, p, hi, s + 1, a12, a13, a14, a10, a9, a15, a16, a17, a18, a8, a6, a7, by omega, a5, hR, a19, fun g => hk (by omega)⟩
    · exact a2.1 j (by omega)
  · by_cases hjt : j' = t
    · subst hjt; exact a11 j hj
    · exact a2.2 j j' hj (by omega)
theorem lc_T_c1 {y z : lc_S} {t b N P st o k D i p s : Nat} {dd : Nat → Nat} {ee : Nat → List lc_en} (h : lc_TP y z t b N P st dd ee o k D i p s) (hs : s ≤ 1) : (N + lc_c1 y (t + 1) ≤ b + 1) ∧ (s = 1 → N + 2 + lc_c1 y (t + 1) ≤ b + 1) ∧ st + lc_c3 y (t + 1) ≤ 3 * b := by
  obtain ⟨a1, a2, a3, a4, a5, a6, a7, a8, a9, a10, a11, a12, a13, a14, a15, a16, a17, a18, a19⟩ := h
  rw [lc_c1, lc_c3, a14, nI_clamp (by omega)]
  obtain rfl | rfl : s = 0 ∨ s = 1 := by omega
  · rw [if_pos (show nI (0 + 1) = 1 by decide)]
    rw [if_neg (by decide)] at a3
    omega
  · rw [if_neg (show ¬ nI (1 + 1) = 1 by decide)]
    rw [if_pos rfl] at a3
    omega
/-- a part is begun: same call, same names -/
theorem lc_T_begin {y z : lc_S} {t b N P st o k D i p s lo hi lo' i' p' hi' : Nat} {dd : Nat → Nat} {ee : Nat → List lc_en} (h : lc_TP y z t b N P st dd ee o k (D + 1) i p s) (hs : s ≤ 1) (hR : lc_R y z o (120 * (k + 1)) (D + 1) lo i p hi (ee t)) (hk : s = 1 → lc_two (lcI y (o + 2) i) → ∃ k w, lc_okr P k w ∧ lcL y 34 t = lc_cv k w ∧ lcL z 110 t = lc_mv k w)
    (hR' : lc_R y z o (120 * (k + 1)) D lo' i' p' hi' (ee t)) : ∃ y' z', fM_begin (nI i') (nI (dd t)) y = some ((), y') ∧ fQ_enter (nI (120 * (k + 1))) (nI p') (lcI z 107 t) (nI (dd t)) z = some ((), z') ∧ lc_O y' z' st := by
  have hE := lc_T_Es h hs hR hk
  have hc := lc_T_c1 h hs
  obtain ⟨a1, a2, a3, a4, a5, a6, a7, a8, a9, a10, a11, a12, a13, a14, a15, a16, a17, a18, a19⟩ := h
  refine lc_beginT a1 hE hc.1 hc.2.2 (fun j hj => ?_) a10 a9 a8 a6 a7 (by omega) hR' a19
  by_cases hjt : j = t
  · subst hjt; exact ⟨Nat.le_refl _, fun _ e he => he⟩
  · exact a11 j (by omega)
/-- the heap changes, all else stays -/
theorem lc_T_mem {y z y' z' : lc_S} {t b N P P' st o k D i p s : Nat} {dd : Nat → Nat} {ee : Nat → List lc_en} (h : lc_TP y z t b N P st dd ee o k D i p s) (hP : P ≤ P') (hM : lc_M2 y' z' P') (hI : ∀ c k, ¬ (20 ≤ c ∧ c ≤ 22) → lcI y' c k = lcI y c k) (hL : ∀ c k, ¬ ((c = 23 ∨ c = 24) ∧ P ≤ k) → lcL y' c k = lcL y c k) (hR : ∀ c k, lcR y' c k = lcR y c k)
    (hI' : ∀ c k, ¬ (c = 80 ∧ (k = 49 ∨ k = 50 ∨ k = 53)) → ¬ (c = 115 ∨ c = 116) → lcI z' c k = lcI z c k) (hL' : ∀ c k, ¬ ((c = 117 ∨ c = 118) ∧ P ≤ k) → lcL z' c k = lcL z c k) : lc_TP y' z' t b N P' st dd ee o k D i p s := by
  obtain ⟨⟨b1, b2, b3, b4, b5, b6, b7, b8, b9, b10, b11⟩, a2, a3, a4, a5, a6, a7, a8, a9, a10, a11, a12, a13, a14, a15, a16, a17, a18, a19⟩ := h
  have sy : lc_sy y y' := fun c k h h' => hI c k (by omega)
  have sz : lc_sz z z' := fun c k h h' => hI' c k (by omega) (by omega)
  have q : ∀ q, q < P → lcL y' 23 q = lcL y 23 q ∧ lcL y' 24 q = lcL y 24 q := fun q hq => ⟨hL _ _ (by omega), hL _ _ (by omega)⟩
  refine ⟨⟨?_, ?_, ?_, ?_, b5, ?_, ?_, ?_, ?_, hM, lc_PR_eq sy sz (fun k => hR _ _) b11⟩, ?_, ?_, ?_, a5, a6, a7, a8, a9, ?_, a11, ?_, ?_, ?_, ?_, ?_, ?_, ?_, ?_⟩
  · rw [hI _ _ (by omega)]; exact b1
  · rw [hI' _ _ (by omega) (by omega)]; exact b2
  · rw [hI _ _ (by omega)]; exact b3
  · rw [hI' _ _ (by omega) (by omega)]; exact b4
  · rw [hI _ _ (by omega)]; exact b6
  · rw [hI' _ _ (by omega) (by omega)]; exact b7
  · rw [hI' _ _ (by omega) (by omega)]; exact b8
  · rw [hR]; exact b9
  · refine lc_Es_eq (W := fun _ => False) (V := fun _ => False) ⟨sy, fun j hj => ⟨hI _ _ (by omega), hI _ _ (by omega), hI _ _ (by omega), hL _ _ (by omega)⟩, q, fun a _ => hL _ _ (by omega), fun d _ => hR _ _⟩ ⟨sz, fun j hj => ⟨hI' _ _ (by omega) (by omega), hI' _ _ (by omega) (by omega), hI' _ _ (by omega) (by omega), hI' _ _ (by omega) (by omega), hI' _ _ (by omega) (by omega), hL' _ _ (by omega)⟩, fun j hj => ⟨hI' _ _ (by omega) (by omega), hI' _ _ (by omega) (by omega), hL' _ _ (by omega), hI' _ _ (by omega) (by omega)⟩⟩ hP (Nat.le_refl _) (fun _ _ _ _ h => h) (fun _ _ h => h) a2
  · rw [lc_c1_eq (y := y) t (fun j _ => hI _ _ (by omega))]; exact a3
  · rw [lc_c3_eq (y := y) t (fun j _ => hI _ _ (by omega))]; exact a4
  · rw [hR]; exact a10
  · rw [hI _ _ (by omega)]; exact a12
  · rw [hI _ _ (by omega)]; exact a13
  · rw [hI _ _ (by omega)]; exact a14
  · rw [hI' _ _ (by omega) (by omega)]; exact a15
  · rw [hI' _ _ (by omega) (by omega)]; exact a16
  · rw [hI' _ _ (by omega) (by omega)]; exact a17
  · rw [hI' _ _ (by omega) (by omega)]; exact a18
  · rw [hI' _ _ (by omega) (by omega)]
    exact lc_CH_eq q hP (ee t) N _ (fun e he => hL _ _ (by omega)) (fun j hj => ⟨hI' _ _ (by omega) (by omega), hI' _ _ (by omega) (by omega), hL' _ _ (by omega), hI' _ _ (by omega) (by omega)⟩) N (Nat.le_refl _) a19
/-- from what holds between steps -/
theorem lc_J_T {y z : lc_S} {t b N P st : Nat} (h : lc_J y z (t + 1) b N P st) : ∃ dd ee o k D lo i p hi s, s ≤ 2 ∧ t < 408 ∧ lcI y 19 11 = nI (t + 1) ∧ lcI z 80 33 = nI (t + 1) ∧ lcI y 31 t = nI i ∧ lcI y 32 t = nI (dd t) ∧ lcI y 33 t = nI s ∧ lcR y 29 (dd t) = some o ∧ lc_sh o = (0, 1, 0) ∧ dd t ≤ 24 ∧ lcI z 105 t = nI p ∧ lcI z 106 t = nI (120 * (k + 1)) ∧ lcI z 109 t = nI s ∧ k < 4 ∧ N ≤ 2000 ∧
    lc_R (lcUI y 33 t (nI (s + 1))) (lcUI z 109 t (nI (s + 1))) o (120 * (k + 1)) D lo i p hi (ee t) ∧ lc_TP (lcUI y 33 t (nI (s + 1))) (lcUI z 109 t (nI (s + 1))) t b N P (st + 1) dd ee o k D i p s ∧ (s ≠ 0 → lc_V (lcUI y 33 t (nI (s + 1))) (lcUI z 109 t (nI (s + 1))) P) ∧
    (2 ≤ s → lc_two (lcI (lcUI y 33 t (nI (s + 1))) (o + 2) i) → ∃ k w, lc_okr P k w ∧ lcL y 34 t = lc_cv k w ∧ lcL z 110 t = lc_mv k w) := by
  obtain ⟨⟨b1, b2, b3, b4, b5, b6, b7, b8, b9, b10, b11⟩, ⟨dd, ee, e1, e2⟩, h1, h3, hV⟩ := h
  obtain ⟨o, k, D, lo, i, p, hi, s, a1, a2, a3, a4, a5, a6, a7, a8, a9, a10, a11, a12, a13, a14, a15, a16, a17⟩ := e1 t (by omega)
  have hD := lc_R_D a15
  have ho := lc_o a5
  have sy : lc_sy y (lcUI y 33 t (nI (s + 1))) := fun c k h h' => by rw [lcI_UI, if_neg (by omega)]
  have sz : lc_sz z (lcUI z 109 t (nI (s + 1))) := fun c k h h' => by rw [lcI_UI, if_neg (by omega)]
  refine ⟨dd, ee, o, k, D, lo, i, p, hi, s, a13, by omega, b1, b2, a1, a2, a3, a4, a5, a12, a6, a7, a9, a10, by omega, lc_R_eq ho sy sz _ _ _ _ _ _ a15, ⟨⟨?_, ?_, ?_, ?_, b5, ?_, ?_, ?_, ?_, ?_, lc_PR_eq sy sz (fun k => rfl) b11⟩, ?_, ?_, ?_, a14, a11, a12, a10, a5, ?_, fun j hj => e2 j t hj (by omega), ?_, ?_, ?_, ?_, ?_, ?_, ?_, ?_⟩, fun hs => ?_, fun g1 g2 => ?_⟩
  · simp only [b1, lcI_UI, lcI_UL, lcI_UR, lcL_UI, lcL_UL, lcL_UR, lcR_UI, lcR_UL, lcR_UR, false_and, and_false, true_and, and_true, and_self, ↓reduceIte, Nat.reduceEqDiff, lc_let_eq]
  · simp only [b2, lcI_UI, lcI_UL, lcI_UR, lcL_UI, lcL_UL, lcL_UR, lcR_UI, lcR_UL, lcR_UR, false_and, and_false, true_and, and_true, and_self, ↓reduceIte, Nat.reduceEqDiff, lc_let_eq]
  · simp only [b3, lcI_UI, lcI_UL, lcI_UR, lcL_UI, lcL_UL, lcL_UR, lcR_UI, lcR_UL, lcR_UR, false_and, and_false, true_and, and_true, and_self, ↓reduceIte, Nat.reduceEqDiff, lc_let_eq]
  · simp only [b4, lcI_UI, lcI_UL, lcI_UR, lcL_UI, lcL_UL, lcL_UR, lcR_UI, lcR_UL, lcR_UR, false_and, and_false, true_and, and_true, and_self, ↓reduceIte, Nat.reduceEqDiff, lc_let_eq]
  · simp only [b6, lcI_UI, lcI_UL, lcI_UR, lcL_UI, lcL_UL, lcL_UR, lcR_UI, lcR_UL, lcR_UR, false_and, and_false, true_and, and_true, and_self, ↓reduceIte, Nat.reduceEqDiff, lc_let_eq]
  · simp only [b7, lcI_UI, lcI_UL, lcI_UR, lcL_UI, lcL_UL, lcL_UR, lcR_UI, lcR_UL, lcR_UR, false_and, and_false, true_and, and_true, and_self, ↓reduceIte, Nat.reduceEqDiff, lc_let_eq]
  · simp only [b8, lcI_UI, lcI_UL, lcI_UR, lcL_UI, lcL_UL, lcL_UR, lcR_UI, lcR_UL, lcR_UR, false_and, and_false, true_and, and_true, and_self, ↓reduceIte, Nat.reduceEqDiff, lc_let_eq]
  · simp only [b9, lcI_UI, lcI_UL, lcI_UR, lcL_UI, lcL_UL, lcL_UR, lcR_UI, lcR_UL, lcR_UR, false_and, and_false, true_and, and_true, and_self, ↓reduceIte, Nat.reduceEqDiff, lc_let_eq]
  · refine lc_M2_eq (fun c k h h' => ?_) (fun c k h => rfl) (fun c k h h' => ?_) ?_ ?_ ?_ (fun c k h => rfl) b10
    · rw [lcI_UI, if_neg (by omega)]
    · rw [lcI_UI, if_neg (by omega)]
    · simp only [lcI_UI, lcI_UL, lcI_UR, lcL_UI, lcL_UL, lcL_UR, lcR_UI, lcR_UL, lcR_UR, false_and, and_false, true_and, and_true, and_self, ↓reduceIte, Nat.reduceEqDiff, lc_let_eq]
    · simp only [lcI_UI, lcI_UL, lcI_UR, lcL_UI, lcL_UL, lcL_UR, lcR_UI, lcR_UL, lcR_UR, false_and, and_false, true_and, and_true, and_self, ↓reduceIte, Nat.reduceEqDiff, lc_let_eq]
    · simp only [lcI_UI, lcI_UL, lcI_UR, lcL_UI, lcL_UL, lcL_UR, lcR_UI, lcR_UL, lcR_UR, false_and, and_false, true_and, and_true, and_self, ↓reduceIte, Nat.reduceEqDiff, lc_let_eq]
  · refine lc_Es_eq (y := y) (z := z) (W := fun _ => False) (V := fun _ => False) ⟨sy, fun j hj => ?_, fun q _ => ⟨rfl, rfl⟩, fun a _ => rfl, fun d _ => rfl⟩ ⟨sz, fun j hj => ?_, fun j hj => ?_⟩ (Nat.le_refl _) (Nat.le_refl _) (fun _ _ _ _ h => h) (fun _ _ h => h) ⟨fun j hj => e1 j (by omega), fun j j' hj hj' => e2 j j' hj (by omega)⟩
    · have hne : ¬ j = t := by omega
      simp only [hne, lcI_UI, lcI_UL, lcI_UR, lcL_UI, lcL_UL, lcL_UR, lcR_UI, lcR_UL, lcR_UR, false_and, and_false, true_and, and_true, and_self, ↓reduceIte, Nat.reduceEqDiff, lc_let_eq]
    · have hne : ¬ j = t := by omega
      simp only [hne, lcI_UI, lcI_UL, lcI_UR, lcL_UI, lcL_UL, lcL_UR, lcR_UI, lcR_UL, lcR_UR, false_and, and_false, true_and, and_true, and_self, ↓reduceIte, Nat.reduceEqDiff, lc_let_eq]
    · simp only [lcI_UI, lcI_UL, lcI_UR, lcL_UI, lcL_UL, lcL_UR, lcR_UI, lcR_UL, lcR_UR, false_and, and_false, true_and, and_true, and_self, ↓reduceIte, Nat.reduceEqDiff, lc_let_eq]
  · rw [lc_c1_eq (y := y) t (fun j hj => by have hne : ¬ j = t := by omega
                                            simp only [hne, lcI_UI, lcI_UL, lcI_UR, lcL_UI, lcL_UL, lcL_UR, lcR_UI, lcR_UL, lcR_UR, false_and, and_false, true_and, and_true, and_self, ↓reduceIte, Nat.reduceEqDiff, lc_let_eq])]
    rw [lc_c1, a3] at h1
    by_cases hs : s = 1
    · rw [if_pos hs]; rw [hs, if_pos (by decide)] at h1; omega
    · rw [if_neg hs]; omega
  · rw [lc_c3_eq (y := y) t (fun j hj => by have hne : ¬ j = t := by omega
                                            simp only [hne, lcI_UI, lcI_UL, lcI_UR, lcL_UI, lcL_UL, lcL_UR, lcR_UI, lcR_UL, lcR_UR, false_and, and_false, true_and, and_true, and_self, ↓reduceIte, Nat.reduceEqDiff, lc_let_eq])]
    rw [lc_c3, a3, nI_clamp (by omega)] at h3
    omega
  · exact a4
  · simp only [a1, lcI_UI, lcI_UL, lcI_UR, lcL_UI, lcL_UL, lcL_UR, lcR_UI, lcR_UL, lcR_UR, false_and, and_false, true_and, and_true, and_self, ↓reduceIte, Nat.reduceEqDiff, lc_let_eq]
  · simp only [a2, lcI_UI, lcI_UL, lcI_UR, lcL_UI, lcL_UL, lcL_UR, lcR_UI, lcR_UL, lcR_UR, false_and, and_false, true_and, and_true, and_self, ↓reduceIte, Nat.reduceEqDiff, lc_let_eq]
  · simp only [lcI_UI, lcI_UL, lcI_UR, lcL_UI, lcL_UL, lcL_UR, lcR_UI, lcR_UL, lcR_UR, false_and, and_false, true_and, and_true, and_self, ↓reduceIte, Nat.reduceEqDiff, lc_let_eq]
  · simp only [a6, lcI_UI, lcI_UL, lcI_UR, lcL_UI, lcL_UL, lcL_UR, lcR_UI, lcR_UL, lcR_UR, false_and, and_false, true_and, and_true, and_self, ↓reduceIte, Nat.reduceEqDiff, lc_let_eq]
  · simp only [a7, lcI_UI, lcI_UL, lcI_UR, lcL_UI, lcL_UL, lcL_UR, lcR_UI, lcR_UL, lcR_UR, false_and, and_false, true_and, and_true, and_self, ↓reduceIte, Nat.reduceEqDiff, lc_let_eq]
  · simp only [a8, lcI_UI, lcI_UL, lcI_UR, lcL_UI, lcL_UL, lcL_UR, lcR_UI, lcR_UL, lcR_UR, false_and, and_false, true_and, and_true, and_self, ↓reduceIte, Nat.reduceEqDiff, lc_let_eq]
  · simp only [lcI_UI, lcI_UL, lcI_UR, lcL_UI, lcL_UL, lcL_UR, lcR_UI, lcR_UL, lcR_UR, false_and, and_false, true_and, and_true, and_self, ↓reduceIte, Nat.reduceEqDiff, lc_let_eq]
  · have e : lcI (lcUI z 109 t (nI (s + 1))) 107 t = lcI z 107 t := by simp only [lcI_UI, lcI_UL, lcI_UR, lcL_UI, lcL_UL, lcL_UR, lcR_UI, lcR_UL, lcR_UR, false_and, and_false, true_and, and_true, and_self, ↓reduceIte, Nat.reduceEqDiff, lc_let_eq]
    rw [e]
    exact lc_CH_eq (y := y) (z := z) (y' := lcUI y 33 t (nI (s + 1))) (z' := lcUI z 109 t (nI (s + 1))) (fun q _ => ⟨rfl, rfl⟩) (Nat.le_refl _) (ee t) N _ (fun e he => rfl) (fun j hj => by simp only [lcI_UI, lcI_UL, lcI_UR, lcL_UI, lcL_UL, lcL_UR, lcR_UI, lcR_UL, lcR_UR, false_and, and_false, true_and, and_true, and_self, ↓reduceIte, Nat.reduceEqDiff, lc_let_eq]) N (Nat.le_refl _) a16
  · have hv := hV (Or.inr (by rw [Nat.add_sub_cancel, a3]; exact nI_ne0 (by omega) (by omega)))
    exact hv
  · exact a17 g1 (by rw [sy _ _ (by omega) (by omega)] at g2; exact g2)
