/-! steps by kinds: cells and pairs -/
theorem lc_pairT {y z : lc_S} {t b N P st o k D i p s k1 w1 k2 w2 : Nat} {dd : Nat → Nat} {ee : Nat → List lc_en} (h : lc_TP y z t b N P st dd ee o k D i p s) (o1 : lc_okr P k1 w1) (o2 : lc_okr P k2 w2) : ∃ y' z', fM_makePair (lc_cv k1 w1) (lc_cv k2 w2) y = some ((), y') ∧ fQ_pairUp (lc_mv k1 w1) (lc_mv k2 w2) z = some ((), z') ∧ lc_O y' z' st := by
  have hC : lc_C y z (t + 1) b N P := h.1
  obtain ⟨m1, m2, m3, m4, m5, m6, m7, m8⟩ := h.1.2.2.2.2.2.2.2.2.2.1
  by_cases hP : P < 120
  · obtain ⟨y1, ey⟩ : ∃ x, x = lcUI (lcUL (lcUL y 23 P (lc_cv k1 w1)) 24 P (lc_cv k2 w2)) 20 10 (nI (P + 1)) := ⟨_, rfl⟩
    obtain ⟨z1, ez⟩ : ∃ x, x = lcUI (lcUL (lcUL z 117 P (lc_mv k1 w1)) 118 P (lc_mv k2 w2)) 80 53 (nI (P + 1)) := ⟨_, rfl⟩
    have yI : ∀ c k, ¬ (c = 20 ∧ k = 10) → lcI y1 c k = lcI y c k := fun c k h => by rw [ey, lcI_UI, if_neg h, lcI_UL, lcI_UL]
    have yL : ∀ c k, ¬ ((c = 23 ∨ c = 24) ∧ k = P) → lcL y1 c k = lcL y c k := fun c k h => by rw [ey, lcL_UI, lcL_UL, if_neg (by omega), lcL_UL, if_neg (by omega)]
    have zI : ∀ c k, ¬ (c = 80 ∧ k = 53) → lcI z1 c k = lcI z c k := fun c k h => by rw [ez, lcI_UI, if_neg h, lcI_UL, lcI_UL]
    have zL : ∀ c k, ¬ ((c = 117 ∨ c = 118) ∧ k = P) → lcL z1 c k = lcL z c k := fun c k h => by rw [ez, lcL_UI, lcL_UL, if_neg (by omega), lcL_UL, if_neg (by omega)]
    have hM : lc_M2 y1 z1 (P + 1) := by
      refine ⟨fun j hj => ?_, ?_, ?_, ?_, ?_, by omega, ?_, fun q hq => ?_⟩
      · rw [yI _ _ (by omega), yI _ _ (by omega), zI _ _ (by omega), zI _ _ (by omega)]; exact m1 j hj
      · rw [yI _ _ (by omega), zI _ _ (by omega)]; exact m2
      · rw [yI _ _ (by omega), zI _ _ (by omega)]; exact m3
      · rw [ey]; simp only [lcI_UI, lcI_UL, lcI_UR, lcL_UI, lcL_UL, lcL_UR, lcR_UI, lcR_UL, lcR_UR, false_and, and_false, true_and, and_true, and_self, ↓reduceIte, Nat.reduceEqDiff, lc_let_eq]
      · rw [ez]; simp only [lcI_UI, lcI_UL, lcI_UR, lcL_UI, lcL_UL, lcL_UR, lcR_UI, lcR_UL, lcR_UR, false_and, and_false, true_and, and_true, and_self, ↓reduceIte, Nat.reduceEqDiff, lc_let_eq]
      · rw [yI _ _ (by omega), yI _ _ (by omega), lc_nf_eq (z := z) (fun j => zI _ _ (by omega))]; exact m7
      · by_cases hqP : q = P
        · subst hqP
          refine ⟨k1, w1, k2, w2, o1, o2, ?_, ?_, ?_, ?_⟩
          · rw [ey]; simp only [lcI_UI, lcI_UL, lcI_UR, lcL_UI, lcL_UL, lcL_UR, lcR_UI, lcR_UL, lcR_UR, false_and, and_false, true_and, and_true, and_self, ↓reduceIte, Nat.reduceEqDiff, lc_let_eq]
          · rw [ez]; simp only [lcI_UI, lcI_UL, lcI_UR, lcL_UI, lcL_UL, lcL_UR, lcR_UI, lcR_UL, lcR_UR, false_and, and_false, true_and, and_true, and_self, ↓reduceIte, Nat.reduceEqDiff, lc_let_eq]
          · rw [ey]; simp only [lcI_UI, lcI_UL, lcI_UR, lcL_UI, lcL_UL, lcL_UR, lcR_UI, lcR_UL, lcR_UR, false_and, and_false, true_and, and_true, and_self, ↓reduceIte, Nat.reduceEqDiff, lc_let_eq]
          · rw [ez]; simp only [lcI_UI, lcI_UL, lcI_UR, lcL_UI, lcL_UL, lcL_UR, lcR_UI, lcR_UL, lcR_UR, false_and, and_false, true_and, and_true, and_self, ↓reduceIte, Nat.reduceEqDiff, lc_let_eq]
        · obtain ⟨a, b, c, d, q1, q2, q3, q4, q5, q6⟩ := m8 q (by omega)
          exact ⟨a, b, c, d, q1, q2, by rw [yL _ _ (by omega)]; exact q3, by rw [zL _ _ (by omega)]; exact q4, by rw [yL _ _ (by omega)]; exact q5, by rw [zL _ _ (by omega)]; exact q6⟩
    have hT := lc_T_mem (y' := y1) (z' := z1) (P' := P + 1) h (by omega) hM (fun c k h => yI c k (by omega)) (fun c k h => yL c k (by omega)) (fun c k => by rw [ey]; rfl) (fun c k h h' => zI c k (by omega)) (fun c k h => zL c k (by omega))
    obtain ⟨y', z', e1, e2, e3⟩ := lc_T_end (k' := 3) (w := P) hT ⟨⟨by decide, by decide, by omega, fun _ => by omega⟩, fun h => absurd h (by decide)⟩
    have c1 : lc_in (nI P) 120 := nI_in hP (by decide)
    have d1 : (nI P).toNatClampNeg = P := nI_clamp (by omega)
    refine ⟨y', z', ?_, ?_, e3⟩
    · have ha : fY_addPair (lc_cv k1 w1) (lc_cv k2 w2) y = some (1, y1) := by
        have : nI P < 120 := nI_lt (b := 120) hP (by decide)
        simp only [fY_addPair, m4, this, lc_chk_pos c1, d1, ey, nI_1, lcI_UI, lcI_UL, lcI_UR, lcL_UI, lcL_UL, lcL_UR, lcR_UI, lcR_UL, lcR_UR, false_and, and_false, true_and, and_true, and_self, ↓reduceIte, Nat.reduceEqDiff, lc_let_eq]
      have hp : fY_pairsMade y1 = some (nI (P + 1), y1) := by rw [fY_pairsMade, ey]; simp only [lcI_UI, lcI_UL, lcI_UR, lcL_UI, lcL_UL, lcL_UR, lcR_UI, lcR_UL, lcR_UR, false_and, and_false, true_and, and_true, and_self, ↓reduceIte, Nat.reduceEqDiff, lc_let_eq]
      rw [fM_makePair, lc_bnd_eq ha, if_neg (by decide), lc_bnd_eq hp, nI_pred, lc_bnd_eq (lc_of3 (nI P) y1), lc_w_nI (by omega), lc_bnd_id]; exact e1
    · have hv : (8589934592 : Int64) + (nI (P + 1)).toInt64 - 1 = lc_mv 3 P := by
        rw [nI_l (by omega), show (8589934592 : Int64) = lN 8589934592 from rfl, lN_add, show (1 : Int64) = lN 1 from rfl, lN_sub (by omega), lc_mv]
        congr 1
      have hn : ¬ nI P = 120 := fun h' => by have := (nI_eq (b := 120) (show P < 2 ^ 31 by omega) (by decide)).mp h'; omega
      have hq : fQ_pairUp (lc_mv k1 w1) (lc_mv k2 w2) z = fQ_answer (lc_mv 3 P) z1 := by
        simp only [fQ_pairUp, m5, hn, lc_chk_pos c1, d1, ez, nI_1, lc_bnd_id, hv, lcI_UI, lcI_UL, lcI_UR, lcL_UI, lcL_UL, lcL_UR, lcR_UI, lcR_UL, lcR_UR, false_and, and_false, true_and, and_true, and_self, ↓reduceIte, Nat.reduceEqDiff, lc_let_eq]
      rw [hq]; exact e2
  · have hP2 : P = 120 := by omega
    refine ⟨_, _, ?_, ?_, Or.inr (lc_trapX (k := 2) (by decide) hC)⟩
    · rw [fM_makePair, lc_bnd_eq (show fY_addPair (lc_cv k1 w1) (lc_cv k2 w2) y = some (0, y) by rw [fY_addPair, m4, hP2, if_neg (by decide)]), if_pos rfl]
    · rw [fQ_pairUp, m5, hP2, if_pos (by decide), lc_bnd_eq (lc_stopQ 2 hC.2.2.2.2.2.2.1)]
theorem lc_freeA {y : lc_S} {w : Nat} (h : w < 12) : fY_isFree (nI w) y = some (if lcI y 21 w = 0 then 1 else 0, y) := by
  have c1 : lc_in (nI w) 12 := nI_in h (by decide)
  have d1 : (nI w).toNatClampNeg = w := nI_clamp (by omega)
  rw [fY_isFree, if_neg (nI_pos (by omega)), if_neg (show ¬ (12 : Int32) ≤ nI w from nI_ge (b := 12) h (by decide)), lc_chk_pos c1, d1]
  by_cases h0 : lcI y 21 w = 0
  · rw [if_pos h0, if_pos h0]; rfl
  · rw [if_neg h0, if_neg h0]
/-- a value that must be a cell whose place is not free -/
theorem lc_live {y z : lc_S} {P k w : Nat} (ho : lc_okr P k w) (h3 : lcI y 19 3 = 0) : fM_isLivingCell (lc_cv k w) y = if k = 2 then (if lcI y 21 w = 0 then some (0, lcUI y 19 3 1) else some (1, y)) else some (0, lcUI y 19 3 4) := by
  have e34 : ∀ k : Int32, k ≠ 0 → fM_isLivingCell_34 (lcUI y 19 3 k) = some (0, lcUI y 19 3 k) := fun k hk => by
    rw [fM_isLivingCell_34, if_neg (by simp only [lcI_UI, lcI_UL, lcI_UR, lcL_UI, lcL_UL, lcL_UR, lcR_UI, lcR_UL, lcR_UR, false_and, and_false, true_and, and_true, and_self, ↓reduceIte, Nat.reduceEqDiff, lc_let_eq]; exact hk)]
  rw [fM_isLivingCell, lc_bnd_eq (lc_isC ho.1.2.1 ho.1.2.2.1 y)]
  by_cases hk : k = 2
  · rw [if_pos hk, if_pos hk, if_neg (show ¬ (1 : Int32) = 0 by decide), lc_bnd_eq (lc_wo k w y), lc_bnd_eq (lc_freeA (ho.2 hk))]
    by_cases h0 : lcI y 21 w = 0
    · rw [if_pos h0, if_pos h0, if_neg (show ¬ (1 : Int32) = 0 by decide), e34 1 (by decide)]
    · rw [if_neg h0, if_neg h0, if_pos rfl, fM_isLivingCell_34, if_pos h3]
  · rw [if_neg hk, if_neg hk, if_pos rfl, e34 4 (by decide)]
theorem lc_numAt {y : lc_S} {w : Nat} (h : w < 12) (h0 : lcI y 21 w ≠ 0) : fY_numberAt (nI w) y = some (lcI y 22 w, y) := by
  have c1 : lc_in (nI w) 12 := nI_in h (by decide)
  have d1 : (nI w).toNatClampNeg = w := nI_clamp (by omega)
  rw [fY_numberAt, lc_bnd_eq (lc_freeA h), if_neg h0, if_pos rfl, lc_chk_pos c1, d1]
theorem lc_one29 {z : lc_S} {w : Nat} {x1 : Int32} (hw : w < 12) (hx : x1 ≠ 110) : fQ_one_29 x1 (lc_mv 2 w) z = if lcI z 115 w = 0 then fQ_stop 1 z else if x1 = 103 then lc_bnd (fQ_plain ((lcI z 116 w).toInt64) z) (fun r z' => fQ_pairUp r (lc_mv 2 w) z') else lc_bnd (fQ_plain ((lcI z 116 w).toInt64) (lcUI (lcUI z 115 w 0) 80 50 (lcI z 80 50 + 1))) fQ_answer := by
  have c1 : lc_in (nI w) 12 := nI_in hw (by decide)
  have d1 : (nI w).toNatClampNeg = w := nI_clamp (by omega)
  rw [fQ_one_29, lc_let_eq, lc_mlo, if_neg hx]
  simp only [lc_chk_pos c1, d1, lc_bnd_id, lc_fans, lcI_UI, lcI_UL, lcI_UR, lcL_UI, lcL_UL, lcL_UR, lcR_UI, lcR_UL, lcR_UR, false_and, and_false, true_and, and_true, and_self, ↓reduceIte, Nat.reduceEqDiff, lc_let_eq]
theorem lc_sGet {y z : lc_S} {t b N P st o k D i p s : Nat} {dd : Nat → Nat} {ee : Nat → List lc_en} (h : lc_TP y z t b N P st dd ee o k D i p s) (hV : lc_V y z P) : ∃ y' z', fM_getNumber (lcL y 19 4) y = some ((), y') ∧ fQ_one 103 (lcL z 80 47) z = some ((), z') ∧ lc_O y' z' st := by
  have hC : lc_C y z (t + 1) b N P := h.1
  obtain ⟨m1, m2, m3, m4, m5, m6, m7, m8⟩ := h.1.2.2.2.2.2.2.2.2.2.1
  obtain ⟨k', w', v1, v2, v3⟩ := hV
  have ha := lc_live (y := y) (z := z) v1 hC.2.2.2.2.2.1
  have hq := lc_isCQ v1.1.1 v1.1.2.1 v1.1.2.2.1 z
  rw [v2, v3]
  by_cases hk : k' = 2
  · subst hk
    have hw := v1.2 rfl
    obtain ⟨g1, g2⟩ := m1 w' hw
    rw [if_pos rfl] at ha hq
    by_cases h0 : lcI z 115 w' = 0
    · rw [if_pos (g1.trans h0)] at ha
      refine ⟨_, _, ?_, ?_, Or.inr (lc_trapX (k := 1) (by decide) hC)⟩
      · rw [fM_getNumber, lc_bnd_eq ha, if_pos rfl]
      · rw [fQ_one, if_neg (by decide), lc_bnd_eq hq, if_neg (by decide), lc_one29 hw (by decide), if_pos h0, lc_stopQ 1 hC.2.2.2.2.2.2.1]
    · rw [if_neg (fun h' => h0 (g1.symm.trans h'))] at ha
      obtain ⟨y', z', e1, e2, e3⟩ := lc_pairT (k1 := 1) (w1 := lc_w (lcI y 22 w')) h ⟨⟨by decide, by decide, lc_w_lt _, fun h => absurd h (by decide)⟩, fun h => absurd h (by decide)⟩ v1
      refine ⟨y', z', ?_, ?_, e3⟩
      · rw [fM_getNumber, lc_bnd_eq ha, if_neg (by decide), lc_bnd_eq (lc_wo 2 w' y), lc_bnd_eq (lc_numAt hw (by rw [g1]; exact h0)), lc_bnd_eq (lc_of1 _ y), lc_bnd_id]; exact e1
      · rw [fQ_one, if_neg (by decide), lc_bnd_eq hq, if_neg (by decide), lc_one29 hw (by decide), if_neg h0, if_pos rfl, lc_bnd_eq (lc_plain _ z), ← g2 h0]; exact e2
  · rw [if_neg hk] at ha hq
    refine ⟨_, _, ?_, ?_, Or.inr (lc_trapX (k := 4) (by decide) hC)⟩
    · rw [fM_getNumber, lc_bnd_eq ha, if_pos rfl]
    · rw [fQ_one, if_neg (by decide), lc_bnd_eq hq, if_pos rfl, fQ_one_23, lc_bnd_eq (lc_stopQ 4 hC.2.2.2.2.2.2.1)]
theorem lc_nf_set {z z' : lc_S} {j : Nat} (h : ∀ i, i ≠ j → lcI z' 115 i = lcI z 115 i) (h0 : lcI z 115 j = 0) (h1 : lcI z' 115 j ≠ 0) : ∀ n, lc_nf z' n = lc_nf z n + if j < n then 1 else 0
  | 0 => by rw [if_neg (by omega)]; rfl
  | n + 1 => by
    rw [lc_nf, lc_nf, lc_nf_set h h0 h1 n]
    by_cases hj : n = j
    · subst hj; rw [h0, if_neg h1, if_neg (by omega), if_pos rfl, if_pos (by omega)]
    · rw [h n hj]
      by_cases hjn : j < n
      · rw [if_pos hjn, if_pos (show j < n + 1 by omega)]; omega
      · rw [if_neg hjn, if_neg (show ¬ j < n + 1 by omega)]; omega
theorem lc_i3 (a b : Int32) (n : Nat) (h : a - b = nI (n + 1)) : a - (b + 1) = nI n := by
  rw [← nI_pred n, ← h]
  apply Int32.toBitVec_inj.mp
  simp only [Int32.toBitVec_sub, Int32.toBitVec_add]
  bv_omega
theorem lc_i4 (a b : Int32) (n : Nat) (h : a - b = nI n) : a + 1 - b = nI (n + 1) := by
  rw [nI_succ, ← h]
  apply Int32.toBitVec_inj.mp
  simp only [Int32.toBitVec_sub, Int32.toBitVec_add]
  bv_omega
theorem lc_sFree {y z : lc_S} {t b N P st o k D i p s : Nat} {dd : Nat → Nat} {ee : Nat → List lc_en} (h : lc_TP y z t b N P st dd ee o k D i p s) (hV : lc_V y z P) : ∃ y' z', fM_freeCell (lcL y 19 4) y = some ((), y') ∧ fQ_one 100 (lcL z 80 47) z = some ((), z') ∧ lc_O y' z' st := by
  have hC : lc_C y z (t + 1) b N P := h.1
  obtain ⟨m1, m2, m3, m4, m5, m6, m7, m8⟩ := h.1.2.2.2.2.2.2.2.2.2.1
  obtain ⟨k', w', v1, v2, v3⟩ := hV
  have ha := lc_live (y := y) (z := z) v1 hC.2.2.2.2.2.1
  have hq := lc_isCQ v1.1.1 v1.1.2.1 v1.1.2.2.1 z
  rw [v2, v3]
  by_cases hk : k' = 2
  · subst hk
    have hw := v1.2 rfl
    obtain ⟨g1, g2⟩ := m1 w' hw
    rw [if_pos rfl] at ha hq
    by_cases h0 : lcI z 115 w' = 0
    · rw [if_pos (g1.trans h0)] at ha
      refine ⟨_, _, ?_, ?_, Or.inr (lc_trapX (k := 1) (by decide) hC)⟩
      · rw [fM_freeCell, lc_bnd_eq ha, if_pos rfl]
      · rw [fQ_one, if_neg (by decide), lc_bnd_eq hq, if_neg (by decide), lc_one29 hw (by decide), if_pos h0, lc_stopQ 1 hC.2.2.2.2.2.2.1]
    · rw [if_neg (fun h' => h0 (g1.symm.trans h'))] at ha
      obtain ⟨y1, ey⟩ : ∃ x, x = lcUI (lcUI y 21 w' 0) 20 3 (lcI y 20 3 + 1) := ⟨_, rfl⟩
      obtain ⟨z1, ez⟩ : ∃ x, x = lcUI (lcUI z 115 w' 0) 80 50 (lcI z 80 50 + 1) := ⟨_, rfl⟩
      have yI : ∀ c k, ¬ (c = 20 ∧ k = 3) → ¬ (c = 21 ∧ k = w') → lcI y1 c k = lcI y c k := fun c k h h' => by rw [ey, lcI_UI, if_neg h, lcI_UI, if_neg h']
      have zI : ∀ c k, ¬ (c = 80 ∧ k = 50) → ¬ (c = 115 ∧ k = w') → lcI z1 c k = lcI z c k := fun c k h h' => by rw [ez, lcI_UI, if_neg h, lcI_UI, if_neg h']
      have y21 : lcI y1 21 w' = 0 := by rw [ey]; simp only [lcI_UI, lcI_UL, lcI_UR, lcL_UI, lcL_UL, lcL_UR, lcR_UI, lcR_UL, lcR_UR, false_and, and_false, true_and, and_true, and_self, ↓reduceIte, Nat.reduceEqDiff, lc_let_eq]
      have z115 : lcI z1 115 w' = 0 := by rw [ez]; simp only [lcI_UI, lcI_UL, lcI_UR, lcL_UI, lcL_UL, lcL_UR, lcR_UI, lcR_UL, lcR_UR, false_and, and_false, true_and, and_true, and_self, ↓reduceIte, Nat.reduceEqDiff, lc_let_eq]
      have y3 : lcI y1 20 3 = lcI y 20 3 + 1 := by rw [ey]; simp only [lcI_UI, lcI_UL, lcI_UR, lcL_UI, lcL_UL, lcL_UR, lcR_UI, lcR_UL, lcR_UR, false_and, and_false, true_and, and_true, and_self, ↓reduceIte, Nat.reduceEqDiff, lc_let_eq]
      have z50 : lcI z1 80 50 = lcI z 80 50 + 1 := by rw [ez]; simp only [lcI_UI, lcI_UL, lcI_UR, lcL_UI, lcL_UL, lcL_UR, lcR_UI, lcR_UL, lcR_UR, false_and, and_false, true_and, and_true, and_self, ↓reduceIte, Nat.reduceEqDiff, lc_let_eq]
      have hnf := lc_nf_set (z := z1) (z' := z) (j := w') (fun i hi => (zI _ _ (by omega) (by omega)).symm) z115 h0 12
      rw [if_pos hw] at hnf
      have hM : lc_M2 y1 z1 P := by
        refine ⟨fun j hj => ?_, ?_, ?_, ?_, ?_, m6, ?_, fun q hq => ?_⟩
        · by_cases hjw : j = w'
          · subst hjw; rw [y21, z115]; exact ⟨rfl, fun h => absurd rfl h⟩
          · rw [yI _ _ (by omega) (by omega), yI _ _ (by omega) (by omega), zI _ _ (by omega) (by omega), zI _ _ (by omega) (by omega)]; exact m1 j hj
        · rw [yI _ _ (by omega) (by omega), zI _ _ (by omega) (by omega)]; exact m2
        · rw [y3, z50, m3]
        · rw [yI _ _ (by omega) (by omega)]; exact m4
        · rw [zI _ _ (by omega) (by omega)]; exact m5
        · rw [yI _ _ (by omega) (by omega), y3]
          exact lc_i3 _ _ _ (by rw [m7, hnf])
        · obtain ⟨a, b, c, d, q1, q2, q3, q4, q5, q6⟩ := m8 q hq
          exact ⟨a, b, c, d, q1, q2, by rw [ey]; exact q3, by rw [ez]; exact q4, by rw [ey]; exact q5, by rw [ez]; exact q6⟩
      have hT := lc_T_mem (y' := y1) (z' := z1) (P' := P) h (Nat.le_refl _) hM (fun c k h => yI c k (by omega) (by omega)) (fun c k h => by rw [ey]; rfl) (fun c k => by rw [ey]; rfl) (fun c k h h' => zI c k (by omega) (by omega)) (fun c k h => by rw [ez]; rfl)
      obtain ⟨y', z', e1, e2, e3⟩ := lc_T_end (k' := 1) (w := lc_w (lcI y 22 w')) hT ⟨⟨by decide, by decide, lc_w_lt _, fun h => absurd h (by decide)⟩, fun h => absurd h (by decide)⟩
      have c1 : lc_in (nI w') 12 := nI_in hw (by decide)
      have d1 : (nI w').toNatClampNeg = w' := nI_clamp (by omega)
      have h21 : lcI y 21 w' ≠ 0 := by rw [g1]; exact h0
      refine ⟨y', z', ?_, ?_, e3⟩
      · have hf : fY_freePlace (nI w') y = some ((), y1) := by
          rw [fY_freePlace, lc_bnd_eq (lc_freeA hw), if_neg h21, if_pos rfl]
          simp only [lc_chk_pos c1, d1, ey, lcI_UI, lcI_UL, lcI_UR, lcL_UI, lcL_UL, lcL_UR, lcR_UI, lcR_UL, lcR_UR, false_and, and_false, true_and, and_true, and_self, ↓reduceIte, Nat.reduceEqDiff, lc_let_eq]
        rw [fM_freeCell, lc_bnd_eq ha, if_neg (by decide), lc_bnd_eq (lc_wo 2 w' y), lc_bnd_eq (lc_numAt hw h21), lc_bnd_eq (lc_wo 2 w' y), lc_bnd_eq hf, lc_bnd_eq (lc_of1 _ y1), lc_bnd_id]; exact e1
      · rw [fQ_one, if_neg (by decide), lc_bnd_eq hq, if_neg (by decide), lc_one29 hw (by decide), if_neg h0, if_neg (by decide), ← ez, lc_bnd_eq (lc_plain _ z1), ← g2 h0]; exact e2
  · rw [if_neg hk] at ha hq
    refine ⟨_, _, ?_, ?_, Or.inr (lc_trapX (k := 4) (by decide) hC)⟩
    · rw [fM_freeCell, lc_bnd_eq ha, if_pos rfl]
    · rw [fQ_one, if_neg (by decide), lc_bnd_eq hq, if_pos rfl, fQ_one_23, lc_bnd_eq (lc_stopQ 4 hC.2.2.2.2.2.2.1)]
