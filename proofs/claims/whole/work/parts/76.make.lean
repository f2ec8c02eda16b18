/-! steps by kinds: a cell is made; put; reckoning -/
theorem lc_takeA {y : lc_S} {j : Nat} (x : Int32) (hj : j < 12) (h0 : lcI y 21 j = 0) : ∀ (m i f : Nat), i + m = j → m < f → (∀ q, i ≤ q → q < j → lcI y 21 q ≠ 0) → fY_takePlace_2 f x (nI i) y = some (nI j, lcUI (lcUI (lcUI y 21 j 1) 22 j x) 20 2 (lcI y 20 2 + 1))
  | 0, i, f + 1, h, _, hq => by
    have hi : i = j := by omega
    subst hi
    have c1 : lc_in (nI i) 12 := nI_in hj (by decide)
    have d1 : (nI i).toNatClampNeg = i := nI_clamp (by omega)
    rw [fY_takePlace_2, if_neg (show ¬ (12 : Int32) ≤ nI i from nI_ge (b := 12) hj (by decide))]
    simp only [lc_chk_pos c1, d1, h0, lcI_UI, lcI_UL, lcI_UR, lcL_UI, lcL_UL, lcL_UR, lcR_UI, lcR_UL, lcR_UR, false_and, and_false, true_and, and_true, and_self, ↓reduceIte, Nat.reduceEqDiff, lc_let_eq]
  | m + 1, i, f + 1, h, hf, hq => by
    have c1 : lc_in (nI i) 12 := nI_in (by omega) (by decide)
    have d1 : (nI i).toNatClampNeg = i := nI_clamp (by omega)
    have IH := lc_takeA x hj h0 m (i + 1) f (by omega) (by omega) (fun q a b => hq q (by omega) b)
    rw [fY_takePlace_2, if_neg (show ¬ (12 : Int32) ≤ nI i from nI_ge (b := 12) (by omega) (by decide))]
    simp only [lc_chk_pos c1, d1, hq i (Nat.le_refl _) (by omega), nI_1, lcI_UI, lcI_UL, lcI_UR, lcL_UI, lcL_UL, lcL_UR, lcR_UI, lcR_UL, lcR_UR, false_and, and_false, true_and, and_true, and_self, ↓reduceIte, Nat.reduceEqDiff, lc_let_eq]
    exact IH
theorem lc_takeA0 {y : lc_S} (x : Int32) (h : ∀ q, q < 12 → lcI y 21 q ≠ 0) : ∀ (m i f : Nat), i + m = 12 → m < f → fY_takePlace_2 f x (nI i) y = some (-1, y)
  | 0, i, f + 1, hi, _ => by
    have hi : i = 12 := by omega
    rw [hi, fY_takePlace_2, if_pos (by decide)]
  | m + 1, i, f + 1, hi, hf => by
    have c1 : lc_in (nI i) 12 := nI_in (by omega) (by decide)
    have d1 : (nI i).toNatClampNeg = i := nI_clamp (by omega)
    have IH := lc_takeA0 x h m (i + 1) f (by omega) (by omega)
    rw [fY_takePlace_2, if_neg (show ¬ (12 : Int32) ≤ nI i from nI_ge (b := 12) (by omega) (by decide))]
    simp only [lc_chk_pos c1, d1, h i (by omega), nI_1, lcI_UI, lcI_UL, lcI_UR, lcL_UI, lcL_UL, lcL_UR, lcR_UI, lcR_UL, lcR_UR, false_and, and_false, true_and, and_true, and_self, ↓reduceIte, Nat.reduceEqDiff, lc_let_eq]
    exact IH
theorem lc_takeQ {z : lc_S} {j : Nat} (x : Int32) (hj : j < 12) (h0 : lcI z 115 j = 0) : ∀ (m i f : Nat), i + m = j → m < f → (∀ q, i ≤ q → q < j → lcI z 115 q ≠ 0) → fQ_one_42 f x (nI i) z = fQ_answer (lc_mv 2 j) (lcUI (lcUI (lcUI z 115 j 1) 116 j x) 80 49 (lcI z 80 49 + 1))
  | 0, i, f + 1, h, _, hq => by
    have hi : i = j := by omega
    subst hi
    have c1 : lc_in (nI i) 12 := nI_in hj (by decide)
    have d1 : (nI i).toNatClampNeg = i := nI_clamp (by omega)
    have hn : ¬ nI i = 12 := fun h' => by have := (nI_eq (b := 12) (show i < 2 ^ 31 by omega) (by decide)).mp h'; omega
    have hv : (4294967296 : Int64) + (nI i).toInt64 = lc_mv 2 i := by
      rw [nI_l (by omega), show (4294967296 : Int64) = lN 4294967296 from rfl, lN_add, lc_mv]
    rw [fQ_one_42, if_neg (show ¬ (12 : Int32) ≤ nI i from nI_ge (b := 12) hj (by decide))]
    simp only [lc_chk_pos c1, d1, h0, fQ_one_65, hn, lc_bnd_id, hv, lcI_UI, lcI_UL, lcI_UR, lcL_UI, lcL_UL, lcL_UR, lcR_UI, lcR_UL, lcR_UR, false_and, and_false, true_and, and_true, and_self, ↓reduceIte, Nat.reduceEqDiff, lc_let_eq]
  | m + 1, i, f + 1, h, hf, hq => by
    have c1 : lc_in (nI i) 12 := nI_in (by omega) (by decide)
    have d1 : (nI i).toNatClampNeg = i := nI_clamp (by omega)
    have IH := lc_takeQ x hj h0 m (i + 1) f (by omega) (by omega) (fun q a b => hq q (by omega) b)
    rw [fQ_one_42, if_neg (show ¬ (12 : Int32) ≤ nI i from nI_ge (b := 12) (by omega) (by decide))]
    simp only [lc_chk_pos c1, d1, hq i (Nat.le_refl _) (by omega), nI_1, lcI_UI, lcI_UL, lcI_UR, lcL_UI, lcL_UL, lcL_UR, lcR_UI, lcR_UL, lcR_UR, false_and, and_false, true_and, and_true, and_self, ↓reduceIte, Nat.reduceEqDiff, lc_let_eq]
    exact IH
theorem lc_takeQ0 {z : lc_S} (x : Int32) (h : ∀ q, q < 12 → lcI z 115 q ≠ 0) : ∀ (m i f : Nat), i + m = 12 → m < f → fQ_one_42 f x (nI i) z = fQ_stop 2 z
  | 0, i, f + 1, hi, _ => by
    have hi : i = 12 := by omega
    rw [hi, fQ_one_42, if_pos (by decide), fQ_one_65, if_pos (by decide), lc_bnd_id]
  | m + 1, i, f + 1, hi, hf => by
    have c1 : lc_in (nI i) 12 := nI_in (by omega) (by decide)
    have d1 : (nI i).toNatClampNeg = i := nI_clamp (by omega)
    have IH := lc_takeQ0 x h m (i + 1) f (by omega) (by omega)
    rw [fQ_one_42, if_neg (show ¬ (12 : Int32) ≤ nI i from nI_ge (b := 12) (by omega) (by decide))]
    simp only [lc_chk_pos c1, d1, h i (by omega), nI_1, lcI_UI, lcI_UL, lcI_UR, lcL_UI, lcL_UL, lcL_UR, lcR_UI, lcR_UL, lcR_UR, false_and, and_false, true_and, and_true, and_self, ↓reduceIte, Nat.reduceEqDiff, lc_let_eq]
    exact IH
theorem lc_least (f : Nat → Int32) : ∀ n, (∀ q, q < n → f q ≠ 0) ∨ ∃ j, j < n ∧ f j = 0 ∧ ∀ q, q < j → f q ≠ 0
  | 0 => Or.inl (fun q h => absurd h (by omega))
  | n + 1 => by
    rcases lc_least f n with h | ⟨j, h1, h2, h3⟩
    · by_cases h0 : f n = 0
      · exact Or.inr ⟨n, by omega, h0, h⟩
      · left
        intro q hq
        by_cases hqn : q = n
        · rw [hqn]; exact h0
        · exact h q (by omega)
    · exact Or.inr ⟨j, by omega, h2, h3⟩
theorem lc_sMake {y z : lc_S} {t b N P st o k D i p s : Nat} {dd : Nat → Nat} {ee : Nat → List lc_en} (h : lc_TP y z t b N P st dd ee o k D i p s) (hV : lc_V y z P) : ∃ y' z', fM_makeCell (lcL y 19 4) y = some ((), y') ∧ fQ_one 110 (lcL z 80 47) z = some ((), z') ∧ lc_O y' z' st := by
  have hC : lc_C y z (t + 1) b N P := h.1
  obtain ⟨m1, m2, m3, m4, m5, m6, m7, m8⟩ := h.1.2.2.2.2.2.2.2.2.2.1
  obtain ⟨k', w', v1, v2, v3⟩ := hV
  have hn := lc_isN v1.1.2.1 v1.1.2.2.1 y
  have hq := lc_isNQ v1.1.1 v1.1.2.1 v1.1.2.2.1 z
  rw [v2, v3]
  by_cases hk : k' = 1
  · subst hk
    rw [if_pos rfl] at hn hq
    rcases lc_least (fun q => lcI z 115 q) 12 with hall | ⟨j, hj, h0, hl⟩
    · have hall' : ∀ q, q < 12 → lcI y 21 q ≠ 0 := fun q hq => by rw [(m1 q hq).1]; exact hall q hq
      refine ⟨_, _, ?_, ?_, Or.inr (lc_trapX (k := 2) (by decide) hC)⟩
      · rw [fM_makeCell, lc_bnd_eq hn, if_neg (by decide), lc_bnd_eq (lc_wo 1 w' y), lc_bnd_eq (show fY_takePlace (nI w') y = some (-1, y) from lc_takeA0 _ hall' 12 0 lc_FU rfl (by unfold lc_FU; omega)), if_pos rfl]
      · rw [fQ_one, if_pos rfl, lc_bnd_eq hq, if_neg (by decide), fQ_one_29, lc_let_eq, lc_mlo, if_pos rfl, show fQ_one_42 lc_FU (nI w') 0 z = fQ_stop 2 z from lc_takeQ0 _ hall 12 0 lc_FU rfl (by unfold lc_FU; omega), lc_stopQ 2 hC.2.2.2.2.2.2.1]
    · have h0' : lcI y 21 j = 0 := by rw [(m1 j hj).1]; exact h0
      have hl' : ∀ q, 0 ≤ q → q < j → lcI y 21 q ≠ 0 := fun q _ hq => by rw [(m1 q (by omega)).1]; exact hl q hq
      obtain ⟨y1, ey⟩ : ∃ x, x = lcUI (lcUI (lcUI y 21 j 1) 22 j (nI w')) 20 2 (lcI y 20 2 + 1) := ⟨_, rfl⟩
      obtain ⟨z1, ez⟩ : ∃ x, x = lcUI (lcUI (lcUI z 115 j 1) 116 j (nI w')) 80 49 (lcI z 80 49 + 1) := ⟨_, rfl⟩
      have yI : ∀ c k, ¬ (c = 20 ∧ k = 2) → ¬ ((c = 21 ∨ c = 22) ∧ k = j) → lcI y1 c k = lcI y c k := fun c k h h' => by rw [ey, lcI_UI, if_neg h, lcI_UI, if_neg (by omega), lcI_UI, if_neg (by omega)]
      have zI : ∀ c k, ¬ (c = 80 ∧ k = 49) → ¬ ((c = 115 ∨ c = 116) ∧ k = j) → lcI z1 c k = lcI z c k := fun c k h h' => by rw [ez, lcI_UI, if_neg h, lcI_UI, if_neg (by omega), lcI_UI, if_neg (by omega)]
      have y21 : lcI y1 21 j = 1 := by rw [ey]; simp only [lcI_UI, lcI_UL, lcI_UR, lcL_UI, lcL_UL, lcL_UR, lcR_UI, lcR_UL, lcR_UR, false_and, and_false, true_and, and_true, and_self, ↓reduceIte, Nat.reduceEqDiff, lc_let_eq]
      have y22 : lcI y1 22 j = nI w' := by rw [ey]; simp only [lcI_UI, lcI_UL, lcI_UR, lcL_UI, lcL_UL, lcL_UR, lcR_UI, lcR_UL, lcR_UR, false_and, and_false, true_and, and_true, and_self, ↓reduceIte, Nat.reduceEqDiff, lc_let_eq]
      have z115 : lcI z1 115 j = 1 := by rw [ez]; simp only [lcI_UI, lcI_UL, lcI_UR, lcL_UI, lcL_UL, lcL_UR, lcR_UI, lcR_UL, lcR_UR, false_and, and_false, true_and, and_true, and_self, ↓reduceIte, Nat.reduceEqDiff, lc_let_eq]
      have z116 : lcI z1 116 j = nI w' := by rw [ez]; simp only [lcI_UI, lcI_UL, lcI_UR, lcL_UI, lcL_UL, lcL_UR, lcR_UI, lcR_UL, lcR_UR, false_and, and_false, true_and, and_true, and_self, ↓reduceIte, Nat.reduceEqDiff, lc_let_eq]
      have y2 : lcI y1 20 2 = lcI y 20 2 + 1 := by rw [ey]; simp only [lcI_UI, lcI_UL, lcI_UR, lcL_UI, lcL_UL, lcL_UR, lcR_UI, lcR_UL, lcR_UR, false_and, and_false, true_and, and_true, and_self, ↓reduceIte, Nat.reduceEqDiff, lc_let_eq]
      have z49 : lcI z1 80 49 = lcI z 80 49 + 1 := by rw [ez]; simp only [lcI_UI, lcI_UL, lcI_UR, lcL_UI, lcL_UL, lcL_UR, lcR_UI, lcR_UL, lcR_UR, false_and, and_false, true_and, and_true, and_self, ↓reduceIte, Nat.reduceEqDiff, lc_let_eq]
      have hnf := lc_nf_set (z := z) (z' := z1) (j := j) (fun i hi => zI _ _ (by omega) (by omega)) h0 (by rw [z115]; decide) 12
      rw [if_pos hj] at hnf
      have hM : lc_M2 y1 z1 P := by
        refine ⟨fun q hq => ?_, ?_, ?_, ?_, ?_, m6, ?_, fun q hq => ?_⟩
        · by_cases hjw : q = j
          · subst hjw; rw [y21, z115, y22, z116]; exact ⟨rfl, fun _ => rfl⟩
          · rw [yI _ _ (by omega) (by omega), yI _ _ (by omega) (by omega), zI _ _ (by omega) (by omega), zI _ _ (by omega) (by omega)]; exact m1 q hq
        · rw [y2, z49, m2]
        · rw [yI _ _ (by omega) (by omega), zI _ _ (by omega) (by omega)]; exact m3
        · rw [yI _ _ (by omega) (by omega)]; exact m4
        · rw [zI _ _ (by omega) (by omega)]; exact m5
        · rw [y2, yI 20 3 (by omega) (by omega), hnf]
          exact lc_i4 _ _ _ m7
        · obtain ⟨a, b, c, d, q1, q2, q3, q4, q5, q6⟩ := m8 q hq
          exact ⟨a, b, c, d, q1, q2, by rw [ey]; exact q3, by rw [ez]; exact q4, by rw [ey]; exact q5, by rw [ez]; exact q6⟩
      have hT := lc_T_mem (y' := y1) (z' := z1) (P' := P) h (Nat.le_refl _) hM (fun c k h => yI c k (by omega) (by omega)) (fun c k h => by rw [ey]; rfl) (fun c k => by rw [ey]; rfl) (fun c k h h' => zI c k (by omega) (by omega)) (fun c k h => by rw [ez]; rfl)
      obtain ⟨y', z', e1, e2, e3⟩ := lc_T_end (k' := 2) (w := j) hT ⟨⟨by decide, by decide, by omega, fun h => absurd h (by decide)⟩, fun _ => hj⟩
      have hn1 : ¬ nI j = -1 := fun h' => by
        have hp := nI_pos (n := j) (by omega)
        rw [h'] at hp
        exact hp (by decide)
      refine ⟨y', z', ?_, ?_, e3⟩
      · rw [fM_makeCell, lc_bnd_eq hn, if_neg (by decide), lc_bnd_eq (lc_wo 1 w' y), lc_bnd_eq (show fY_takePlace (nI w') y = some (nI j, y1) by rw [ey]; exact lc_takeA _ hj h0' j 0 lc_FU (by omega) (by unfold lc_FU; omega) hl'), if_neg hn1, lc_bnd_eq (lc_of2 (nI j) y1), lc_w_nI (by omega), lc_bnd_id]; exact e1
      · rw [fQ_one, if_pos rfl, lc_bnd_eq hq, if_neg (by decide), fQ_one_29, lc_let_eq, lc_mlo, if_pos rfl, show fQ_one_42 lc_FU (nI w') 0 z = fQ_answer (lc_mv 2 j) z1 by rw [ez]; exact lc_takeQ _ hj h0 j 0 lc_FU (by omega) (by unfold lc_FU; omega) (fun q _ hq => hl q hq)]; exact e2
  · rw [if_neg hk] at hn hq
    refine ⟨_, _, ?_, ?_, Or.inr (lc_trapX (k := 4) (by decide) hC)⟩
    · rw [fM_makeCell, lc_bnd_eq hn, if_pos rfl]
    · rw [fQ_one, if_pos rfl, lc_bnd_eq hq, if_pos rfl, fQ_one_23, lc_bnd_eq (lc_stopQ 4 hC.2.2.2.2.2.2.1)]
theorem lc_sPut {y z : lc_S} {t b N P st o k D i p k1 w1 : Nat} {dd : Nat → Nat} {ee : Nat → List lc_en} (h : lc_TP y z t b N P st dd ee o k D i p 2) (hV : lc_V y z P) (u1 : lc_okr P k1 w1) : ∃ y' z', fM_putNumber (lc_cv k1 w1) (lcL y 19 4) y = some ((), y') ∧ fQ_two 112 (lc_mv k1 w1) (lcL z 80 47) z = some ((), z') ∧ lc_O y' z' st := by
  have hC : lc_C y z (t + 1) b N P := h.1
  obtain ⟨m1, m2, m3, m4, m5, m6, m7, m8⟩ := h.1.2.2.2.2.2.2.2.2.2.1
  obtain ⟨k', w', v1, v2, v3⟩ := hV
  have hn := lc_isN v1.1.2.1 v1.1.2.2.1 y
  have hq := lc_isNQ v1.1.1 v1.1.2.1 v1.1.2.2.1 z
  have ha := lc_live (y := y) (z := z) u1 hC.2.2.2.2.2.1
  have hc := lc_isCQ u1.1.1 u1.1.2.1 u1.1.2.2.1 z
  have hst := lc_stopQ 4 hC.2.2.2.2.2.2.1
  have bad : fQ_two_49 112 (lc_mv k1 w1) (lc_mv k' w') z = some ((), lcUI z 80 45 4) := by
    rw [fQ_two_49, fQ_two_50, if_pos rfl, lc_bnd_eq hst]
  rw [v2, v3]
  by_cases hk : k' = 1
  · subst hk
    rw [if_pos rfl] at hn hq
    by_cases hk1 : k1 = 2
    · subst hk1
      have hw := u1.2 rfl
      obtain ⟨g1, g2⟩ := m1 w1 hw
      rw [if_pos rfl] at ha hc
      have c1 : lc_in (nI w1) 12 := nI_in hw (by decide)
      have d1 : (nI w1).toNatClampNeg = w1 := nI_clamp (by omega)
      have hQ : fQ_two 112 (lc_mv 2 w1) (lc_mv 1 w') z = if lcI z 115 w1 = 0 then lc_bnd (fQ_stop 1 z) (fun _ z' => fQ_two_105 (lc_mv 2 w1) z') else fQ_two_105 (lc_mv 2 w1) (lcUI z 116 w1 (nI w')) := by
        rw [fQ_two, if_neg (by decide), if_pos rfl, lc_bnd_eq hc, if_neg (by decide), fQ_two_37, lc_bnd_eq hq, if_neg (by decide), fQ_two_50, if_neg (by decide), lc_let_eq, lc_let_eq, if_pos rfl]
        simp only [lc_mlo, lc_chk_pos c1, d1]
      by_cases h0 : lcI z 115 w1 = 0
      · rw [if_pos (g1.trans h0)] at ha
        rw [if_pos h0] at hQ
        refine ⟨_, _, ?_, ?_, Or.inr (lc_trapX (k := 1) (by decide) hC)⟩
        · rw [fM_putNumber, lc_bnd_eq hn, if_neg (by decide), lc_bnd_eq ha, if_pos rfl]
        · rw [hQ, lc_bnd_eq (lc_stopQ 1 hC.2.2.2.2.2.2.1), fQ_two_105, if_neg (by simp only [lcI_UI, lcI_UL, lcI_UR, lcL_UI, lcL_UL, lcL_UR, lcR_UI, lcR_UL, lcR_UR, false_and, and_false, true_and, and_true, and_self, ↓reduceIte, Nat.reduceEqDiff, lc_let_eq]; decide)]
      · rw [if_neg (fun h' => h0 (g1.symm.trans h'))] at ha
        rw [if_neg h0] at hQ
        obtain ⟨y1, ey⟩ : ∃ x, x = lcUI y 22 w1 (nI w') := ⟨_, rfl⟩
        obtain ⟨z1, ez⟩ : ∃ x, x = lcUI z 116 w1 (nI w') := ⟨_, rfl⟩
        have yI : ∀ c k, ¬ (c = 22 ∧ k = w1) → lcI y1 c k = lcI y c k := fun c k h => by rw [ey, lcI_UI, if_neg h]
        have zI : ∀ c k, ¬ (c = 116 ∧ k = w1) → lcI z1 c k = lcI z c k := fun c k h => by rw [ez, lcI_UI, if_neg h]
        have hM : lc_M2 y1 z1 P := by
          refine ⟨fun q hq => ?_, ?_, ?_, ?_, ?_, m6, ?_, fun q hq => ?_⟩
          · rw [yI 21 _ (by omega), zI 115 _ (by omega)]
            refine ⟨(m1 q hq).1, fun hf => ?_⟩
            by_cases hjw : q = w1
            · subst hjw; rw [ey, ez]; simp only [lcI_UI, lcI_UL, lcI_UR, lcL_UI, lcL_UL, lcL_UR, lcR_UI, lcR_UL, lcR_UR, false_and, and_false, true_and, and_true, and_self, ↓reduceIte, Nat.reduceEqDiff, lc_let_eq]
            · rw [yI _ _ (by omega), zI _ _ (by omega)]; exact (m1 q hq).2 hf
          · rw [yI _ _ (by omega), zI _ _ (by omega)]; exact m2
          · rw [yI _ _ (by omega), zI _ _ (by omega)]; exact m3
          · rw [yI _ _ (by omega)]; exact m4
          · rw [zI _ _ (by omega)]; exact m5
          · rw [yI _ _ (by omega), yI _ _ (by omega), lc_nf_eq (z := z) (fun j => zI _ _ (by omega))]; exact m7
          · obtain ⟨a, b, c, d, q1, q2, q3, q4, q5, q6⟩ := m8 q hq
            exact ⟨a, b, c, d, q1, q2, by rw [ey]; exact q3, by rw [ez]; exact q4, by rw [ey]; exact q5, by rw [ez]; exact q6⟩
        have hT := lc_T_mem (y' := y1) (z' := z1) (P' := P) h (Nat.le_refl _) hM (fun c k h => yI c k (by omega)) (fun c k h => by rw [ey]; rfl) (fun c k => by rw [ey]; rfl) (fun c k h h' => zI c k (by omega)) (fun c k h => by rw [ez]; rfl)
        obtain ⟨y', z', e1, e2, e3⟩ := lc_T_end hT u1
        have h21 : lcI y 21 w1 ≠ 0 := by rw [g1]; exact h0
        have hf : fY_putNumber (nI w1) (nI w') y = some ((), y1) := by
          rw [fY_putNumber, lc_bnd_eq (lc_freeA hw), if_neg h21, if_pos rfl, lc_chk_pos c1, d1, ey]
        refine ⟨y', z', ?_, ?_, e3⟩
        · rw [fM_putNumber, lc_bnd_eq hn, if_neg (by decide), lc_bnd_eq ha, if_neg (by decide), lc_bnd_eq (lc_wo 2 w1 y), lc_bnd_eq (lc_wo 1 w' y), lc_bnd_eq hf, lc_bnd_id]; exact e1
        · rw [hQ, ← ez, fQ_two_105, if_pos (by rw [zI _ _ (by omega)]; exact hC.2.2.2.2.2.2.1), lc_bnd_id]; exact e2
    · rw [if_neg hk1] at ha hc
      refine ⟨_, _, ?_, ?_, Or.inr (lc_trapX (k := 4) (by decide) hC)⟩
      · rw [fM_putNumber, lc_bnd_eq hn, if_neg (by decide), lc_bnd_eq ha, if_pos rfl]
      · rw [fQ_two, if_neg (by decide), if_pos rfl, lc_bnd_eq hc, if_pos rfl, bad]
  · rw [if_neg hk] at hn hq
    refine ⟨_, _, ?_, ?_, Or.inr (lc_trapX (k := 4) (by decide) hC)⟩
    · rw [fM_putNumber, lc_bnd_eq hn, if_pos rfl]
    · rw [fQ_two, if_neg (by decide), if_pos rfl, lc_bnd_eq hc]
      by_cases hk1 : k1 = 2
      · rw [if_pos hk1, if_neg (by decide), fQ_two_37, lc_bnd_eq hq, if_pos rfl, bad]
      · rw [if_neg hk1, if_pos rfl, bad]
theorem lc_sCalc {y z : lc_S} {t b N P st o k D i p k1 w1 : Nat} {K : Int32} {dd : Nat → Nat} {ee : Nat → List lc_en} (h : lc_TP y z t b N P st dd ee o k D i p 2) (hV : lc_V y z P) (u1 : lc_okr P k1 w1) (hK : K = 43 ∨ K = 45 ∨ K = 42 ∨ K = 60) : ∃ y' z', fM_calculate K (lc_cv k1 w1) (lcL y 19 4) y = some ((), y') ∧ fQ_two K (lc_mv k1 w1) (lcL z 80 47) z = some ((), z') ∧ lc_O y' z' st := by
  have hC : lc_C y z (t + 1) b N P := h.1
  obtain ⟨k', w', v1, v2, v3⟩ := hV
  have hn := lc_isN v1.1.2.1 v1.1.2.2.1 y
  have hq := lc_isNQ v1.1.1 v1.1.2.1 v1.1.2.2.1 z
  have hn1 := lc_isN u1.1.2.1 u1.1.2.2.1 y
  have hq1 := lc_isNQ u1.1.1 u1.1.2.1 u1.1.2.2.1 z
  have hst := lc_stopQ 4 hC.2.2.2.2.2.2.1
  have bad : fQ_two_49 K (lc_mv k1 w1) (lc_mv k' w') z = some ((), lcUI z 80 45 4) := by
    rw [fQ_two_49, fQ_two_50, if_pos rfl, lc_bnd_eq hst]
  have n44 : K ≠ 44 ∧ K ≠ 112 := by rcases hK with h | h | h | h <;> subst h <;> decide
  rw [v2, v3]
  by_cases hk1 : k1 = 1
  · subst hk1
    rw [if_pos rfl] at hn1 hq1
    by_cases hk : k' = 1
    · subst hk
      rw [if_pos rfl] at hn hq
      obtain ⟨v, ev⟩ : ∃ v : Int32, v = if K = 43 then nI w1 + nI w' else if K = 45 then nI w1 - nI w' else if K = 42 then nI w1 * nI w' else if nI w' ≤ nI w1 then 0 else 1 := ⟨_, rfl⟩
      obtain ⟨y', z', e1, e2, e3⟩ := lc_T_end (k' := 1) (w := lc_w v) h ⟨⟨by decide, by decide, lc_w_lt _, fun h => absurd h (by decide)⟩, fun h => absurd h (by decide)⟩
      refine ⟨y', z', ?_, ?_, e3⟩
      · have hnum : fM_numberOf K (nI w1) (nI w') y = some (v, y) := by
          rcases hK with h | h | h | h <;> subst h
          · rw [fM_numberOf, if_neg (by decide), if_pos rfl, ev, if_pos rfl]
          · rw [fM_numberOf, if_neg (by decide), if_neg (by decide), if_neg (by decide), if_pos rfl, ev, if_neg (by decide), if_pos rfl]
          · rw [fM_numberOf, if_pos rfl, ev, if_neg (by decide), if_neg (by decide), if_pos rfl]
          · rw [fM_numberOf, if_neg (by decide), if_neg (by decide), if_neg (by decide), if_neg (by decide), fM_numberOf_44, ev, if_neg (show ¬ (60 : Int32) = 43 by decide), if_neg (show ¬ (60 : Int32) = 45 by decide), if_neg (show ¬ (60 : Int32) = 42 by decide)]
            split <;> rfl
        rw [fM_calculate, lc_bnd_eq hn1, if_neg (by decide), lc_bnd_eq hn, if_neg (by decide), lc_bnd_eq (lc_wo 1 w1 y), lc_bnd_eq (lc_wo 1 w' y), lc_bnd_eq hnum, lc_bnd_eq (lc_of1 v y), lc_bnd_id]; exact e1
      · have h176 : ∀ x : Int32, x = v → fQ_two_176 x.toInt64 z = some ((), z') := fun x hx => by
          rw [hx, fQ_two_176, lc_bnd_eq (lc_plain v z), lc_bnd_id]; exact e2
        rw [fQ_two, if_neg n44.1, if_neg n44.2, lc_bnd_eq hq1, if_neg (by decide), fQ_two_37, lc_bnd_eq hq, if_neg (by decide), fQ_two_50, if_neg (by decide), lc_let_eq, lc_let_eq, if_neg n44.2, lc_mlo, lc_mlo]
        rcases hK with h | h | h | h <;> subst h
        · rw [if_pos rfl]; exact h176 _ (by rw [ev, if_pos rfl])
        · rw [if_neg (by decide), if_pos rfl]; exact h176 _ (by rw [ev, if_neg (by decide), if_pos rfl])
        · rw [if_neg (by decide), if_neg (by decide), if_pos rfl]; exact h176 _ (by rw [ev, if_neg (by decide), if_neg (by decide), if_pos rfl])
        · rw [if_neg (show ¬ (60 : Int32) = 43 by decide), if_neg (show ¬ (60 : Int32) = 45 by decide), if_neg (show ¬ (60 : Int32) = 42 by decide)]
          rw [if_neg (show ¬ (60 : Int32) = 43 by decide), if_neg (show ¬ (60 : Int32) = 45 by decide), if_neg (show ¬ (60 : Int32) = 42 by decide)] at ev
          by_cases hle : nI w' ≤ nI w1
          · rw [if_pos hle] at ev ⊢; exact h176 0 ev.symm
          · rw [if_neg hle] at ev ⊢; exact h176 1 ev.symm
    · rw [if_neg hk] at hn hq
      refine ⟨_, _, ?_, ?_, Or.inr (lc_trapX (k := 4) (by decide) hC)⟩
      · rw [fM_calculate, lc_bnd_eq hn1, if_neg (by decide), lc_bnd_eq hn, if_pos rfl]; rfl
      · rw [fQ_two, if_neg n44.1, if_neg n44.2, lc_bnd_eq hq1, if_neg (by decide), fQ_two_37, lc_bnd_eq hq, if_pos rfl, bad]
  · rw [if_neg hk1] at hn1 hq1
    refine ⟨_, _, ?_, ?_, Or.inr (lc_trapX (k := 4) (by decide) hC)⟩
    · rw [fM_calculate, lc_bnd_eq hn1, if_pos rfl]; rfl
    · rw [fQ_two, if_neg n44.1, if_neg n44.2, lc_bnd_eq hq1, if_pos rfl, bad]
