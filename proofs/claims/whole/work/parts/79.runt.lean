/-! a run: its start, and a turn of run -/
theorem lc_clearA : ∀ (m i f : Nat) (y : lc_S), i + m = 12 → m < f → (∀ j, j < i → lcI y 21 j = 0) → ∃ y', fY_clear_2 f (nI i) y = some ((), y') ∧ (∀ j, j < 12 → lcI y' 21 j = 0) ∧ lcI y' 20 2 = 0 ∧ lcI y' 20 3 = 0 ∧ lcI y' 20 10 = 0 ∧ (∀ c k, c ≠ 20 → c ≠ 21 → lcI y' c k = lcI y c k) ∧ (∀ c k, lcL y' c k = lcL y c k) ∧ ∀ c k, lcR y' c k = lcR y c k
  | 0, i, f + 1, y, hi, _, h => by
    have hi : i = 12 := by omega
    refine ⟨lcUI (lcUI (lcUI y 20 2 0) 20 3 0) 20 10 0, by rw [hi, fY_clear_2, if_pos (by decide)], fun j hj => ?_, ?_, ?_, ?_, fun c k h1 h2 => ?_, fun c k => rfl, fun c k => rfl⟩
    · simp only [lcI_UI, lcI_UL, lcI_UR, lcL_UI, lcL_UL, lcL_UR, lcR_UI, lcR_UL, lcR_UR, false_and, and_false, true_and, and_true, and_self, ↓reduceIte, Nat.reduceEqDiff, lc_let_eq]; exact h j (by omega)
    · simp only [lcI_UI, lcI_UL, lcI_UR, lcL_UI, lcL_UL, lcL_UR, lcR_UI, lcR_UL, lcR_UR, false_and, and_false, true_and, and_true, and_self, ↓reduceIte, Nat.reduceEqDiff, lc_let_eq]
    · simp only [lcI_UI, lcI_UL, lcI_UR, lcL_UI, lcL_UL, lcL_UR, lcR_UI, lcR_UL, lcR_UR, false_and, and_false, true_and, and_true, and_self, ↓reduceIte, Nat.reduceEqDiff, lc_let_eq]
    · simp only [lcI_UI, lcI_UL, lcI_UR, lcL_UI, lcL_UL, lcL_UR, lcR_UI, lcR_UL, lcR_UR, false_and, and_false, true_and, and_true, and_self, ↓reduceIte, Nat.reduceEqDiff, lc_let_eq]
    · rw [lcI_UI, if_neg (by omega), lcI_UI, if_neg (by omega), lcI_UI, if_neg (by omega)]
  | m + 1, i, f + 1, y, hi, hf, h => by
    have c1 : lc_in (nI i) 12 := nI_in (by omega) (by decide)
    have d1 : (nI i).toNatClampNeg = i := nI_clamp (by omega)
    obtain ⟨y', e1, e2, e3, e4, e5, e6, e7, e8⟩ := lc_clearA m (i + 1) f (lcUI y 21 i 0) (by omega) (by omega) (fun j hj => by
      by_cases hji : j = i
      · rw [hji, lcI_UI, if_pos ⟨rfl, rfl⟩]
      · rw [lcI_UI, if_neg (by omega)]; exact h j (by omega))
    refine ⟨y', ?_, e2, e3, e4, e5, fun c k h1 h2 => by rw [e6 c k h1 h2, lcI_UI, if_neg (by omega)], e7, e8⟩
    rw [fY_clear_2, if_neg (show ¬ (12 : Int32) ≤ nI i from nI_ge (b := 12) (by omega) (by decide)), lc_chk_pos c1, d1, lc_let_eq, nI_1]; exact e1
theorem lc_clearQ (x1 x2 : Int32) : ∀ (m i f : Nat) (z : lc_S), i + m = 12 → m < f → (∀ j, j < i → lcI z 115 j = 0) → ∃ z', fQ_run_68 f x1 x2 (nI i) z = lc_bnd (fQ_plain x2.toInt64 z') (fun r z1 => lc_bnd (fQ_withName (-1) 0 r (-1) z1) (fun r z1 => lc_bnd (fQ_enter (120 * (x1 + 1)) 0 r 1 z1) (fun _ z1 => fQ_run_111 lc_FU z1))) ∧ (∀ j, j < 12 → lcI z' 115 j = 0) ∧ (∀ c k, c ≠ 115 → lcI z' c k = lcI z c k) ∧ (∀ c k, lcL z' c k = lcL z c k) ∧ ∀ c k, lcR z' c k = lcR z c k
  | 0, i, f + 1, z, hi, _, h => by
    have hi : i = 12 := by omega
    refine ⟨z, by rw [hi, fQ_run_68, if_pos (by decide)], fun j hj => h j (by omega), fun c k _ => rfl, fun c k => rfl, fun c k => rfl⟩
  | m + 1, i, f + 1, z, hi, hf, h => by
    have c1 : lc_in (nI i) 12 := nI_in (by omega) (by decide)
    have d1 : (nI i).toNatClampNeg = i := nI_clamp (by omega)
    obtain ⟨z', e1, e2, e6, e7, e8⟩ := lc_clearQ x1 x2 m (i + 1) f (lcUI z 115 i 0) (by omega) (by omega) (fun j hj => by
      by_cases hji : j = i
      · rw [hji, lcI_UI, if_pos ⟨rfl, rfl⟩]
      · rw [lcI_UI, if_neg (by omega)]; exact h j (by omega))
    refine ⟨z', ?_, e2, fun c k h1 => by rw [e6 c k h1, lcI_UI, if_neg (by omega)], e7, e8⟩
    rw [fQ_run_68, if_neg (show ¬ (12 : Int32) ≤ nI i from nI_ge (b := 12) (by omega) (by decide)), lc_chk_pos c1, d1, lc_let_eq, nI_1]; exact e1
theorem lc_nf0 {z : lc_S} (h : ∀ j, j < 12 → lcI z 115 j = 0) : ∀ n, n ≤ 12 → lc_nf z n = 0
  | 0, _ => rfl
  | n + 1, hn => by rw [lc_nf, lc_nf0 h n (by omega), h n (by omega)]; rfl
theorem lc_runM {y z : lc_S} {k o n : Nat} (x : Int32) (hPR : lc_PR y z) (hk : k < 4) (h3 : lcR y 3 k = some o) (ho : lc_sh o = (0, 1, 0)) (hth : lcI y o 0 ≠ 0) (hn : 0 < n) (hn' : n ≤ 120) (h11 : lcI y o 11 = nI n) (hR : lc_R y z o (120 * (k + 1)) 17 0 (n - 1) 0 n [(0, 0, -1, 0)]) (h89 : lcI z 89 (k + 1) = nI n) :
    ∃ r y' z', fM_trapOf 3 (nI k) x y = some (r, y') ∧ fQ_run (nI k) x z = some (r, z') ∧ lc_F y' z' ∧ lcI z' 80 46 = 1 ∧ lcI z' 80 0 = 0 := by
  have ho' := lc_o ho
  -- class
  obtain ⟨y1, e1, e2, e3, e4, e5, e6, e7, e8⟩ := lc_clearA 12 0 lc_FU (lcUR y 19 1 (some 3)) rfl (by unfold lc_FU; omega) (fun j hj => absurd hj (by omega))
  obtain ⟨y3, ey3⟩ : ∃ v, v = lcUL (lcUI (lcUI (lcUI y1 19 2 0) 19 3 0) 19 11 0) 19 4 (lc_cv 1 (lc_w x)) := ⟨_, rfl⟩
  obtain ⟨y4, ey4⟩ : ∃ v, v = lcUL (lcUR y3 29 1 (some o)) 30 (24 * 1 + 0) (lcL (lcUR y3 29 1 (some o)) 19 4) := ⟨_, rfl⟩
  have yI : ∀ c k, c ≠ 19 → c ≠ 20 → c ≠ 21 → lcI y4 c k = lcI y c k := fun c k a b d => by
    rw [ey4, lcI_UL, lcI_UR, ey3, lcI_UL, lcI_UI, if_neg (by omega), lcI_UI, if_neg (by omega), lcI_UI, if_neg (by omega), e6 c k b d, lcI_UR]
  have yI1 : ∀ c k, c ≠ 19 → lcI y4 c k = lcI y1 c k := fun c k a => by
    rw [ey4, lcI_UL, lcI_UR, ey3, lcI_UL, lcI_UI, if_neg (by omega), lcI_UI, if_neg (by omega), lcI_UI, if_neg (by omega)]
  have y4r : ∀ c k, c ≠ 29 → lcR y4 c k = lcR y1 c k := fun c k a => by
    rw [ey4, lcR_UL, lcR_UR, if_neg (by omega), ey3]; rfl
  have y3r : ∀ c k, lcR y3 c k = lcR y1 c k := fun c k => by rw [ey3]; rfl
  -- reference
  obtain ⟨z0, ez0⟩ : ∃ v, v = lcUI (lcUI (lcUI (lcUI (lcUI (lcUI (lcUI (lcUI (lcUI z 80 0 0) 80 46 1) 80 45 0) 80 48 0) 80 49 0) 80 50 0) 80 53 0) 80 40 0) 80 33 0 := ⟨_, rfl⟩
  obtain ⟨z1, q1, q2, q3, q4, q5⟩ := lc_clearQ (nI k) x 12 0 lc_FU z0 rfl (by unfold lc_FU; omega) (fun j hj => absurd hj (by omega))
  have z0I : ∀ c k, c ≠ 80 → lcI z0 c k = lcI z c k := fun c k a => by
    rw [ez0, lcI_UI, if_neg (by omega), lcI_UI, if_neg (by omega), lcI_UI, if_neg (by omega), lcI_UI, if_neg (by omega), lcI_UI, if_neg (by omega), lcI_UI, if_neg (by omega), lcI_UI, if_neg (by omega), lcI_UI, if_neg (by omega), lcI_UI, if_neg (by omega)]
  have hnm := lc_nameQ (z := z1) (n := 0) (-1) 0 (lc_mv 1 (lc_w x)) (-1) (by rw [q3 _ _ (by decide), ez0]; simp only [lcI_UI, lcI_UL, lcI_UR, lcL_UI, lcL_UL, lcL_UR, lcR_UI, lcR_UL, lcR_UR, false_and, and_false, true_and, and_true, and_self, ↓reduceIte, Nat.reduceEqDiff, lc_let_eq]; rfl) (by decide) (Or.inl rfl)
  obtain ⟨z2, ez2⟩ : ∃ v, v = lcUI (lcUI (lcUL (lcUI (lcUI z1 111 0 (-1)) 112 0 0) 113 0 (lc_mv 1 (lc_w x))) 114 0 (-1)) 80 40 (nI (0 + 1)) := ⟨_, rfl⟩
  have zI1 : ∀ c k, ¬ (c = 80 ∧ k = 40) → ¬ (111 ≤ c ∧ c ≤ 114) → lcI z2 c k = lcI z1 c k := fun c k a b => by
    rw [ez2, lcI_UI, if_neg (by omega), lcI_UI, if_neg (by omega), lcI_UL, lcI_UI, if_neg (by omega), lcI_UI, if_neg (by omega)]
  have zI : ∀ c k, c ≠ 80 → ¬ (111 ≤ c ∧ c ≤ 115) → lcI z2 c k = lcI z c k := fun c k a b => by
    rw [zI1 c k (by omega) (by omega), q3 c k (by omega), z0I c k a]
  have z80 : ∀ k, k ≠ 40 → lcI z2 80 k = lcI z0 80 k := fun k hk => by rw [zI1 80 k (by omega) (by omega), q3 _ _ (by decide)]
  have sy : lc_sy y y4 := fun c k a b => yI c k (by omega) (by omega) (by omega)
  have sz : lc_sz z z2 := fun c k a b => zI c k (by omega) (by omega)
  have hC : lc_C y4 z2 0 0 1 0 := by
    refine ⟨?_, ?_, ?_, ?_, by omega, ?_, ?_, ?_, ?_, ⟨fun j hj => ?_, ?_, ?_, ?_, ?_, by omega, ?_, fun i hi => absurd hi (by omega)⟩, lc_PR_eq sy sz (fun k => by rw [y4r _ _ (by decide), e8]; rfl) hPR⟩
    · rw [ey4, ey3]; simp only [lcI_UI, lcI_UL, lcI_UR, lcL_UI, lcL_UL, lcL_UR, lcR_UI, lcR_UL, lcR_UR, false_and, and_false, true_and, and_true, and_self, ↓reduceIte, Nat.reduceEqDiff, lc_let_eq]; rfl
    · rw [z80 _ (by decide), ez0]; simp only [lcI_UI, lcI_UL, lcI_UR, lcL_UI, lcL_UL, lcL_UR, lcR_UI, lcR_UL, lcR_UR, false_and, and_false, true_and, and_true, and_self, ↓reduceIte, Nat.reduceEqDiff, lc_let_eq]; rfl
    · rw [ey4, ey3]; simp only [lcI_UI, lcI_UL, lcI_UR, lcL_UI, lcL_UL, lcL_UR, lcR_UI, lcR_UL, lcR_UR, false_and, and_false, true_and, and_true, and_self, ↓reduceIte, Nat.reduceEqDiff, lc_let_eq]; rfl
    · rw [z80 _ (by decide), ez0]; simp only [lcI_UI, lcI_UL, lcI_UR, lcL_UI, lcL_UL, lcL_UR, lcR_UI, lcR_UL, lcR_UR, false_and, and_false, true_and, and_true, and_self, ↓reduceIte, Nat.reduceEqDiff, lc_let_eq]; rfl
    · rw [ey4, ey3]; simp only [lcI_UI, lcI_UL, lcI_UR, lcL_UI, lcL_UL, lcL_UR, lcR_UI, lcR_UL, lcR_UR, false_and, and_false, true_and, and_true, and_self, ↓reduceIte, Nat.reduceEqDiff, lc_let_eq]
    · rw [z80 _ (by decide), ez0]; simp only [lcI_UI, lcI_UL, lcI_UR, lcL_UI, lcL_UL, lcL_UR, lcR_UI, lcR_UL, lcR_UR, false_and, and_false, true_and, and_true, and_self, ↓reduceIte, Nat.reduceEqDiff, lc_let_eq]
    · rw [ez2]; simp only [lcI_UI, lcI_UL, lcI_UR, lcL_UI, lcL_UL, lcL_UR, lcR_UI, lcR_UL, lcR_UR, false_and, and_false, true_and, and_true, and_self, ↓reduceIte, Nat.reduceEqDiff, lc_let_eq]
    · rw [y4r _ _ (by decide), e8]; simp only [lcI_UI, lcI_UL, lcI_UR, lcL_UI, lcL_UL, lcL_UR, lcR_UI, lcR_UL, lcR_UR, false_and, and_false, true_and, and_true, and_self, ↓reduceIte, Nat.reduceEqDiff, lc_let_eq]
    · rw [yI1 _ _ (by decide), e2 j hj, zI1 _ _ (by omega) (by omega), q2 j hj]; exact ⟨rfl, fun h => absurd rfl h⟩
    · rw [yI1 _ _ (by decide), e3, z80 _ (by decide), ez0]; simp only [lcI_UI, lcI_UL, lcI_UR, lcL_UI, lcL_UL, lcL_UR, lcR_UI, lcR_UL, lcR_UR, false_and, and_false, true_and, and_true, and_self, ↓reduceIte, Nat.reduceEqDiff, lc_let_eq]
    · rw [yI1 _ _ (by decide), e4, z80 _ (by decide), ez0]; simp only [lcI_UI, lcI_UL, lcI_UR, lcL_UI, lcL_UL, lcL_UR, lcR_UI, lcR_UL, lcR_UR, false_and, and_false, true_and, and_true, and_self, ↓reduceIte, Nat.reduceEqDiff, lc_let_eq]
    · rw [yI1 _ _ (by decide), e5]; rfl
    · rw [z80 _ (by decide), ez0]; simp only [lcI_UI, lcI_UL, lcI_UR, lcL_UI, lcL_UL, lcL_UR, lcR_UI, lcR_UL, lcR_UR, false_and, and_false, true_and, and_true, and_self, ↓reduceIte, Nat.reduceEqDiff, lc_let_eq]; rfl
    · rw [yI1 _ _ (by decide), e3, yI1 _ _ (by decide), e4, lc_nf0 (fun j hj => by rw [zI1 _ _ (by omega) (by omega)]; exact q2 j hj) 12 (Nat.le_refl _)]; rfl
  obtain ⟨y5, z5, g1, g2, g3⟩ := lc_beginT (t := 0) (b := 0) (N := 1) (P := 0) (st := 0) (d := 1) (nm := nI 0) (dd := fun _ => 0) (ee := fun _ => []) (o := o) (k := k) (D := 17) hC ⟨fun j hj => absurd hj (by omega), fun j j' _ hj => absurd hj (by omega)⟩ (by rw [lc_c1]; omega) (by rw [lc_c3]; omega) (fun j hj => absurd hj (by omega)) (by rw [ey4, lcR_UL, lcR_UR, if_pos ⟨rfl, rfl⟩]) ho hk (by decide) (by decide) (by decide) (lc_R_eq ho' sy sz _ _ _ _ _ _ hR) (by
    refine ⟨0, 1, lc_w x, by decide, rfl, by decide, ?_, ?_, ?_, ⟨⟨by decide, by decide, lc_w_lt _, fun h => absurd h (by decide)⟩, fun h => absurd h (by decide)⟩, Or.inl ⟨rfl, ?_⟩, trivial⟩
    · rw [ez2]; simp only [lcI_UI, lcI_UL, lcI_UR, lcL_UI, lcL_UL, lcL_UR, lcR_UI, lcR_UL, lcR_UR, false_and, and_false, true_and, and_true, and_self, ↓reduceIte, Nat.reduceEqDiff, lc_let_eq]
    · rw [ez2]; simp only [lcI_UI, lcI_UL, lcI_UR, lcL_UI, lcL_UL, lcL_UR, lcR_UI, lcR_UL, lcR_UR, false_and, and_false, true_and, and_true, and_self, ↓reduceIte, Nat.reduceEqDiff, lc_let_eq]
    · rw [ez2]; simp only [lcI_UI, lcI_UL, lcI_UR, lcL_UI, lcL_UL, lcL_UR, lcR_UI, lcR_UL, lcR_UR, false_and, and_false, true_and, and_true, and_self, ↓reduceIte, Nat.reduceEqDiff, lc_let_eq]
    · rw [ey4, lcL_UL, if_pos ⟨rfl, rfl⟩, ey3]; simp only [lcI_UI, lcI_UL, lcI_UR, lcL_UI, lcL_UL, lcL_UR, lcR_UI, lcR_UL, lcR_UR, false_and, and_false, true_and, and_true, and_self, ↓reduceIte, Nat.reduceEqDiff, lc_let_eq])
  have g3 : ∃ t b N P, lc_J y5 z5 t b N P 0 := by
    rcases g3 with h | h
    · exact h
    · exfalso
      rw [lc_beginA (b := 0) (t := 0) _ _ hC.2.2.1 hC.1 (by decide) (by decide)] at g1
      have : y5 = _ := (Prod.mk.inj (Option.some.inj g1)).2.symm
      apply h.1
      rw [this]
      simp only [lcI_UI, lcI_UL, lcI_UR, lcL_UI, lcL_UL, lcL_UR, lcR_UI, lcR_UL, lcR_UR, false_and, and_false, true_and, and_true, and_self, ↓reduceIte, Nat.reduceEqDiff, lc_let_eq]
      exact hC.2.2.2.2.2.1
  obtain ⟨t, b, N, P, hJ⟩ := g3
  obtain ⟨r, y6, z6, w1, w2, w3⟩ := lc_loopF hJ
  have hfr := g5Q_run_111 w2
  have z5e : z5 = _ := (Prod.mk.inj (Option.some.inj ((lc_enterQ (b := 0) (t := 0) (nI (120 * (k + 1))) (nI 0) (nI 0) (nI 1) hC.2.2.2.1 hC.2.1 (by decide) (by decide)).symm.trans g2))).2.symm
  refine ⟨r, y6, z6, ?_, ?_, w3, ?_, ?_⟩
  · have c1 : lc_in (nI k) 4 := nI_in hk (by decide)
    have d1 : (nI k).toNatClampNeg = k := nI_clamp (by omega)
    have s3 : lc_sh 3 = (3, 4, 4) := by decide +kernel
    have r1 : lcR y3 19 1 = some 3 := by rw [y3r, e8]; simp only [lcI_UI, lcI_UL, lcI_UR, lcL_UI, lcL_UL, lcL_UR, lcR_UI, lcR_UL, lcR_UR, false_and, and_false, true_and, and_true, and_self, ↓reduceIte, Nat.reduceEqDiff, lc_let_eq]
    have r2 : lcR y3 3 k = some o := by rw [y3r, e8]; simp only [lcI_UI, lcI_UL, lcI_UR, lcL_UI, lcL_UL, lcL_UR, lcR_UI, lcR_UL, lcR_UR, false_and, and_false, true_and, and_true, and_self, ↓reduceIte, Nat.reduceEqDiff, lc_let_eq]; exact h3
    have y3I : ∀ c k, c ≠ 19 → c ≠ 20 → c ≠ 21 → lcI y3 c k = lcI y c k := fun c k a b d => by
      rw [ey3, lcI_UL, lcI_UI, if_neg (by omega), lcI_UI, if_neg (by omega), lcI_UI, if_neg (by omega), e6 c k b d, lcI_UR]
    have hbi := lc_bindA (lcUR y3 29 1 (some o)) (d := 1) (b := 0) (by omega) (by decide)
    rw [← ey4] at hbi
    have hbo : fP_body o y4 = some (nI (n - 1), y4) := by
      rw [fP_body, lc_chk_pos ho, yI _ _ (by omega) (by omega) (by omega), h11, show n = n - 1 + 1 by omega, nI_pred]; rfl
    have hen : fM_enter (nI k) 1 y3 = some ((), y5) := by
      rw [fM_enter, lc_bnr_eq r1, lc_chk_pos s3, lc_chk_pos c1, lc_bnr_eq (by rw [d1]; exact r2), lc_chk_pos ho, if_neg (by rw [y3I _ _ (by omega) (by omega) (by omega)]; exact hth), if_pos (by decide), lc_bnr_eq r1, lc_chk_pos s3, lc_chk_pos c1, lc_bnr_eq (by rw [d1]; exact r2), lc_chk_pos (by decide), lc_chk_pos ho, lc_bnd_eq (show fM_bind 1 0 (lcUR y3 29 (1 : Int32).toNatClampNeg (some o)) = some ((), y4) from hbi), lc_bnr_eq (by rw [y4r _ _ (by decide), ← y3r]; exact r1), lc_chk_pos s3, lc_chk_pos c1, lc_bnr_eq (by rw [d1, y4r _ _ (by decide), ← y3r]; exact r2), lc_chk_pos ho, lc_bnd_eq hbo, lc_bnd_id]
      exact g1
    rw [fM_trapOf, lc_bnd_eq (show fY_clear (lcUR y 19 1 (some 3)) = some ((), y1) from e1), lc_bnd_eq (lc_of1 x _), ← ey3, lc_bnd_eq hen]
    exact w1
  · have th : fQ_isThere (nI k) z = some (1, z) := by rw [lc_isThereQ hk, h89, if_pos (show (0 : Int32) < nI n from nI_lt (a := 0) hn (by omega))]
    have hb : (120 : Int32) * (nI k + 1) = nI (120 * (k + 1)) := by rw [nI_1, show (120 : Int32) = nI 120 from rfl, pk_mul]
    rw [fQ_run, lc_bnd_eq th, if_neg (by decide), fQ_run_14, if_pos (by simp only [lcI_UI, lcI_UL, lcI_UR, lcL_UI, lcL_UL, lcL_UR, lcR_UI, lcR_UL, lcR_UR, false_and, and_false, true_and, and_true, and_self, ↓reduceIte, Nat.reduceEqDiff, lc_let_eq]; decide), ← ez0]
    refine Eq.trans q1 ?_
    rw [lc_bnd_eq (lc_plain x z1), lc_bnd_eq hnm, ← ez2, hb, lc_bnd_eq (show fQ_enter (nI (120 * (k + 1))) 0 (nI 0) 1 z2 = some ((), z5) from g2)]
    exact w2
  · rw [(hfr 80 46 rfl).1, z5e]
    simp only [lcI_UI, lcI_UL, lcI_UR, lcL_UI, lcL_UL, lcL_UR, lcR_UI, lcR_UL, lcR_UR, false_and, and_false, true_and, and_true, and_self, ↓reduceIte, Nat.reduceEqDiff, lc_let_eq]
    rw [z80 _ (by decide), ez0]
    simp only [lcI_UI, lcI_UL, lcI_UR, lcL_UI, lcL_UL, lcL_UR, lcR_UI, lcR_UL, lcR_UR, false_and, and_false, true_and, and_true, and_self, ↓reduceIte, Nat.reduceEqDiff, lc_let_eq]
  · rw [(hfr 80 0 rfl).1, z5e]
    simp only [lcI_UI, lcI_UL, lcI_UR, lcL_UI, lcL_UL, lcL_UR, lcR_UI, lcR_UL, lcR_UR, false_and, and_false, true_and, and_true, and_self, ↓reduceIte, Nat.reduceEqDiff, lc_let_eq]
    rw [z80 _ (by decide), ez0]
    simp only [lcI_UI, lcI_UL, lcI_UR, lcL_UI, lcL_UL, lcL_UR, lcR_UI, lcR_UL, lcR_UR, false_and, and_false, true_and, and_true, and_self, ↓reduceIte, Nat.reduceEqDiff, lc_let_eq]
/-- what a turn of run keeps -/
def lc_rk (z z' : lc_S) : Prop := ∀ c k, c ≠ 0 → lc_a1 c k = false → lc_a2 c k = false → lcI z' c k = lcI z c k ∧ lcL z' c k = lcL z c k ∧ lcR z' c k = lcR z c k
theorem lc_isThereA {y : lc_S} (b : Int32) (hb : ¬ (b < 0 ∨ 4 ≤ b) → ∃ o, lcR y 3 b.toNatClampNeg = some o ∧ lc_sh o = (0, 1, 0)) : (∃ k o, k < 4 ∧ b = nI k ∧ lcR y 3 k = some o ∧ lcI y o 0 ≠ 0 ∧ fA_isThere b y = some (1, y)) ∨ (fA_isThere b y = some (0, y) ∧ ∀ k o, k < 4 → b = nI k → lcR y 3 k = some o → lcI y o 0 = 0) := by
  by_cases h0 : b < 0
  · right
    refine ⟨by rw [fA_isThere, lc_bnd_eq (show fA_isProcedureNumber b y = some (0, y) by rw [fA_isProcedureNumber, if_pos h0]; rfl), if_pos rfl]; rfl, fun k o hk e => ?_⟩
    rw [e] at h0
    exact absurd h0 (nI_pos (by omega))
  · by_cases h4 : 4 ≤ b
    · right
      refine ⟨by rw [fA_isThere, lc_bnd_eq (show fA_isProcedureNumber b y = some (0, y) by rw [fA_isProcedureNumber, if_neg h0, if_pos h4]; rfl), if_pos rfl]; rfl, fun k o hk e => ?_⟩
      rw [e] at h4
      exact absurd h4 (nI_ge (b := 4) hk (by decide))
    · obtain ⟨k, hk, rfl⟩ := nI_of h0
      have hk4 : k < 4 := Nat.lt_of_not_le (fun h => h4 (nI_le (a := 4) h hk))
      have c1 : lc_in (nI k) 4 := nI_in hk4 (by decide)
      have d1 : (nI k).toNatClampNeg = k := nI_clamp hk
      obtain ⟨o, r1, r2⟩ := hb (by rintro (h | h); exact h0 h; exact h4 h)
      have e0 : fA_isThere (nI k) y = if lcI y o 0 = 0 then some (0, y) else some (1, y) := by
        rw [fA_isThere, lc_bnd_eq (show fA_isProcedureNumber (nI k) y = some (1, y) by rw [fA_isProcedureNumber, if_neg h0, if_neg h4]), if_neg (by decide), lc_chk_pos c1, lc_bnr_eq r1, lc_chk_pos r2]; rfl
      rw [d1] at r1
      by_cases ht : lcI y o 0 = 0
      · right
        refine ⟨by rw [e0, if_pos ht], fun k' o' hk' e r => ?_⟩
        have : k = k' := (nI_eq hk (by omega)).mp e
        subst this
        rw [r1] at r
        cases r
        exact ht
      · exact Or.inl ⟨k, o, hk4, rfl, r1, ht, by rw [e0, if_neg ht]⟩
theorem lc_isThereQ0 {z : lc_S} (b : Int32) (h : ∀ k, k < 4 → b = nI k → lcI z 89 (k + 1) = 0) : fQ_isThere b z = some (0, z) := by
  rw [fQ_isThere]
  by_cases h0 : b < 0
  · rw [if_pos h0]; rfl
  · by_cases h4 : 4 ≤ b
    · rw [if_neg h0, if_pos h4]; rfl
    · obtain ⟨k, hk, rfl⟩ := nI_of h0
      have hk4 : k < 4 := Nat.lt_of_not_le (fun h => h4 (nI_le (a := 4) h hk))
      have := lc_isThereQ (z := z) hk4
      rw [fQ_isThere, if_neg h0, if_neg h4, h k hk4 rfl] at this
      rw [if_neg h0, if_neg h4]
      exact this
theorem lc_PR_o {y z : lc_S} (h : lc_PR y z) (b : Int32) : ¬ (b < 0 ∨ 4 ≤ b) → ∃ o, lcR y 3 b.toNatClampNeg = some o ∧ lc_sh o = (0, 1, 0) := fun hb => by
  have h0 : ¬ b < 0 := fun h => hb (Or.inl h)
  have h4 : ¬ 4 ≤ b := fun h => hb (Or.inr h)
  obtain ⟨k, hk, rfl⟩ := nI_of h0
  have hk4 : k < 4 := Nat.lt_of_not_le (fun h => h4 (nI_le (a := 4) h hk))
  obtain ⟨o, r1, r2, -⟩ := h k hk4
  exact ⟨o, by rw [nI_clamp hk]; exact r1, r2⟩
theorem lc_hi_eq {z z' : lc_S} (h : lc_hi z z') : (∀ c k, c < 80 → lcI z' c k = lcI z c k) ∧ (∀ c k, c < 80 → lcL z' c k = lcL z c k) ∧ ∀ c k, c < 80 → lcR z' c k = lcR z c k := ⟨fun c k hc => (h c hc k).1, fun c k hc => (h c hc k).2.1, fun c k hc => (h c hc k).2.2⟩
theorem lc_out_fr (k : Nat) (v : Int32) (z : lc_S) : (∀ c j, lcI (lc_out k v z) c j = lcI z c j) ∧ (∀ c j, c ≠ 0 → lcL (lc_out k v z) c j = lcL z c j) ∧ ∀ c j, lcR (lc_out k v z) c j = lcR z c j := by
  unfold lc_out
  by_cases h : k = 0
  · rw [if_pos h]; exact ⟨fun c j => rfl, fun c j hc => by rw [lcL_UL, if_neg (fun e => hc e.1)], fun c j => rfl⟩
  · rw [if_neg h]; exact ⟨fun c j => rfl, fun c j hc => rfl, fun c j => rfl⟩
theorem lc_turnRun (z : lc_S) (b c : Int32) (hPR : lc_PR z z) (hm : lc_mem z) (hv : lc_vl z) : ∃ z', lc_tX (fA_run b c) (fQ_run b c) (fun k => k = 0 ∨ k = 3) z z' ∧ lc_rk z z' ∧ lc_mem z' ∧ lc_vl z' := by
  rcases lc_isThereA b (lc_PR_o hPR b) with ⟨k, o, hk, rfl, r1, r2, r3⟩ | ⟨r3, r4⟩
  · obtain ⟨o', p1, p2, p3⟩ := hPR k hk
    rw [r1] at p1
    cases p1
    rcases p3 with ⟨p3, -⟩ | ⟨-, n, n1, n2, n3, n4, n5⟩
    · exact absurd p3 r2
    · obtain ⟨r, y1, z1, e1, -, -⟩ := lc_runM c hPR hk r1 p2 r2 n1 n2 n3 n5 n4
      have hlo := g1M_trapOf e1
      obtain ⟨o1, o2, o3⟩ := lc_out_fr 0 r y1
      have hi : ∀ c k, 80 ≤ c → lcI (lc_out 0 r y1) c k = lcI z c k := fun c k hc => by
        rw [o1]; exact (hlo c k (by unfold lc_a1; rw [Bool.and_eq_false_iff]; right; exact Bool.eq_false_iff.mpr (fun h => by have := Nat.le_of_ble_eq_true h; omega))).1
      have sz : lc_sz z (lc_out 0 r y1) := fun c k a b => hi c k (by omega)
      have n4' : lcI (lc_out 0 r y1) 89 (k + 1) = nI n := by rw [hi _ _ (by decide)]; exact n4
      obtain ⟨r', y2, z2, g1, g2, g3, g4, g5⟩ := lc_runM (z := lc_out 0 r y1) c (lc_PR_eq (fun _ _ _ _ => rfl) sz (fun _ => rfl) hPR) hk r1 p2 r2 n1 n2 n3 (lc_R_eq (lc_o p2) (fun _ _ _ _ => rfl) sz _ _ _ _ _ _ n5) n4'
      rw [e1] at g1
      cases g1
      obtain ⟨h1, h2, h3⟩ := lc_hi_eq (gQ_run g2)
      have hfr := g2Q_run g2
      obtain ⟨P, f1, f2, f3, f4, f5, f6, f7, f8, f9, f10⟩ := g3
      have I : ∀ c k, c < 80 → lcI z2 c k = lcI y1 c k := fun c k hc => by rw [h1 c k hc, o1]
      have Lg : ∀ c k, c < 80 → c ≠ 0 → lcL z2 c k = lcL y1 c k := fun c k hc h0 => by rw [h2 c k hc, o2 c k h0]
      refine ⟨z2, ⟨0, r, y1, r, z2, ?_, Or.inl rfl, g2, ?_, fun _ => ?_⟩, fun c k h0 ha hb => ?_, ?_, ?_⟩
      · rw [fA_run, lc_bnd_eq r3, if_neg (by decide), lc_bnd_eq e1]
      · rw [fQ_thrown, g5]; rfl
      · rw [h2 0 _ (by decide)]; unfold lc_out; rw [if_pos rfl, lcL_UL, if_pos ⟨rfl, rfl⟩]
      · obtain ⟨x1, x2, x3⟩ := hfr c k hb
        obtain ⟨w1, w2, w3⟩ := hlo c k ha
        exact ⟨by rw [x1, o1, w1], by rw [x2, o2 c k h0, w2], by rw [x3, o3, w3]⟩
      · exact ⟨fun j hj => by rw [I 21 _ (by decide), I 22 _ (by decide)]; exact f6 j hj, by rw [I _ _ (by decide)]; exact f7, by rw [I _ _ (by decide)]; exact f8, by rw [I _ _ (by decide), f2, f3], by rw [I _ _ (by decide)]; exact f9, by rw [I _ _ (by decide), I _ _ (by decide)]; exact f10⟩
      · refine ⟨P, ⟨f1, by rw [I _ _ (by decide)]; exact f2, f3, fun i hi => ?_⟩, ?_⟩
        · obtain ⟨k, w, k', w', o1, o2, p1, p2, p3, p4, s1, s2, s3, s4, s5, s6⟩ := f4 i hi
          have e27 : ∀ k w, lc_hb z2 k w ↔ lc_hb y1 k w := fun k w => by unfold lc_hb; rw [I _ _ (by decide)]
          have e28 : ∀ k w, lc_fn z2 k w = lc_fn y1 k w := fun k w => by unfold lc_fn; rw [I _ _ (by decide)]
          have e25 : ∀ k w, lc_sm z2 25 2 k w = lc_sm y1 25 2 k w := fun k w => by unfold lc_sm; rw [I _ _ (by decide)]
          have e26 : ∀ k w, lc_sm z2 26 1 k w = lc_sm y1 26 1 k w := fun k w => by unfold lc_sm; rw [I _ _ (by decide)]
          exact ⟨k, w, k', w', o1, o2, by rw [Lg _ _ (by decide) (by decide)]; exact p1, p2, by rw [Lg _ _ (by decide) (by decide)]; exact p3, p4, by rw [I _ _ (by decide), e25, e25]; exact s1, by rw [I _ _ (by decide), e26, e26]; exact s2, by rw [I _ _ (by decide)]; exact s3, by rw [I _ _ (by decide), e27, e27]; exact s4, fun h => by rw [I _ _ (by decide), e28]; exact s5 ((e27 k w).mp h), fun h => by rw [I _ _ (by decide), e28]; exact s6 (fun h' => h ((e27 k w).mpr h'))⟩
        · rw [Lg _ _ (by decide) (by decide)]
          rcases f5 with ⟨q1, q2⟩ | ⟨q1, q2⟩
          · exact Or.inl ⟨q1, Or.inr q2⟩
          · exact Or.inr ⟨by rw [g4]; decide, q1, q2⟩
  · have hq : fQ_isThere b (lc_out 3 0 z) = some (0, lc_out 3 0 z) := lc_isThereQ0 b (fun k hk e => by
      obtain ⟨o, p1, p2, p3⟩ := hPR k hk
      have h0 := r4 k o hk e p1
      rcases p3 with ⟨-, p4⟩ | ⟨p4, -⟩
      · exact p4
      · exact absurd h0 p4)
    have hz : lc_out 3 0 z = z := rfl
    refine ⟨lcUI z 80 0 1, ⟨3, 0, z, 0, lcUI z 80 0 1, ?_, Or.inr rfl, ?_, ?_, fun h => by cases h⟩, fun c k h0 ha hb => ⟨?_, rfl, rfl⟩, lc_mem_q (lc_q_out 3 0 1 z) hm, lc_vl_qw (lc_q_qw (lc_q_out 3 0 1 z)) hv⟩
    · rw [fA_run, lc_bnd_eq r3, if_pos rfl]
    · rw [fQ_run, lc_bnd_eq hq, if_pos rfl, hz, fQ_run_14, if_neg (by simp only [lcI_UI, lcI_UL, lcI_UR, lcL_UI, lcL_UL, lcL_UR, lcR_UI, lcR_UL, lcR_UR, false_and, and_false, true_and, and_true, and_self, ↓reduceIte, Nat.reduceEqDiff, lc_let_eq]; decide)]
    · rw [fQ_thrown]; simp only [lcI_UI, lcI_UL, lcI_UR, lcL_UI, lcL_UL, lcL_UR, lcR_UI, lcR_UL, lcR_UR, false_and, and_false, true_and, and_true, and_self, ↓reduceIte, Nat.reduceEqDiff, lc_let_eq]; rfl
    · rw [lcI_UI, if_neg (fun e => by rw [e.1, e.2] at hb; cases hb)]
