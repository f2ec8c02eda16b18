/-! steps by kinds: a call; the last part's value is an expression's own -/
theorem lc_isThereQ {z : lc_S} {c : Nat} (hc : c < 4) : fQ_isThere (nI c) z = some (if 0 < lcI z 89 (c + 1) then 1 else 0, z) := by
  have c1 : lc_in (nI (c + 1)) 5 := nI_in (by omega) (by decide)
  have d1 : (nI (c + 1)).toNatClampNeg = c + 1 := nI_clamp (by omega)
  rw [fQ_isThere, if_neg (nI_pos (by omega))]
  have h4 : ¬ (4 : Int32) ≤ nI c := nI_ge (b := 4) hc (by decide)
  rw [if_neg h4, nI_1, lc_chk_pos c1, d1]
  by_cases h : 0 < lcI z 89 (c + 1)
  · rw [if_pos h, if_neg (fun h' => absurd h (Int32.not_lt.mpr h'))]
  · rw [if_neg h, if_pos (Int32.not_lt.mp h)]; rfl
theorem lc_sCall {y z : lc_S} {t b N P st o k D i p lo hi c : Nat} {dd : Nat → Nat} {ee : Nat → List lc_en} (h : lc_TP y z t b N P st dd ee o k (D + 1) i p 1) (ht' : t < 408) (hN : N ≤ 2000) (hi' : i < 120) (hp : p < 120) (hR : lc_R y z o (120 * (k + 1)) (D + 1) lo i p hi (ee t)) (hV : lc_V y z P) (hK : lcI y (o + 2) i = 64) (hS : lcI z 82 (120 * (k + 1) + p) = lcI y (o + 2) i) (hc : c < 4) (h6 : lcI y (o + 6) i = nI c) (h83 : lcI z 83 (120 * (k + 1) + p) = nI c) : lc_GO y z t i (dd t) o (120 * (k + 1) + p) (120 * (k + 1)) 1 st := by
  obtain ⟨n0, n3, n1, n2, n8, n9⟩ := lc_two_not (Or.inr (Or.inr (Or.inr hK)))
  obtain ⟨k', w', v1, v2, v3⟩ := hV
  have hC : lc_C y z (t + 1) b N P := h.1
  have h0 := h
  obtain ⟨⟨b1, b2, b3, b4, b5, b6, b7, b8, b9, b10, b11⟩, a2', a3, a4, a5, a6, a7, a8, a9, a10, a11, a12, a13, a14, a15, a16, a17, a18, a19⟩ := h
  have hq : 120 * (k + 1) + p < 600 := by omega
  obtain ⟨o', r1, r2, r3⟩ := b11 c hc
  have gA : lc_goA y t i (dd t) o 1 = fM_enter (nI c) (nI (dd t + 1)) y := by
    rw [lc_goA, if_neg n1, if_neg n2, if_neg (by decide), if_pos rfl, if_neg n3, lc_goOnA b1 ht' hi' a7 a10 a9, if_neg (by rw [hK]; decide), if_neg (by rw [hK]; decide), if_neg (by rw [hK]; decide), if_pos hK, h6, nI_1]
  have gQ : lc_goQ z t (120 * (k + 1) + p) (120 * (k + 1)) 1 = fQ_call (nI t) (nI c) (nI 1) z := by
    rw [lc_goQ, hS, if_neg n8, if_neg n9, if_neg (by decide), if_neg (by rw [hK]; decide), hK, lc_bnd_eq (show fQ_partsOf 64 z = some (1, z) from rfl), if_neg (by decide), lc_225call hq h83]
  have c1 : lc_in (nI c) 4 := nI_in hc (by decide)
  have d1 : (nI c).toNatClampNeg = c := nI_clamp (by omega)
  have s3 : lc_sh 3 = (3, 4, 4) := by decide +kernel
  have c2 : lc_in (nI t) 430 := nI_in (by omega) (by decide)
  have d2 : (nI t).toNatClampNeg = t := nI_clamp (by omega)
  have n12 : ¬ nI 1 = 2 := by decide
  rcases r3 with ⟨r4, r5⟩ | ⟨r4, n, r5, r6, r7, r8, r9⟩
  · refine ⟨_, _, ?_, ?_, Or.inr (lc_trapX (k := 4) (by decide) hC)⟩
    · rw [gA, fM_enter, lc_bnr_eq b9, lc_chk_pos s3, lc_chk_pos c1, lc_bnr_eq (by rw [d1]; exact r1), lc_chk_pos r2, if_pos r4]
    · rw [gQ, fQ_call, if_neg n12, lc_bnd_eq (show fQ_isThere (nI c) z = some (0, z) by rw [lc_isThereQ hc, r5]; rfl), if_pos rfl, lc_bnd_eq (lc_stopQ 4 b7)]
  · have th : (if 0 < lcI z 89 (c + 1) then (1 : Int32) else 0) = 1 := by rw [r8, if_pos (show (0 : Int32) < nI n from nI_lt (a := 0) r5 (by omega))]
    have q1 : fQ_isThere (nI c) z = some (1, z) := by rw [lc_isThereQ hc, th]
    have dm : lcI z 108 t = 24 ↔ dd t = 24 := by rw [a17]; exact nI_eq (b := 24) (by omega) (by decide)
    by_cases h24 : dd t = 24
    · refine ⟨_, _, ?_, ?_, Or.inr (lc_trapX (k := 3) (by decide) hC)⟩
      · rw [gA, fM_enter, lc_bnr_eq b9, lc_chk_pos s3, lc_chk_pos c1, lc_bnr_eq (by rw [d1]; exact r1), lc_chk_pos r2, if_neg r4, if_neg (show ¬ nI (dd t + 1) ≤ 24 from nI_ge (b := dd t + 1) (a := 24) (by omega) (by omega))]
      · rw [gQ, fQ_call, if_neg n12, lc_bnd_eq q1, if_neg (show ¬ (1 : Int32) = 0 by decide), lc_chk_pos c2, if_pos (by rw [d2]; exact dm.mpr h24), lc_bnd_eq (lc_stopQ 3 b7)]
    · have hd : dd t < 24 := by omega
      have hnm := lc_nameQ (-1) 0 (lcL z 80 47) (-1) b8 (by omega) (Or.inl rfl)
      obtain ⟨z2, ez⟩ : ∃ x, x = lcUI (lcUI (lcUL (lcUI (lcUI z 111 N (-1)) 112 N 0) 113 N (lcL z 80 47)) 114 N (-1)) 80 40 (nI (N + 1)) := ⟨_, rfl⟩
      have zI : ∀ c k, ¬ (c = 80 ∧ k = 40) → ¬ (111 ≤ c ∧ c ≤ 114 ∧ N ≤ k) → lcI z2 c k = lcI z c k := fun c k h h' => by
        rw [ez, lcI_UI, if_neg (by omega), lcI_UI, if_neg (by omega), lcI_UL, lcI_UI, if_neg (by omega), lcI_UI, if_neg (by omega)]
      have zL : ∀ c k, ¬ (c = 113 ∧ N ≤ k) → lcL z2 c k = lcL z c k := fun c k h => by
        rw [ez, lcL_UI, lcL_UI, lcL_UL, if_neg (by omega), lcL_UI, lcL_UI]
      obtain ⟨y1, ey1⟩ : ∃ x, x = lcUR y 29 (dd t + 1) (some o') := ⟨_, rfl⟩
      obtain ⟨y2, ey⟩ : ∃ x, x = lcUL y1 30 (24 * (dd t + 1) + 0) (lcL y1 19 4) := ⟨_, rfl⟩
      have yL : ∀ c k, ¬ (c = 30 ∧ k = 24 * (dd t + 1)) → lcL y2 c k = lcL y c k := fun c k h => by rw [ey, lcL_UL, if_neg (by omega), ey1, lcL_UR]
      have yI : ∀ c k, lcI y2 c k = lcI y c k := fun c k => by rw [ey, lcI_UL, ey1, lcI_UR]
      have yR : ∀ c k, ¬ (c = 29 ∧ k = dd t + 1) → lcR y2 c k = lcR y c k := fun c k h => by rw [ey, lcR_UL, ey1, lcR_UR, if_neg h]
      have hm : ∀ j, j < t + 1 → dd j ≤ dd t := fun j hj => by
        by_cases hjt : j = t
        · rw [hjt]; exact Nat.le_refl _
        · exact (a11 j (by omega)).1
      obtain ⟨y', z', e1, e2, e3⟩ := lc_T_push (y2 := y2) (z2 := z2) (N2 := N + 1) (nm := nI N) (d' := dd t + 1) (W := fun a => a = 24 * (dd t + 1)) (V := fun d => d = dd t + 1) (k' := c) (o' := o') (env' := [(0, 0, -1, 0)]) h0 hR n0 yI (fun c k h => yL c k (by omega)) (fun a h => yL _ _ (by omega)) (fun c k h => yR _ _ (by omega)) (fun d h => yR _ _ (by omega)) zI zL (by rw [ez, lcI_UI, if_pos ⟨rfl, rfl⟩]) (by omega) (by omega) (fun j hj e he hh => by
          by_cases hjt : j = t
          · subst hjt
            have := lc_CH_24 _ _ _ a19 e he
            omega
          · obtain ⟨o'', k'', D', lo', i', p', hi', s', -, -, -, -, -, -, -, -, -, -, -, -, -, -, -, hc', -⟩ := a2'.1 j (by omega)
            have := lc_CH_24 _ _ _ hc' e he
            have := hm j hj
            omega) (fun j hj hh => by have := hm j hj; omega) (fun j hj => by have := hm j hj; exact ⟨by omega, fun h => absurd h (by omega)⟩) (by rw [ey, lcR_UL, ey1, lcR_UR, if_pos ⟨rfl, rfl⟩]) r2 hc (by omega) (by omega) (D' := 17) (by omega) r9 (by
          refine ⟨N, k', w', by omega, rfl, by decide, ?_, ?_, ?_, v1, Or.inl ⟨rfl, ?_⟩, trivial⟩
          · rw [ez]; simp only [lcI_UI, lcI_UL, lcI_UR, lcL_UI, lcL_UL, lcL_UR, lcR_UI, lcR_UL, lcR_UR, false_and, and_false, true_and, and_true, and_self, ↓reduceIte, Nat.reduceEqDiff, lc_let_eq]
          · rw [ez]; simp only [lcI_UI, lcI_UL, lcI_UR, lcL_UI, lcL_UL, lcL_UR, lcR_UI, lcR_UL, lcR_UR, false_and, and_false, true_and, and_true, and_self, ↓reduceIte, Nat.reduceEqDiff, lc_let_eq]
          · rw [ez]; simp only [v3, lcI_UI, lcI_UL, lcI_UR, lcL_UI, lcL_UL, lcL_UR, lcR_UI, lcR_UL, lcR_UR, false_and, and_false, true_and, and_true, and_self, ↓reduceIte, Nat.reduceEqDiff, lc_let_eq]
          · rw [ey, lcL_UL, if_pos ⟨rfl, rfl⟩, ey1]; exact v2)
      refine ⟨y', z', ?_, ?_, e3⟩
      · have hbi := lc_bindA y1 (d := dd t + 1) (b := 0) (by omega) (by decide)
        rw [← ey] at hbi
        have ho' := lc_o r2
        have hbo : fP_body o' y2 = some (nI (n - 1), y2) := by
          rw [fP_body, lc_chk_pos r2, yI, r7, show n = n - 1 + 1 by omega, nI_pred]; rfl
        have c5 : lc_in (nI (dd t + 1)) 25 := nI_in (by omega) (by decide)
        have d5 : (nI (dd t + 1)).toNatClampNeg = dd t + 1 := nI_clamp (by omega)
        rw [gA, fM_enter, lc_bnr_eq b9, lc_chk_pos s3, lc_chk_pos c1, lc_bnr_eq (by rw [d1]; exact r1), lc_chk_pos r2, if_neg r4, if_pos (show nI (dd t + 1) ≤ 24 from nI_le (b := 24) (by omega) (by decide)), lc_bnr_eq b9, lc_chk_pos s3, lc_chk_pos c1, lc_bnr_eq (by rw [d1]; exact r1), lc_chk_pos c5, lc_chk_pos r2, lc_bnd_eq (show fM_bind (nI (dd t + 1)) 0 (lcUR y 29 (nI (dd t + 1)).toNatClampNeg (some o')) = some ((), y2) by rw [d5, ← ey1]; exact hbi), lc_bnr_eq (by rw [yR _ _ (by omega)]; exact b9), lc_chk_pos s3, lc_chk_pos c1, lc_bnr_eq (by rw [d1, yR _ _ (by omega)]; exact r1), lc_chk_pos r2, lc_bnd_eq hbo, lc_bnd_id]
        exact e1
      · have hb : (120 : Int32) * (nI c + 1) = nI (120 * (c + 1)) := by rw [nI_1, show (120 : Int32) = nI 120 from rfl, pk_mul]
        rw [gQ, fQ_call, if_neg n12, lc_bnd_eq q1, if_neg (show ¬ (1 : Int32) = 0 by decide), lc_chk_pos c2, if_neg (fun h => h24 (dm.mp (by rw [d2] at h; exact h))), lc_bnd_eq hnm, ← ez, lc_chk_pos c2, d2, hb, zI 108 _ (by omega) (by omega), a17, nI_1, lc_bnd_id]
        exact e2
/-- behind the last part of : / ? @ -/
theorem lc_sPass {y z : lc_S} {t b N P st o k D i p c : Nat} {dd : Nat → Nat} {ee : Nat → List lc_en} (h : lc_TP y z t b N P st dd ee o k D i p 2) (ht' : t < 408) (hp : p < 120) (hV : lc_V y z P) (hK : lcI y (o + 2) i = 58 ∨ lcI y (o + 2) i = 47 ∨ lcI y (o + 2) i = 63 ∨ (lcI y (o + 2) i = 64 ∧ lcI z 83 (120 * (k + 1) + p) = nI c)) (hS : lcI z 82 (120 * (k + 1) + p) = lcI y (o + 2) i) : lc_GO y z t i (dd t) o (120 * (k + 1) + p) (120 * (k + 1)) 2 st := by
  have hk4 := h.2.2.2.2.2.2.2.1
  obtain ⟨n0, n3, n1, n2, n8, n9⟩ := lc_two_not (show lcI y (o + 2) i = 58 ∨ lcI y (o + 2) i = 47 ∨ lcI y (o + 2) i = 63 ∨ lcI y (o + 2) i = 64 by rcases hK with h | h | h | ⟨h, -⟩ <;> simp [h])
  obtain ⟨k', w', v1, v2, v3⟩ := hV
  obtain ⟨y', z', e1, e2, e3⟩ := lc_T_end h v1
  refine ⟨y', z', ?_, ?_, e3⟩
  · rw [lc_goA, if_neg n1, if_neg n2, if_neg (by decide), if_neg (by decide), v2]
    have hf : ∀ K : Int32, (K = 58 ∨ K = 47 ∨ K = 63 ∨ K = 64) → fM_finish K (lcL y 34 t) (lc_cv k' w') y = fM_end (lc_cv k' w') y := fun K hK => by
      rcases hK with h | h | h | h <;> subst h <;> (rw [fM_finish]; simp only [fM_finish_84, lc_bnd_id]; rfl)
    rw [hf _ (by rcases hK with h | h | h | ⟨h, -⟩ <;> simp [h])]; exact e1
  · have n22 : nI 2 = 2 := rfl
    rw [lc_goQ, hS, if_neg n8, if_neg n9, if_neg (by decide)]
    rcases hK with h | h | h | ⟨h, h83⟩
    · rw [if_pos (by rw [h]; decide), fQ_goOn, if_pos n22, v3, lc_bnd_id]; exact e2
    · rw [if_pos (by rw [h]; decide), fQ_goOn, if_pos n22, v3, lc_bnd_id]; exact e2
    · rw [if_pos (by rw [h]; decide), fQ_goOn, if_pos n22, v3, lc_bnd_id]; exact e2
    · rw [if_neg (by rw [h]; decide), h, lc_bnd_eq (show fQ_partsOf 64 z = some (1, z) from rfl), if_neg (by decide), lc_225call (by omega) h83, fQ_call, if_pos n22, v3, lc_bnd_id]; exact e2
