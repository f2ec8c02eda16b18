/-! steps by kinds: : / ? @ behind their first parts -/
theorem lc_two_not {K : Int32} (h : K = 58 ∨ K = 47 ∨ K = 63 ∨ K = 64) : ¬ lc_two K ∧ ¬ lc_one K ∧ K ≠ 35 ∧ K ≠ 118 ∧ K ≠ 48 ∧ K ≠ 120 := by
  rcases h with h | h | h | h <;> rw [h] <;> decide
/-- names that the class binds at a depth: none of them holds for what is begun -/
theorem lc_T_W {y z : lc_S} {t b N P st o k D i p s bb : Nat} {dd : Nat → Nat} {ee : Nat → List lc_en} (h : lc_TP y z t b N P st dd ee o k D i p s) (hb : bb < 24) (hf : ∀ e ∈ ee t, e.1 < bb) : ∀ j, j < t + 1 → ∀ e ∈ ee j, ¬ (24 * dd j + e.1 = 24 * dd t + bb) := by
  obtain ⟨a1, a2, a3, a4, a5, a6, a7, a8, a9, a10, a11, a12, a13, a14, a15, a16, a17, a18, a19⟩ := h
  intro j hj e he hh
  by_cases hjt : j = t
  · subst hjt
    have := hf e he
    omega
  · obtain ⟨o', k', D', lo', i', p', hi', s', -, -, -, -, -, -, -, -, -, -, -, -, -, -, -, hc, -⟩ := a2.1 j (by omega)
    have := lc_CH_24 _ _ _ hc e he
    have hd : dd j = dd t := by omega
    have := hf e ((a11 j (by omega)).2 hd e he)
    omega
theorem lc_goOnQ {z : lc_S} {t q : Nat} {x3 : Int32} (ht' : t < 408) (h63 : x3 ≠ 63) : fQ_goOn (nI t) (nI q) x3 (nI 1) z = fQ_goOn_43 (nI t) (nI q) x3 (lcL z 80 47) (lcI z 107 t) z := by
  have c1 : lc_in (nI t) 430 := nI_in (by omega) (by decide)
  have d1 : (nI t).toNatClampNeg = t := nI_clamp (by omega)
  rw [fQ_goOn, if_neg (show ¬ nI 1 = 2 by decide)]
  simp only [lc_chk_pos c1, d1, lc_let_eq, h63, ↓reduceIte]
theorem lc_181 {z : lc_S} {t : Nat} (ht' : t < 408) (nm base p : Int32) : fQ_goOn_181 (nI t) nm base p z = fQ_enter base p nm (lcI z 108 t) z := by
  have c1 : lc_in (nI t) 430 := nI_in (by omega) (by decide)
  have d1 : (nI t).toNatClampNeg = t := nI_clamp (by omega)
  rw [fQ_goOn_181, lc_chk_pos c1, d1, lc_bnd_id]
theorem lc_146 {z : lc_S} {t q : Nat} {x3 : Int32} {x5 : Int64} (ht' : t < 408) (hq : q < 600) (h63 : x3 ≠ 63) (nm : Int32) : fQ_goOn_146 (nI t) (nI q) x3 x5 nm z = fQ_enter (lcI z 106 t) (lcI z 85 q) nm (lcI z 108 t) z := by
  have c1 : lc_in (nI t) 430 := nI_in (by omega) (by decide)
  have d1 : (nI t).toNatClampNeg = t := nI_clamp (by omega)
  have c2 : lc_in (nI q) 600 := nI_in hq (by decide)
  have d2 : (nI q).toNatClampNeg = q := nI_clamp (by omega)
  rw [fQ_goOn_146, lc_chk_pos c1, if_neg h63, fQ_goOn_175, lc_chk_pos c2, lc_181 ht', d1, d2]
theorem lc_sLet {y z : lc_S} {t b N P st o k D i p lo hi a2 h1 h2 lo2 bb : Nat} {dd : Nat → Nat} {ee : Nat → List lc_en} (h : lc_TP y z t b N P st dd ee o k (D + 1) i p 1) (ht' : t < 408) (hN : N ≤ 2000) (hi' : i < 120) (hp : p < 120) (hR : lc_R y z o (120 * (k + 1)) (D + 1) lo i p hi (ee t)) (hV : lc_V y z P) (hK : lcI y (o + 2) i = 58) (hS : lcI z 82 (120 * (k + 1) + p) = lcI y (o + 2) i) (h4 : lcI y (o + 4) i = nI a2) (h85 : lcI z 85 (120 * (k + 1) + p) = nI h1) (hb : bb < 24) (hf : ∀ e ∈ ee t, e.1 < bb) (h7 : lcI y (o + 7) i = nI bb) (hR' : lc_R y z o (120 * (k + 1)) D lo2 a2 h1 h2 ((bb, 0, nI p, 0) :: ee t)) : lc_GO y z t i (dd t) o (120 * (k + 1) + p) (120 * (k + 1)) 1 st := by
  obtain ⟨n0, n3, n1, n2, n8, n9⟩ := lc_two_not (Or.inl hK)
  obtain ⟨k', w', v1, v2, v3⟩ := hV
  have hW := lc_T_W h hb hf
  have h0 := h
  obtain ⟨⟨b1, b2, b3, b4, b5, b6, b7, b8, b9, b10, b11⟩, a2', a3, a4, a5, a6, a7, a8, a9, a10, a11, a12, a13, a14, a15, a16, a17, a18, a19⟩ := h
  have ho := lc_o a9
  have hnm := lc_nameQ (lcI z 105 t) 0 (lcL z 80 47) (lcI z 107 t) b8 (by omega) (Or.inl rfl)
  obtain ⟨z2, ez⟩ : ∃ x, x = lcUI (lcUI (lcUL (lcUI (lcUI z 111 N (lcI z 105 t)) 112 N 0) 113 N (lcL z 80 47)) 114 N (lcI z 107 t)) 80 40 (nI (N + 1)) := ⟨_, rfl⟩
  obtain ⟨y2, ey⟩ : ∃ x, x = lcUL y 30 (24 * dd t + bb) (lcL y 19 4) := ⟨_, rfl⟩
  have zI : ∀ c k, ¬ (c = 80 ∧ k = 40) → ¬ (111 ≤ c ∧ c ≤ 114 ∧ N ≤ k) → lcI z2 c k = lcI z c k := fun c k h h' => by
    rw [ez, lcI_UI, if_neg (by omega), lcI_UI, if_neg (by omega), lcI_UL, lcI_UI, if_neg (by omega), lcI_UI, if_neg (by omega)]
  have zL : ∀ c k, ¬ (c = 113 ∧ N ≤ k) → lcL z2 c k = lcL z c k := fun c k h => by
    rw [ez, lcL_UI, lcL_UI, lcL_UL, if_neg (by omega), lcL_UI, lcL_UI]
  have yL : ∀ c k, ¬ (c = 30 ∧ k = 24 * dd t + bb) → lcL y2 c k = lcL y c k := fun c k h => by rw [ey, lcL_UL, if_neg h]
  have yI : ∀ c k, lcI y2 c k = lcI y c k := fun c k => by rw [ey]; rfl
  obtain ⟨y', z', e1, e2, e3⟩ := lc_T_push (y2 := y2) (z2 := z2) (N2 := N + 1) (nm := nI N) (d' := dd t) (W := fun a => a = 24 * dd t + bb) (V := fun _ => False) h0 hR n0 yI (fun c k h => yL c k (by omega)) (fun a h => yL _ _ (by omega)) (fun c k h => by rw [ey]; rfl) (fun d h => by rw [ey]; rfl) zI zL (by rw [ez, lcI_UI, if_pos ⟨rfl, rfl⟩]) (by omega) (by omega) hW (fun _ _ h => h) (fun j hj => by
      by_cases hjt : j = t
      · subst hjt; exact ⟨Nat.le_refl _, fun _ e he => List.mem_cons_of_mem _ he⟩
      · exact ⟨(a11 j (by omega)).1, fun hd e he => List.mem_cons_of_mem _ ((a11 j (by omega)).2 hd e he)⟩) (by rw [ey]; exact a10) a9 a8 a6 a7 (by omega) hR' (by
      refine ⟨N, k', w', by omega, rfl, hb, ?_, ?_, ?_, v1, Or.inl ⟨rfl, ?_⟩, ?_⟩
      · rw [ez, a15]; simp only [lcI_UI, lcI_UL, lcI_UR, lcL_UI, lcL_UL, lcL_UR, lcR_UI, lcR_UL, lcR_UR, false_and, and_false, true_and, and_true, and_self, ↓reduceIte, Nat.reduceEqDiff, lc_let_eq]
      · rw [ez]; simp only [lcI_UI, lcI_UL, lcI_UR, lcL_UI, lcL_UL, lcL_UR, lcR_UI, lcR_UL, lcR_UR, false_and, and_false, true_and, and_true, and_self, ↓reduceIte, Nat.reduceEqDiff, lc_let_eq]
      · rw [ez]; simp only [v3, lcI_UI, lcI_UL, lcI_UR, lcL_UI, lcL_UL, lcL_UR, lcR_UI, lcR_UL, lcR_UR, false_and, and_false, true_and, and_true, and_self, ↓reduceIte, Nat.reduceEqDiff, lc_let_eq]
      · rw [ey, lcL_UL, if_pos ⟨rfl, rfl⟩]; exact v2
      · have e : lcI z2 114 N = lcI z 107 t := by rw [ez]; simp only [lcI_UI, lcI_UL, lcI_UR, lcL_UI, lcL_UL, lcL_UR, lcR_UI, lcR_UL, lcR_UR, false_and, and_false, true_and, and_true, and_self, ↓reduceIte, Nat.reduceEqDiff, lc_let_eq]
        rw [e]
        exact lc_CH_eq (fun q _ => ⟨yL _ _ (by omega), yL _ _ (by omega)⟩) (Nat.le_refl _) (ee t) N _ (fun e he => yL _ _ (fun h => by have := hf e he; omega)) (fun j hj => ⟨zI _ _ (by omega) (by omega), zI _ _ (by omega) (by omega), zL _ _ (by omega), zI _ _ (by omega) (by omega)⟩) N (Nat.le_refl _) a19)
  have hq : 120 * (k + 1) + p < 600 := by omega
  refine ⟨y', z', ?_, ?_, e3⟩
  · rw [lc_goA, if_neg n1, if_neg n2, if_neg (by decide), if_pos rfl, if_neg n3, lc_goOnA b1 ht' hi' a7 a10 a9, if_neg (by rw [hK]; decide), if_pos hK, h7, lc_bnd_eq (lc_bindA y a7 hb), ← ey]
    show fM_begin (lcI y2 (o + 4) i) (nI (dd t)) y2 = _
    rw [yI, h4]; exact e1
  · have c1 : lc_in (nI t) 430 := nI_in (by omega) (by decide)
    have d1 : (nI t).toNatClampNeg = t := nI_clamp (by omega)
    rw [lc_goQ, hS, if_neg n8, if_neg n9, if_neg (by decide), if_pos (Or.inr (Or.inl hK)), lc_goOnQ ht' (by rw [hK]; decide), fQ_goOn_43, if_neg (by rw [hK]; decide), fQ_goOn_64, if_pos hK, lc_chk_pos c1, d1, lc_bnd_eq hnm, ← ez, fQ_goOn_87, if_neg (by rw [hK]; decide), lc_146 ht' hq (by rw [hK]; decide), zI 106 _ (by omega) (by omega), zI 85 _ (by omega) (by omega), zI 108 _ (by omega) (by omega), a16, h85, a17]
    exact e2
theorem lc_sSplit {y z : lc_S} {t b N P st o k D i p lo hi a2 h1 h2 lo2 bb : Nat} {dd : Nat → Nat} {ee : Nat → List lc_en} (h : lc_TP y z t b N P st dd ee o k (D + 1) i p 1) (ht' : t < 408) (hN : N ≤ 2000) (hi' : i < 120) (hp : p < 120) (hR : lc_R y z o (120 * (k + 1)) (D + 1) lo i p hi (ee t)) (hV : lc_V y z P) (hK : lcI y (o + 2) i = 47) (hS : lcI z 82 (120 * (k + 1) + p) = lcI y (o + 2) i) (h4 : lcI y (o + 4) i = nI a2) (h85 : lcI z 85 (120 * (k + 1) + p) = nI h1) (hb : bb < 24) (hf : ∀ e ∈ ee t, e.1 < bb) (h7 : lcI y (o + 7) i = nI bb) (hR' : lc_R y z o (120 * (k + 1)) D lo2 a2 h1 h2 ((bb, 2, nI p, 1) :: (bb, 1, nI p, 0) :: ee t)) : lc_GO y z t i (dd t) o (120 * (k + 1) + p) (120 * (k + 1)) 1 st := by
  obtain ⟨n0, n3, n1, n2, n8, n9⟩ := lc_two_not (Or.inr (Or.inl hK))
  obtain ⟨k', w', v1, v2, v3⟩ := hV
  have hW := lc_T_W h hb hf
  have h0 := h
  obtain ⟨⟨b1, b2, b3, b4, b5, b6, b7, b8, b9, b10, b11⟩, a2', a3, a4, a5, a6, a7, a8, a9, a10, a11, a12, a13, a14, a15, a16, a17, a18, a19⟩ := h
  have ho := lc_o a9
  have hC : lc_C y z (t + 1) b N P := h0.1
  have c2 : lc_in (nI (dd t)) 25 := nI_in (by omega) (by decide)
  have c3 : lc_in (nI i) 120 := nI_in hi' (by decide)
  have d2 : (nI (dd t)).toNatClampNeg = dd t := nI_clamp (by omega)
  have d3 : (nI i).toNatClampNeg = i := nI_clamp (by omega)
  have c1 : lc_in (nI t) 430 := nI_in (by omega) (by decide)
  have d1 : (nI t).toNatClampNeg = t := nI_clamp (by omega)
  have gA : lc_goA y t i (dd t) o 1 = fM_split (nI i) (nI (dd t)) y := by
    rw [lc_goA, if_neg n1, if_neg n2, if_neg (by decide), if_pos rfl, if_neg n3, lc_goOnA b1 ht' hi' a7 a10 a9, if_pos hK]
  have gQ : lc_goQ z t (120 * (k + 1) + p) (120 * (k + 1)) 1 = fQ_goOn_43 (nI t) (nI (120 * (k + 1) + p)) 47 (lcL z 80 47) (lcI z 107 t) z := by
    rw [lc_goQ, hS, if_neg n8, if_neg n9, if_neg (by decide), if_pos (Or.inr (Or.inr hK)), lc_goOnQ ht' (by rw [hK]; decide), hK]
  by_cases h3 : k' = 3
  · subst h3
    have hw := v1.1.2.2.2 rfl
    have hP1 := b10.2.2.2.2.2.1
    obtain ⟨k1, w1, k2, w2, q1, q2, q3, q4, q5, q6⟩ := b10.2.2.2.2.2.2.2 w' hw
    have hnm := lc_nameQ (lcI z 105 t) 0 (lcL z 117 w') (lcI z 107 t) b8 (by omega) (Or.inl rfl)
    obtain ⟨z1, ez1⟩ : ∃ x, x = lcUI (lcUI (lcUL (lcUI (lcUI z 111 N (lcI z 105 t)) 112 N 0) 113 N (lcL z 117 w')) 114 N (lcI z 107 t)) 80 40 (nI (N + 1)) := ⟨_, rfl⟩
    have zI1 : ∀ c k, ¬ (c = 80 ∧ k = 40) → ¬ (111 ≤ c ∧ c ≤ 114 ∧ k = N) → lcI z1 c k = lcI z c k := fun c k h h' => by
      rw [ez1, lcI_UI, if_neg (by omega), lcI_UI, if_neg (by omega), lcI_UL, lcI_UI, if_neg (by omega), lcI_UI, if_neg (by omega)]
    have zL1 : ∀ c k, ¬ (c = 113 ∧ k = N) → lcL z1 c k = lcL z c k := fun c k h => by
      rw [ez1, lcL_UI, lcL_UI, lcL_UL, if_neg (by omega), lcL_UI, lcL_UI]
    have hnm2 := lc_nameQ (z := z1) (lcI z1 105 t) 1 (lcL z1 118 w') (nI N) (show lcI z1 80 40 = nI (N + 1) by rw [ez1, lcI_UI, if_pos ⟨rfl, rfl⟩]) (by omega) (Or.inr rfl)
    obtain ⟨z2, ez⟩ : ∃ x, x = lcUI (lcUI (lcUL (lcUI (lcUI z1 111 (N + 1) (lcI z1 105 t)) 112 (N + 1) 1) 113 (N + 1) (lcL z1 118 w')) 114 (N + 1) (nI N)) 80 40 (nI (N + 1 + 1)) := ⟨_, rfl⟩
    have zI2 : ∀ c k, ¬ (c = 80 ∧ k = 40) → ¬ (111 ≤ c ∧ c ≤ 114 ∧ k = N + 1) → lcI z2 c k = lcI z1 c k := fun c k h h' => by
      rw [ez, lcI_UI, if_neg (by omega), lcI_UI, if_neg (by omega), lcI_UL, lcI_UI, if_neg (by omega), lcI_UI, if_neg (by omega)]
    have zL2 : ∀ c k, ¬ (c = 113 ∧ k = N + 1) → lcL z2 c k = lcL z1 c k := fun c k h => by
      rw [ez, lcL_UI, lcL_UI, lcL_UL, if_neg (by omega), lcL_UI, lcL_UI]
    have zI : ∀ c k, ¬ (c = 80 ∧ k = 40) → ¬ (111 ≤ c ∧ c ≤ 114 ∧ N ≤ k) → lcI z2 c k = lcI z c k := fun c k h h' => by
      rw [zI2 c k h (by omega), zI1 c k h (by omega)]
    have zL : ∀ c k, ¬ (c = 113 ∧ N ≤ k) → lcL z2 c k = lcL z c k := fun c k h => by rw [zL2 c k (by omega), zL1 c k (by omega)]
    obtain ⟨y2, ey⟩ : ∃ x, x = lcUL y 30 (24 * dd t + bb) (lcL y 19 4) := ⟨_, rfl⟩
    have yL : ∀ c k, ¬ (c = 30 ∧ k = 24 * dd t + bb) → lcL y2 c k = lcL y c k := fun c k h => by rw [ey, lcL_UL, if_neg h]
    have yI : ∀ c k, lcI y2 c k = lcI y c k := fun c k => by rw [ey]; rfl
    have yb : lcL y2 30 (24 * dd t + bb) = lc_cv 3 w' := by rw [ey, lcL_UL, if_pos ⟨rfl, rfl⟩]; exact v2
    obtain ⟨y', z', e1, e2, e3⟩ := lc_T_push (y2 := y2) (z2 := z2) (N2 := N + 1 + 1) (nm := nI (N + 1)) (d' := dd t) (W := fun a => a = 24 * dd t + bb) (V := fun _ => False) h0 hR n0 yI (fun c k h => yL c k (by omega)) (fun a h => yL _ _ (by omega)) (fun c k h => by rw [ey]; rfl) (fun d h => by rw [ey]; rfl) zI zL (by rw [ez, lcI_UI, if_pos ⟨rfl, rfl⟩]) (by omega) (by omega) hW (fun _ _ h => h) (fun j hj => by
        by_cases hjt : j = t
        · subst hjt; exact ⟨Nat.le_refl _, fun _ e he => List.mem_cons_of_mem _ (List.mem_cons_of_mem _ he)⟩
        · exact ⟨(a11 j (by omega)).1, fun hd e he => List.mem_cons_of_mem _ (List.mem_cons_of_mem _ ((a11 j (by omega)).2 hd e he))⟩) (by rw [ey]; exact a10) a9 a8 a6 a7 (by omega) hR' (by
        refine ⟨N + 1, k2, w2, by omega, rfl, hb, ?_, ?_, ?_, lc_okr_le q2 (by omega), Or.inr (Or.inr ⟨rfl, w', hw, yb, ?_⟩), ?_⟩
        · rw [ez]; simp only [lcI_UI, lcI_UL, lcI_UR, lcL_UI, lcL_UL, lcL_UR, lcR_UI, lcR_UL, lcR_UR, false_and, and_false, true_and, and_true, and_self, ↓reduceIte, Nat.reduceEqDiff, lc_let_eq]; rw [zI1 _ _ (by omega) (by omega)]; exact a15
        · rw [ez]; simp only [lcI_UI, lcI_UL, lcI_UR, lcL_UI, lcL_UL, lcL_UR, lcR_UI, lcR_UL, lcR_UR, false_and, and_false, true_and, and_true, and_self, ↓reduceIte, Nat.reduceEqDiff, lc_let_eq]
        · rw [ez]; simp only [lcI_UI, lcI_UL, lcI_UR, lcL_UI, lcL_UL, lcL_UR, lcR_UI, lcR_UL, lcR_UR, false_and, and_false, true_and, and_true, and_self, ↓reduceIte, Nat.reduceEqDiff, lc_let_eq]; rw [zL1 _ _ (by omega)]; exact q6
        · rw [yL _ _ (by omega)]; exact q5
        · have e : lcI z2 114 (N + 1) = nI N := by rw [ez]; simp only [lcI_UI, lcI_UL, lcI_UR, lcL_UI, lcL_UL, lcL_UR, lcR_UI, lcR_UL, lcR_UR, false_and, and_false, true_and, and_true, and_self, ↓reduceIte, Nat.reduceEqDiff, lc_let_eq]
          rw [e]
          refine ⟨N, k1, w1, by omega, rfl, hb, ?_, ?_, ?_, lc_okr_le q1 (by omega), Or.inr (Or.inl ⟨rfl, w', hw, yb, ?_⟩), ?_⟩
          · rw [zI2 _ _ (by omega) (by omega), ez1]; simp only [lcI_UI, lcI_UL, lcI_UR, lcL_UI, lcL_UL, lcL_UR, lcR_UI, lcR_UL, lcR_UR, false_and, and_false, true_and, and_true, and_self, ↓reduceIte, Nat.reduceEqDiff, lc_let_eq]; exact a15
          · rw [zI2 _ _ (by omega) (by omega), ez1]; simp only [lcI_UI, lcI_UL, lcI_UR, lcL_UI, lcL_UL, lcL_UR, lcR_UI, lcR_UL, lcR_UR, false_and, and_false, true_and, and_true, and_self, ↓reduceIte, Nat.reduceEqDiff, lc_let_eq]
          · rw [zL2 _ _ (by omega), ez1]; simp only [lcI_UI, lcI_UL, lcI_UR, lcL_UI, lcL_UL, lcL_UR, lcR_UI, lcR_UL, lcR_UR, false_and, and_false, true_and, and_true, and_self, ↓reduceIte, Nat.reduceEqDiff, lc_let_eq]; exact q4
          · rw [yL _ _ (by omega)]; exact q3
          · have e : lcI z2 114 N = lcI z 107 t := by rw [zI2 _ _ (by omega) (by omega), ez1]; simp only [lcI_UI, lcI_UL, lcI_UR, lcL_UI, lcL_UL, lcL_UR, lcR_UI, lcR_UL, lcR_UR, false_and, and_false, true_and, and_true, and_self, ↓reduceIte, Nat.reduceEqDiff, lc_let_eq]
            rw [e]
            exact lc_CH_eq (fun q _ => ⟨yL _ _ (by omega), yL _ _ (by omega)⟩) (Nat.le_refl _) (ee t) N _ (fun e he => yL _ _ (fun h => by have := hf e he; omega)) (fun j hj => ⟨zI _ _ (by omega) (by omega), zI _ _ (by omega) (by omega), zL _ _ (by omega), zI _ _ (by omega) (by omega)⟩) N (Nat.le_refl _) a19)
    have hq : 120 * (k + 1) + p < 600 := by omega
    refine ⟨y', z', ?_, ?_, e3⟩
    · rw [gA, fM_split, v2, lc_bnd_eq (lc_isP (k := 3) (by decide) v1.1.2.2.1 y), if_pos rfl, if_neg (by decide), lc_chk_pos c2, lc_bnr_eq (by rw [d2]; exact a10), lc_chk_pos a9, lc_chk_pos c3]
      have hbi := lc_bindA y a7 hb
      rw [← ey] at hbi
      rw [lc_bnd_eq (show fM_bind (nI (dd t)) (lcI y (o + 7) (nI i).toNatClampNeg) y = some ((), y2) by rw [d3, h7]; exact hbi), lc_chk_pos c2, lc_bnr_eq (by rw [d2, ey]; exact a10), lc_chk_pos a9, lc_chk_pos c3, d3, yI, h4, lc_bnd_id]
      exact e1
    · have c5 : lc_in (nI w') 120 := nI_in (by omega) (by decide)
      have d5 : (nI w').toNatClampNeg = w' := nI_clamp (by omega)
      rw [gQ, v3, fQ_goOn_43, if_pos rfl, if_pos (lc_cmge.mpr (fun h => absurd ((lc_ltP (by decide) (by decide) v1.1.2.2.1).mp h) (by decide))), fQ_goOn_64, if_neg (by decide), fQ_goOn_87, if_pos rfl, lc_let_eq, lc_mpair v1.1.2.2.1]
      simp only [lc_chk_pos c1, lc_chk_pos c5, d1, d5]
      rw [lc_bnd_eq hnm, ← ez1, lc_bnd_eq hnm2, ← ez, lc_146 ht' hq (by decide), zI 106 _ (by omega) (by omega), zI 85 _ (by omega) (by omega), zI 108 _ (by omega) (by omega), a16, h85, a17]
      exact e2
  · refine ⟨_, _, ?_, ?_, Or.inr (lc_trapX (k := 4) (by decide) hC)⟩
    · rw [gA, fM_split, v2, lc_bnd_eq (lc_isP v1.1.2.1 v1.1.2.2.1 y), if_neg h3, if_pos rfl]
    · rw [gQ, v3, fQ_goOn_43, if_pos rfl, if_neg (fun h => lc_cmge.mp h ((lc_ltP v1.1.1 v1.1.2.1 v1.1.2.2.1).mpr (by have := v1.1.2.1; omega))), fQ_goOn_58, lc_bnd_eq (lc_stopQ 4 b7)]
theorem lc_goOnQ63 {z : lc_S} {t q k w P : Nat} (ht' : t < 408) (hv : lcL z 80 47 = lc_mv k w) (ho : lc_ok P k w) : fQ_goOn (nI t) (nI q) 63 (nI 1) z = if k = 1 then fQ_goOn_146 (nI t) (nI q) 63 (lc_mv k w) (lcI z 107 t) z else fQ_goOn_58 z := by
  have c1 : lc_in (nI t) 430 := nI_in (by omega) (by decide)
  have d1 : (nI t).toNatClampNeg = t := nI_clamp (by omega)
  rw [fQ_goOn, if_neg (show ¬ nI 1 = 2 by decide)]
  simp only [lc_chk_pos c1, d1, lc_let_eq, ↓reduceIte, hv]
  rw [lc_bnd_eq (lc_isNQ ho.1 ho.2.1 ho.2.2.1 z)]
  by_cases h : k = 1
  · rw [if_pos h, if_neg (by decide), if_pos h, fQ_goOn_43, if_neg (by decide), fQ_goOn_64, if_neg (by decide), fQ_goOn_87, if_neg (by decide)]
  · rw [if_neg h, if_pos rfl, if_neg h]
theorem lc_nI_0 {w : Nat} (h : w < 4294967296) : nI w = 0 ↔ w = 0 := by
  refine ⟨fun e => ?_, fun e => by rw [e]; rfl⟩
  have := congrArg lc_w e
  rw [lc_w_nI h] at this
  exact this
theorem lc_sChoose {y z : lc_S} {t b N P st o k D i p lo hi a2 a3 h1 h2 h3 lo2 lo3 : Nat} {dd : Nat → Nat} {ee : Nat → List lc_en} (h : lc_TP y z t b N P st dd ee o k (D + 1) i p 1) (ht' : t < 408) (hi' : i < 120) (hp : p < 120) (hR : lc_R y z o (120 * (k + 1)) (D + 1) lo i p hi (ee t)) (hV : lc_V y z P) (hK : lcI y (o + 2) i = 63) (hS : lcI z 82 (120 * (k + 1) + p) = lcI y (o + 2) i) (h4 : lcI y (o + 4) i = nI a2) (h85 : lcI z 85 (120 * (k + 1) + p) = nI h1) (h5 : lcI y (o + 5) i = nI a3) (h86 : lcI z 86 (120 * (k + 1) + p) = nI h2) (hR2 : lc_R y z o (120 * (k + 1)) D lo2 a2 h1 h2 (ee t)) (hR3 : lc_R y z o (120 * (k + 1)) D lo3 a3 h2 h3 (ee t)) : lc_GO y z t i (dd t) o (120 * (k + 1) + p) (120 * (k + 1)) 1 st := by
  obtain ⟨n0, n3, n1, n2, n8, n9⟩ := lc_two_not (Or.inr (Or.inr (Or.inl hK)))
  obtain ⟨k', w', v1, v2, v3⟩ := hV
  have g2 := lc_T_begin h (by decide) hR (fun _ h2 => absurd h2 n0) hR2
  have g3 := lc_T_begin h (by decide) hR (fun _ h2 => absurd h2 n0) hR3
  have hC : lc_C y z (t + 1) b N P := h.1
  obtain ⟨⟨b1, b2, b3, b4, b5, b6, b7, b8, b9, b10, b11⟩, a2', a3', a4, a5, a6, a7, a8, a9, a10, a11, a12, a13, a14, a15, a16, a17, a18, a19⟩ := h
  have c2 : lc_in (nI (dd t)) 25 := nI_in (by omega) (by decide)
  have c3 : lc_in (nI i) 120 := nI_in hi' (by decide)
  have d2 : (nI (dd t)).toNatClampNeg = dd t := nI_clamp (by omega)
  have d3 : (nI i).toNatClampNeg = i := nI_clamp (by omega)
  have c1 : lc_in (nI t) 430 := nI_in (by omega) (by decide)
  have d1 : (nI t).toNatClampNeg = t := nI_clamp (by omega)
  have hq : 120 * (k + 1) + p < 600 := by omega
  have c4 : lc_in (nI (120 * (k + 1) + p)) 600 := nI_in hq (by decide)
  have d4 : (nI (120 * (k + 1) + p)).toNatClampNeg = 120 * (k + 1) + p := nI_clamp (by omega)
  have hb : lc_bnr (some o) = fun f : Nat → Option (Unit × lc_S) => f o := rfl
  have gA : lc_goA y t i (dd t) o 1 = fM_choose (nI i) (nI (dd t)) y := by
    rw [lc_goA, if_neg n1, if_neg n2, if_neg (by decide), if_pos rfl, if_neg n3, lc_goOnA b1 ht' hi' a7 a10 a9, if_neg (by rw [hK]; decide), if_neg (by rw [hK]; decide), if_pos hK]
  have gQ : lc_goQ z t (120 * (k + 1) + p) (120 * (k + 1)) 1 = if k' = 1 then fQ_goOn_146 (nI t) (nI (120 * (k + 1) + p)) 63 (lc_mv k' w') (lcI z 107 t) z else fQ_goOn_58 z := by
    rw [lc_goQ, hS, if_neg n8, if_neg n9, if_neg (by decide), if_pos (Or.inl hK), hK, lc_goOnQ63 ht' v3 v1.1]
  by_cases h1' : k' = 1
  · subst h1'
    have hw := v1.1.2.2.1
    have hA : fM_choose (nI i) (nI (dd t)) y = if w' = 0 then fM_begin (nI a3) (nI (dd t)) y else fM_begin (nI a2) (nI (dd t)) y := by
      rw [fM_choose, v2, lc_bnd_eq (lc_isN (k := 1) (by decide) hw y), if_pos rfl, if_neg (by decide), v2, lc_bnd_eq (lc_wo 1 w' y)]
      simp only [lc_chk_pos c2, lc_chk_pos c3, d2, d3, a10, hb, lc_chk_pos a9, lc_bnd_id, h4, h5, lc_nI_0 hw]
    have hQ : fQ_goOn_146 (nI t) (nI (120 * (k + 1) + p)) 63 (lc_mv 1 w') (lcI z 107 t) z = if w' = 0 then fQ_enter (nI (120 * (k + 1))) (nI h2) (lcI z 107 t) (nI (dd t)) z else fQ_enter (nI (120 * (k + 1))) (nI h1) (lcI z 107 t) (nI (dd t)) z := by
      have hz : (lg_cmp (lc_mv 1 w') 0 = 0) = (w' = 0) := by
        apply propext
        rw [show (0 : Int64) = lN 0 from rfl, lc_mv, show (1 - 1) * 4294967296 + w' = w' by omega]
        have e1 := lc_cmn (a := w') (b := 0) (by omega) (by decide)
        have e2 := lc_cmn (a := 0) (b := w') (by decide) (by omega)
        unfold lg_cmp at *
        by_cases h0 : w' = 0
        · subst h0; exact ⟨fun _ => rfl, fun _ => rfl⟩
        · refine ⟨fun h => ?_, fun h => absurd h h0⟩
          exfalso
          have h2 := e2.mpr (by omega)
          by_cases g1 : lN w' > lN 0
          · rw [if_pos g1] at h; exact absurd h (by decide)
          · rw [if_neg g1] at h
            by_cases g2 : lN w' = lN 0
            · rw [g2] at h2; exact absurd h2 (by decide)
            · rw [if_neg g2] at h; exact absurd h (by decide)
      rw [fQ_goOn_146, lc_chk_pos c1, if_pos rfl]
      simp only [hz, lc_chk_pos c4, d4, d1, fQ_goOn_175, lc_181 ht', a16, a17, h85, h86]
    rw [hA] at gA
    rw [if_pos rfl, hQ] at gQ
    by_cases h0 : w' = 0
    · rw [if_pos h0] at gA gQ
      obtain ⟨y', z', e1, e2, e3⟩ := g3
      exact ⟨y', z', gA.trans e1, gQ.trans e2, e3⟩
    · rw [if_neg h0] at gA gQ
      obtain ⟨y', z', e1, e2, e3⟩ := g2
      exact ⟨y', z', gA.trans e1, gQ.trans e2, e3⟩
  · refine ⟨_, _, ?_, ?_, Or.inr (lc_trapX (k := 4) (by decide) hC)⟩
    · rw [gA, fM_choose, v2, lc_bnd_eq (lc_isN v1.1.2.1 v1.1.2.2.1 y), if_neg h1', if_pos rfl]
    · rw [gQ, if_neg h1', fQ_goOn_58, lc_bnd_eq (lc_stopQ 4 b7)]
