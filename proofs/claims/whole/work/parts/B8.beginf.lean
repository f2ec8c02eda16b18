/-! reading: the reference begins a form -/
def lc_ar (K : Int32) : Nat := if K = 63 then 3 else if lc_two K ∨ K = 58 ∨ K = 47 then 2 else if lc_one K ∨ K = 64 then 1 else 0
theorem lc_poQ (K : Int32) (z : lc_S) : fQ_partsOf K z = some (nI (lc_ar K), z) := by
  unfold lc_ar
  rw [fQ_partsOf]
  by_cases a0 : K = 63
  · rw [if_pos a0, if_pos a0]; rfl
  rw [if_neg a0, if_neg a0]
  have h2 : lc_two K → fQ_isTwo K z = some (1, z) := fun h => by
    rw [fQ_isTwo]
    rcases h with h | h | h | h | h | h <;> subst h <;> simp only [fQ_isTwo_36, ↓reduceIte, show ¬ (45 : Int32) = 43 by decide, show ¬ (42 : Int32) = 43 by decide, show ¬ (42 : Int32) = 45 by decide, show ¬ (60 : Int32) = 43 by decide, show ¬ (60 : Int32) = 45 by decide, show ¬ (60 : Int32) = 42 by decide, show ¬ (44 : Int32) = 43 by decide, show ¬ (44 : Int32) = 45 by decide, show ¬ (44 : Int32) = 42 by decide, show ¬ (44 : Int32) = 60 by decide, show ¬ (112 : Int32) = 43 by decide, show ¬ (112 : Int32) = 45 by decide, show ¬ (112 : Int32) = 42 by decide, show ¬ (112 : Int32) = 60 by decide, show ¬ (112 : Int32) = 44 by decide]
  by_cases ht : lc_two K
  · rw [lc_bnd_eq (h2 ht), if_neg (by decide), if_pos (Or.inl ht)]; rfl
  · have h3 : fQ_isTwo K z = some (0, z) := by
      rw [fQ_isTwo]
      simp only [if_neg (show ¬ K = 43 from fun h => ht (Or.inl h)), if_neg (show ¬ K = 45 from fun h => ht (Or.inr (Or.inl h))), if_neg (show ¬ K = 42 from fun h => ht (Or.inr (Or.inr (Or.inl h)))), if_neg (show ¬ K = 60 from fun h => ht (Or.inr (Or.inr (Or.inr (Or.inl h))))), if_neg (show ¬ K = 44 from fun h => ht (Or.inr (Or.inr (Or.inr (Or.inr (Or.inl h)))))), if_neg (show ¬ K = 112 from fun h => ht (Or.inr (Or.inr (Or.inr (Or.inr (Or.inr h))))))]
    rw [lc_bnd_eq h3, if_pos rfl]
    by_cases a1 : K = 58
    · rw [if_pos a1, if_pos (Or.inr (Or.inl a1))]; rfl
    by_cases a2 : K = 47
    · rw [if_neg a1, if_pos a2, if_pos (Or.inr (Or.inr a2))]; rfl
    rw [if_neg a1, if_neg a2, if_neg (show ¬ (lc_two K ∨ K = 58 ∨ K = 47) from fun h => by rcases h with h | h | h; exact ht h; exact a1 h; exact a2 h)]
    by_cases a3 : K = 110
    · rw [if_pos a3, if_pos (Or.inl (Or.inl a3))]; rfl
    by_cases a4 : K = 103
    · rw [if_neg a3, if_pos a4, if_pos (Or.inl (Or.inr (Or.inl a4)))]; rfl
    by_cases a5 : K = 100
    · rw [if_neg a3, if_neg a4, if_pos a5, if_pos (Or.inl (Or.inr (Or.inr a5)))]; rfl
    by_cases a6 : K = 64
    · rw [if_neg a3, if_neg a4, if_neg a5, if_pos a6, if_pos (Or.inr a6)]; rfl
    rw [if_neg a3, if_neg a4, if_neg a5, if_neg a6, if_neg (show ¬ (lc_one K ∨ K = 64) from fun h => by rcases h with (h | h | h) | h; exact a3 h; exact a4 h; exact a5 h; exact a6 h)]; rfl
theorem lc_ar3 (K : Int32) : lc_ar K ≤ 3 := by
  unfold lc_ar
  split
  · omega
  · split
    · omega
    · split <;> omega
/-- a form is open: its part p, sign K, value V -/
def lc_oQ (tx : Nat → Int32) (n : Nat) (z z7 : lc_S) (a7 p d : Nat) (K V : Int32) (L : List lc_nm) (u : Int32) : Prop := lc_kx p d L.length z z7 ∧ lc_cQ tx n z7 a7 (p + 1) (d + 1) L u ∧ lcI z7 92 d = nI p ∧ lcI z7 93 d = nI 0 ∧ lcI z7 82 p = K ∧ lcI z7 83 p = V
/-- what is bad -/
def lc_oX (p d : Nat) (L : List lc_nm) (z z' : lc_S) : Prop := lc_kx p d L.length z z' ∧ lcI z' 80 14 = 1 ∧ lc_b8 z'
theorem lc_bgD {tx : Nat → Int32} {n : Nat} {z : lc_S} {a p : Nat} {L : List lc_nm} {u : Int32} (h : lc_cQ tx n z a p 17 L u) : ∃ z', fQ_begin z = some (-1, z') ∧ lc_oX p 17 L z z' := by
  obtain ⟨h1, h2, h3, h4, h5, h6, h7, h8, h9, h10, h11, h12, h13, h14⟩ := id h
  have hn := h1.2.1
  obtain ⟨z1, e1, e2, e3, e4⟩ := lc_pkQ h1 h2 (by omega)
  refine ⟨lcUI z1 80 14 1, ?_, (e3.n.tr (lc_kp9.u _)).x, by simp only [lcI_UI, lcI_UL, lcI_UR, lcL_UI, lcL_UL, lcL_UR, lcR_UI, lcR_UL, lcR_UR, false_and, and_false, true_and, and_true, and_self, ↓reduceIte, Nat.reduceEqDiff, lc_let_eq], lc_b8_9 (e3.n.tr (lc_kp9.u _)) h12⟩
  rw [fQ_begin, lc_bnd_eq e1, e3.1 _ _ (by omega), h6, if_neg (by decide)]
theorem lc_bgO {tx : Nat → Int32} {n : Nat} {z : lc_S} {a p d : Nat} {L : List lc_nm} {u : Int32} (h : lc_cQ tx n z a p d L u) (hd : d ≤ 16) (hl : lc_il (lc_sg tx n a) = 0) (hg : lc_ig (lc_sg tx n a) = 0) :
    (lc_sg tx n a ≠ 40 ∨ lc_ar (lc_sg tx n (lc_at tx n a + 1)) = 0 → ∃ z', fQ_begin z = some (-1, z') ∧ lc_oX p d L z z') ∧
    (lc_sg tx n a = 40 → lc_ar (lc_sg tx n (lc_at tx n a + 1)) ≠ 0 → ∃ z7, lc_oQ tx n z z7 (lc_at tx n (lc_at tx n a + 1) + 1) p d (lc_sg tx n (lc_at tx n a + 1)) 0 L u ∧ fQ_begin z = if lc_sg tx n (lc_at tx n a + 1) = 58 then fQ_begin_170 (lc_sg tx n (lc_at tx n a + 1)) (nI p) z7 else if lc_sg tx n (lc_at tx n a + 1) = 47 then fQ_begin_170 (lc_sg tx n (lc_at tx n a + 1)) (nI p) z7 else fQ_begin_180 (lc_sg tx n (lc_at tx n a + 1)) (nI p) z7) := by
  obtain ⟨h1, h2, h3, h4, h5, h6, h7, h8, h9, h10, h11, h12, h13, h14⟩ := id h
  have hn := h1.2.1
  have hat := lc_at_le tx n a
  have hatn := lc_at_n (tx := tx) h3
  obtain ⟨z1, e1, e2, e3, e4⟩ := lc_pkQ h1 h2 (by omega)
  obtain ⟨z2, ez2⟩ : ∃ x, x = lcUI z1 80 13 (nI (lc_at tx n a + 1)) := ⟨_, rfl⟩
  have k2 : lc_kp8 z z2 := by rw [ez2]; exact e3.tr (lc_kp8.u _)
  have s0 : fQ_begin z = if lc_sg tx n a = 40 then fQ_begin_82 0 z2 else fQ_begin_82 1 z2 := by
    have c1 : lcI z1 80 16 = nI d := by rw [e3.1 _ _ (by omega)]; exact h6
    rw [fQ_begin, lc_bnd_eq e1, c1, if_pos (show nI d ≤ 16 from nI_le (b := 16) hd (by decide)), lc_bnd_eq (lc_igQ _ z1), if_pos hg, lc_bnd_eq (lc_ilQ _ _), if_pos hl, e2, nI_1, ← ez2]
  have z2a : lcI z2 80 13 = nI (lc_at tx n a + 1) := by rw [ez2]; simp only [lcI_UI, lcI_UL, lcI_UR, lcL_UI, lcL_UL, lcL_UR, lcR_UI, lcR_UL, lcR_UR, false_and, and_false, true_and, and_true, and_self, ↓reduceIte, Nat.reduceEqDiff, lc_let_eq]
  have nx : ∀ t : Int32, ∃ z4, fQ_next (lcUI z2 80 14 t) = some (lc_sg tx n (lc_at tx n a + 1), z4) ∧ lcI z4 80 13 = nI (lc_at tx n (lc_at tx n a + 1) + 1) ∧ lc_kp9 z z4 ∧ lcI z4 80 14 = t := fun t => by
    obtain ⟨z4, g1, g2, g3, g4⟩ := lc_ntQ (z := lcUI z2 80 14 t) (a := lc_at tx n a + 1) (lc_txQ9 (k2.n.tr (lc_kp9.u _)) h1) (by rw [lcI_UI, if_neg (by omega)]; exact z2a) (by omega)
    exact ⟨z4, g1, g2, (k2.n.tr (lc_kp9.u _)).tr g3.n, by rw [g3.1 _ _ (by omega)]; simp only [lcI_UI, lcI_UL, lcI_UR, lcL_UI, lcL_UL, lcL_UR, lcR_UI, lcR_UL, lcR_UR, false_and, and_false, true_and, and_true, and_self, ↓reduceIte, Nat.reduceEqDiff, lc_let_eq]⟩
  have bad : ∀ (K : Int32) (z4 : lc_S), lc_kp9 z z4 → ∃ z', fQ_begin_105 K z4 = some (-1, z') ∧ lc_oX p d L z z' := fun K z4 k4 => by
    refine ⟨lcUI z4 80 14 1, ?_, (k4.tr (lc_kp9.u _)).x, by simp only [lcI_UI, lcI_UL, lcI_UR, lcL_UI, lcL_UL, lcL_UR, lcR_UI, lcR_UL, lcR_UR, false_and, and_false, true_and, and_true, and_self, ↓reduceIte, Nat.reduceEqDiff, lc_let_eq], lc_b8_9 (k4.tr (lc_kp9.u _)) h12⟩
    rw [fQ_begin_105, fQ_begin_110, lc_chk_pos (Or.inr rfl), if_neg (by simp only [lcI_UI, lcI_UL, lcI_UR, lcL_UI, lcL_UL, lcL_UR, lcR_UI, lcR_UL, lcR_UR, false_and, and_false, true_and, and_true, and_self, ↓reduceIte, Nat.reduceEqDiff, lc_let_eq]; decide)]
  refine ⟨fun hx => ?_, fun h40 har => ?_⟩
  · by_cases h40 : lc_sg tx n a = 40
    · have har : lc_ar (lc_sg tx n (lc_at tx n a + 1)) = 0 := by
        rcases hx with hx | hx
        · exact absurd h40 hx
        · exact hx
      obtain ⟨z4, g1, g2, g3, g4⟩ := nx 0
      obtain ⟨z', b1, b2⟩ := bad (lc_sg tx n (lc_at tx n a + 1)) z4 g3
      refine ⟨z', ?_, b2⟩
      rw [s0, if_pos h40, fQ_begin_82, lc_chk_pos (Or.inl rfl), lc_bnd_eq g1, if_pos g4, lc_bnd_eq (lc_poQ _ z4), har, if_pos (show nI 0 = 0 by decide)]
      exact b1
    · obtain ⟨z4, g1, g2, g3, g4⟩ := nx 1
      obtain ⟨z', b1, b2⟩ := bad (lc_sg tx n (lc_at tx n a + 1)) z4 g3
      refine ⟨z', ?_, b2⟩
      rw [s0, if_neg h40, fQ_begin_82, lc_chk_pos (Or.inr rfl), lc_bnd_eq g1, if_neg (by rw [g4]; decide)]
      exact b1
  · obtain ⟨z4, g1, g2, g3, g4⟩ := nx 0
    obtain ⟨K, hK⟩ : ∃ K, K = lc_sg tx n (lc_at tx n a + 1) := ⟨_, rfl⟩
    rw [← hK] at g1 har ⊢
    have hlt2 : lc_at tx n (lc_at tx n a + 1) < n := lc_sg_lt (by rw [← hK]; intro e; rw [e] at har; exact har (by decide))
    have hat2 := lc_at_le tx n (lc_at tx n a + 1)
    have har3 := lc_ar3 K
    obtain ⟨z5, ez5⟩ : ∃ x, x = lcUI z4 80 14 0 := ⟨_, rfl⟩
    have k5 : lc_kp9 z z5 := by rw [ez5]; exact g3.tr (lc_kp9.u _)
    have p5 : lcI z5 89 0 = nI p := by rw [k5.1 _ _ (by omega)]; exact h7
    obtain ⟨z6, ez6⟩ : ∃ x, x = lc_pS K p z5 := ⟨_, rfl⟩
    have k6 : lc_kx p d L.length z z6 := by rw [ez6]; exact k5.x.tr (lc_pS_kx (by omega)) (Nat.le_refl _) (Nat.le_refl _) (Nat.le_refl _)
    have o80 : ∀ k, lcI z6 80 k = lcI z5 80 k := fun k => by rw [ez6]; simp only [lc_pS, lcI_UI, show ¬ (80 : Nat) = 89 by omega, show ¬ (80 : Nat) = 88 by omega, show ¬ (80 : Nat) = 87 by omega, show ¬ (80 : Nat) = 83 by omega, show ¬ (80 : Nat) = 82 by omega, false_and, ↓reduceIte]
    have z6a : lcI z6 80 13 = nI (lc_at tx n (lc_at tx n a + 1) + 1) := by rw [o80, ez5, lcI_UI, if_neg (by omega)]; exact g2
    have z614 : lcI z6 80 14 = 0 := by rw [o80, ez5]; simp only [lcI_UI, lcI_UL, lcI_UR, lcL_UI, lcL_UL, lcL_UR, lcR_UI, lcR_UL, lcR_UR, false_and, and_false, true_and, and_true, and_self, ↓reduceIte, Nat.reduceEqDiff, lc_let_eq]
    have z6b : ∀ k, k ≠ 13 → k ≠ 14 → lcI z6 80 k = lcI z 80 k := fun k hk hk' => by rw [o80, k5.1 _ _ (by omega)]
    have z6p : lcI z6 89 0 = nI (p + 1) := by rw [ez6, lc_pS]; simp only [lcI_UI, lcI_UL, lcI_UR, lcL_UI, lcL_UL, lcL_UR, lcR_UI, lcR_UL, lcR_UR, false_and, and_false, true_and, and_true, and_self, ↓reduceIte, Nat.reduceEqDiff, lc_let_eq]
    have z682 : lcI z6 82 p = K := by rw [ez6, lc_pS]; simp only [lcI_UI, show ¬ (82 : Nat) = 89 by omega, show ¬ (82 : Nat) = 88 by omega, show ¬ (82 : Nat) = 87 by omega, show ¬ (82 : Nat) = 83 by omega, false_and, and_self, ↓reduceIte]
    have z683 : lcI z6 83 p = 0 := by rw [ez6, lc_pS]; simp only [lcI_UI, show ¬ (83 : Nat) = 89 by omega, show ¬ (83 : Nat) = 88 by omega, show ¬ (83 : Nat) = 87 by omega, false_and, and_self, ↓reduceIte]
    have z616 : lcI z6 80 16 = nI d := by rw [z6b _ (by decide) (by decide)]; exact h6
    obtain ⟨z7, ez7⟩ : ∃ x, x = lcUI (lcUI (lcUI z6 92 d (nI p)) 93 d 0) 80 16 (nI (d + 1)) := ⟨_, rfl⟩
    have k7 : lc_kx p d L.length z z7 := by rw [ez7]; exact ((k6.t _ (by omega)).t _ (by omega)).t _ (by omega)
    have o7 : ∀ c k, c ≠ 92 → c ≠ 93 → ¬ (c = 80 ∧ k = 16) → lcI z7 c k = lcI z6 c k := fun c k q1 q2 q3 => by rw [ez7, lcI_UI, if_neg q3, lcI_UI, if_neg (fun e => q2 e.1), lcI_UI, if_neg (fun e => q1 e.1)]
    have b7 : lc_b8 z7 := by rw [ez7, ez6]; exact lc_b8_o (by decide) (lc_b8_o (by decide) (lc_b8_o (by decide) (lc_b8_pS (lc_b8_9 k5 h12))))
    refine ⟨z7, ⟨k7, ?_, ?_, ?_, ?_, ?_⟩, ?_⟩
    · exact h.mv k7 (by rw [o7 _ _ (by decide) (by decide) (by omega)]; exact z6a) (by omega) (by omega) (by omega) (by rw [o7 _ _ (by decide) (by decide) (by omega)]; exact z614) (by rw [ez7]; simp only [lcI_UI, lcI_UL, lcI_UR, lcL_UI, lcL_UL, lcL_UR, lcR_UI, lcR_UL, lcR_UR, false_and, and_false, true_and, and_true, and_self, ↓reduceIte, Nat.reduceEqDiff, lc_let_eq]) (by rw [o7 _ _ (by decide) (by decide) (by omega)]; exact z6p) (by rw [o7 _ _ (by decide) (by decide) (by omega), z6b _ (by decide) (by decide)]; exact h8) (by omega) b7 (by rw [o7 _ _ (by decide) (by decide) (by omega), z6b _ (by decide) (by decide)]; exact h13) h14
    · rw [ez7, lcI_UI, if_neg (by omega), lcI_UI, if_neg (by omega), lcI_UI, if_pos ⟨rfl, rfl⟩]
    · rw [ez7, lcI_UI, if_neg (by omega), lcI_UI, if_pos ⟨rfl, rfl⟩]; rfl
    · rw [o7 _ _ (by decide) (by decide) (by omega)]; exact z682
    · rw [o7 _ _ (by decide) (by decide) (by omega)]; exact z683
    · have c1 : lc_in (nI d) 24 := nI_in (by omega) (by decide)
      have d1 : (nI d).toNatClampNeg = d := nI_clamp (by omega)
      have q80 : ∀ v : Int32, lcI (lcUI z6 92 d v) 80 16 = nI d := fun v => by rw [lcI_UI, if_neg (by omega)]; exact z616
      have q80' : ∀ v w : Int32, lcI (lcUI (lcUI z6 92 d v) 93 d w) 80 16 = nI d := fun v w => by rw [lcI_UI, if_neg (by omega)]; exact q80 v
      rw [s0, if_pos h40, fQ_begin_82, lc_chk_pos (Or.inl rfl), lc_bnd_eq g1, if_pos g4, lc_bnd_eq (lc_poQ _ z4), if_neg (nI_ne0 (by omega) (by omega)), fQ_begin_110, lc_chk_pos (Or.inl rfl), if_pos (by simp only [lcI_UI, lcI_UL, lcI_UR, lcL_UI, lcL_UL, lcL_UR, lcR_UI, lcR_UL, lcR_UR, false_and, and_false, true_and, and_true, and_self, ↓reduceIte, Nat.reduceEqDiff, lc_let_eq]), ← ez5, lc_bnd_eq (lc_pQ K p5 (by omega)), ← ez6]
      simp only [z616, lc_chk_pos c1, d1, q80, q80', nI_1]
      rw [← ez7]
/-- a letter -/
theorem lc_ltQ {tx : Nat → Int32} {n : Nat} {z : lc_S} {a : Nat} (h1 : lc_txQ z tx n) (h2 : lcI z 80 13 = nI a) (ha : a < 1000) (h14 : lcI z 80 14 = 0 ∨ lcI z 80 14 = 1) : ∃ z', fQ_letter z = some (lc_sg tx n a, z') ∧ lc_kp9 z z' ∧ lcI z' 80 13 = nI (lc_at tx n a + 1) ∧ lcI z' 80 14 = (if lcI z 80 14 = 0 ∧ lc_il (lc_sg tx n a) ≠ 0 then 0 else 1) := by
  obtain ⟨z1, e1, e2, e3, e4⟩ := lc_ntQ h1 h2 ha
  have b1 : lcI z1 80 14 = lcI z 80 14 := e3.1 _ _ (by omega)
  refine ⟨lcUI z1 80 14 (if lcI z 80 14 = 0 ∧ lc_il (lc_sg tx n a) ≠ 0 then 0 else 1), ?_, e3.n.tr (lc_kp9.u _), by rw [lcI_UI, if_neg (by omega)]; exact e2, by simp only [lcI_UI, and_self, ↓reduceIte]⟩
  rw [fQ_letter, lc_bnd_eq e1, b1]
  by_cases g : lcI z 80 14 = 0
  · rw [if_pos g, lc_bnd_eq (lc_ilQ _ z1)]
    by_cases gl : lc_il (lc_sg tx n a) = 0
    · rw [if_pos gl, if_neg (fun e => e.2 gl), fQ_letter_20, fQ_letter_25, lc_chk_pos (Or.inr rfl)]
    · rw [if_neg gl, if_pos ⟨g, gl⟩, fQ_letter_25, lc_chk_pos (Or.inl rfl)]
  · rw [if_neg g, if_neg (fun e => g e.1), fQ_letter_20, fQ_letter_25, lc_chk_pos (Or.inr rfl)]
