/-! reading: the reference begins an expression -/
theorem lc_b8_eq {z z' : lc_S} (h : ∀ j, lcI z' 88 j = lcI z 88 j) (g : lc_b8 z) : lc_b8 z' := fun j hj => by rw [h]; exact g j hj
theorem lc_b8_u {z : lc_S} {p : Nat} {v : Int32} (h : v = 0 ∨ v = 1) (g : lc_b8 z) : lc_b8 (lcUI z 88 p v) := fun j hj => by
  rw [lcI_UI]
  split
  · exact h
  · exact g j hj
theorem lc_b8_o {z : lc_S} {c p : Nat} {v : Int32} (h : c ≠ 88) (g : lc_b8 z) : lc_b8 (lcUI z c p v) := lc_b8_eq (fun j => by rw [lcI_UI, if_neg (fun e => h e.1.symm)]) g
theorem lc_b8_pS {z : lc_S} {p : Nat} {K : Int32} (g : lc_b8 z) : lc_b8 (lc_pS K p z) := lc_b8_o (by decide) (lc_b8_u (Or.inl rfl) (lc_b8_o (by decide) (lc_b8_o (by decide) (lc_b8_o (by decide) g))))
theorem lc_b8_9 {z z' : lc_S} (k : lc_kp9 z z') (g : lc_b8 z) : lc_b8 z' := lc_b8_eq (fun j => k.1 _ _ (by omega)) g
theorem lc_cQ.mv {tx : Nat → Int32} {n : Nat} {z z' : lc_S} {a p d a' p' d' d0 : Nat} {L : List lc_nm} {u u' : Int32} (h : lc_cQ tx n z a p d L u) (k : lc_kx p d0 L.length z z') (h13 : lcI z' 80 13 = nI a') (ha : a' ≤ n) (hp : p' ≤ a') (hpp : p ≤ p') (h14 : lcI z' 80 14 = 0) (h16 : lcI z' 80 16 = nI d') (h89 : lcI z' 89 0 = nI p') (h19 : lcI z' 80 19 = nI L.length) (hd : d ≤ d') (h8 : lc_b8 z') (h15 : lcI z' 80 15 = u') (hu : u' = 0 ∨ u' = 1) : lc_cQ tx n z' a' p' d' L u' :=
  ⟨lc_txQx k h.1, h13, ha, hp, h14, h16, h89, h19, lc_nQx k h.2.2.2.2.2.2.2.2.1, lc_ne_le h.2.2.2.2.2.2.2.2.2.1 hpp, by have := h.2.2.2.2.2.2.2.2.2.2.1; omega, h8, h15, hu⟩
theorem lc_il_ig {tx : Nat → Int32} {n a : Nat} (ht : lc_tk tx n) (h : lc_il (lc_sg tx n a) ≠ 0) : lc_ig (lc_sg tx n a) = 0 ∧ lc_at tx n a < n ∧ lc_sg tx n a ≠ 40 ∧ ∃ v, v < 256 ∧ lc_sg tx n a = nI v := by
  obtain ⟨v, h1, h2, h3⟩ := lc_sg_nI (a := a) ht
  rw [h2] at h ⊢
  have h4 := lc_il_nI (by omega) h
  refine ⟨?_, ?_, fun e => ?_, v, by omega, rfl⟩
  · rcases lc_ig01 (nI v) with g | g
    · exact g
    · have := lc_ig_nI (v := v) (by omega) (by rw [g]; decide)
      omega
  · rcases h3 with h3 | h3
    · omega
    · exact h3.2
  · have := (nI_eq (b := 40) (by omega) (by decide)).mp e
    omega
theorem lc_ig_lt {tx : Nat → Int32} {n a : Nat} (h : lc_ig (lc_sg tx n a) ≠ 0) : lc_at tx n a < n := lc_sg_lt (fun e => h (by rw [e]; decide))
def lc_bpt (s : Int32) (L : List lc_nm) : Nat × Nat := match lc_fd s L with
  | some e => (e.1, e.2.1)
  | none => (0, 0)
def lc_unb (s : Int32) (L : List lc_nm) (u : Int32) : Int32 := match lc_fd s L with
  | some _ => u
  | none => 1
/-- a variable -/
theorem lc_bgV {tx : Nat → Int32} {n : Nat} {z : lc_S} {a p d : Nat} {L : List lc_nm} {u : Int32} (ht : lc_tk tx n) (h : lc_cQ tx n z a p d L u) (hd : d ≤ 16) (hl : lc_il (lc_sg tx n a) ≠ 0) : ∃ z', fQ_begin z = some (nI p, z') ∧ lc_kx p d L.length z z' ∧ lc_cQ tx n z' (lc_at tx n a + 1) (p + 1) d L (lc_unb (lc_sg tx n a) L u) ∧ lcI z' 82 p = 120 ∧ lc_lk (lcI z' 87 p) (lcI z' 88 p) (lc_ev L) = some (lc_bpt (lc_sg tx n a) L) := by
  obtain ⟨h1, h2, h3, h4, h5, h6, h7, h8, h9, h10, h11, h12, h13, h14⟩ := id h
  have hn := h1.2.1
  obtain ⟨g1, g2, g3, g4⟩ := lc_il_ig ht hl
  have hat := lc_at_le tx n a
  obtain ⟨z1, e1, e2, e3, e4⟩ := lc_pkQ h1 h2 (by omega)
  obtain ⟨z2, ez2⟩ : ∃ x, x = lcUI z1 80 13 (nI (lc_at tx n a + 1)) := ⟨_, rfl⟩
  have k2 : lc_kp8 z z2 := by rw [ez2]; exact e3.tr (lc_kp8.u _)
  have p2 : lcI z2 89 0 = nI p := by rw [k2.1 _ _ (by omega)]; exact h7
  obtain ⟨z3, ez3⟩ : ∃ x, x = lc_pS 120 p z2 := ⟨_, rfl⟩
  have k3 : lc_kx p d L.length z z3 := by rw [ez3]; exact k2.x.tr (lc_pS_kx (by omega)) (Nat.le_refl _) (Nat.le_refl _) (Nat.le_refl _)
  have b3 : lc_b8 z3 := by rw [ez3]; exact lc_b8_pS (lc_b8_9 k2.n h12)
  have n3 := lc_nQx k3 h9
  have o80 : ∀ k, lcI z3 80 k = lcI z2 80 k := fun k => by rw [ez3]; simp only [lc_pS, lcI_UI, show ¬ (80 : Nat) = 89 by omega, show ¬ (80 : Nat) = 88 by omega, show ¬ (80 : Nat) = 87 by omega, show ¬ (80 : Nat) = 83 by omega, show ¬ (80 : Nat) = 82 by omega, false_and, ↓reduceIte]
  have z3a : lcI z3 80 13 = nI (lc_at tx n a + 1) := by rw [o80, ez2]; simp only [lcI_UI, lcI_UL, lcI_UR, lcL_UI, lcL_UL, lcL_UR, lcR_UI, lcR_UL, lcR_UR, false_and, and_false, true_and, and_true, and_self, ↓reduceIte, Nat.reduceEqDiff, lc_let_eq]
  have z3b : ∀ k, k ≠ 13 → lcI z3 80 k = lcI z 80 k := fun k hk => by rw [o80, k2.1 _ _ (by omega)]
  have z3p : lcI z3 89 0 = nI (p + 1) := by rw [ez3, lc_pS]; simp only [lcI_UI, lcI_UL, lcI_UR, lcL_UI, lcL_UL, lcL_UR, lcR_UI, lcR_UL, lcR_UR, false_and, and_false, true_and, and_true, and_self, ↓reduceIte, Nat.reduceEqDiff, lc_let_eq]
  have z382 : lcI z3 82 p = 120 := by rw [ez3, lc_pS]; simp only [lcI_UI, show ¬ (82 : Nat) = 89 by omega, show ¬ (82 : Nat) = 88 by omega, show ¬ (82 : Nat) = 87 by omega, show ¬ (82 : Nat) = 83 by omega, false_and, and_self, ↓reduceIte]
  have z387 : lcI z3 87 p = -1 := by rw [ez3, lc_pS]; simp only [lcI_UI, show ¬ (87 : Nat) = 89 by omega, show ¬ (87 : Nat) = 88 by omega, false_and, and_self, ↓reduceIte]
  have z388 : lcI z3 88 p = 0 := by rw [ez3, lc_pS]; simp only [lcI_UI, show ¬ (88 : Nat) = 89 by omega, false_and, and_self, ↓reduceIte]
  have hbg : fQ_begin z = fQ_variable_14 lc_FU (lc_sg tx n a) (nI p) (nI L.length - 1) z3 := by
    have c1 : lcI z1 80 16 = nI d := by rw [e3.1 _ _ (by omega)]; exact h6
    have hv : fQ_variable (lc_sg tx n a) z2 = fQ_variable_14 lc_FU (lc_sg tx n a) (nI p) (nI L.length - 1) z3 := by
      rw [fQ_variable, lc_bnd_eq (lc_pQ 120 p2 (by omega)), lc_let_eq, ← ez3, z3b _ (by decide), h8]
    rw [fQ_begin, lc_bnd_eq e1, c1, if_pos (show nI d ≤ 16 from nI_le (b := 16) hd (by decide)), lc_bnd_eq (lc_igQ _ z1), if_pos g1, lc_bnd_eq (lc_ilQ _ _), if_neg hl, e2, nI_1, ← ez2, hv]
    have : ∀ X : Option (Int32 × lc_S), lc_bnd X (fun r66 z66 => some (r66, z66)) = X := fun X => by
      cases X with
      | none => rfl
      | some x => rfl
    exact this _
  obtain ⟨x3, v1, v2⟩ := lc_vQ (z := z3) (s := lc_sg tx n a) (x2 := nI p) L lc_FU (by unfold lc_FU; omega) (by omega) n3
  have z315 : lcI z3 80 15 = u := by rw [z3b _ (by decide)]; exact h13
  rcases v2 with ⟨w1, w2⟩ | ⟨e, j, w1, w2, w3, w4, w5, w6⟩
  · have nge : ¬ (0 : Int32) ≤ x3 := fun g => Int32.lt_irrefl (Int32.lt_of_lt_of_le w2 g)
    refine ⟨lcUI z3 80 15 1, ?_, k3.t _ (by omega), ?_, ?_, ?_⟩
    · rw [hbg, v1, fQ_variable_34, z315]
      have : fQ_variable_46 (nI p) x3 z3 = some (nI p, lcUI z3 80 15 1) := by rw [fQ_variable_46, fQ_variable_51, lc_chk_pos (Or.inr rfl), if_neg nge]
      rw [if_neg nge, this]
      split <;> rfl
    · have eu : lc_unb (lc_sg tx n a) L u = 1 := by unfold lc_unb; rw [w1]
      rw [eu]
      exact h.mv (k3.t (d := d) _ (by omega)) (by rw [lcI_UI, if_neg (by omega)]; exact z3a) (by omega) (by omega) (by omega) (by rw [lcI_UI, if_neg (by omega), z3b _ (by decide)]; exact h5) (by rw [lcI_UI, if_neg (by omega), z3b _ (by decide)]; exact h6) (by rw [lcI_UI, if_neg (by omega)]; exact z3p) (by rw [lcI_UI, if_neg (by omega), z3b _ (by decide)]; exact h8) (Nat.le_refl _) (lc_b8_o (by decide) b3) (by simp only [lcI_UI, lcI_UL, lcI_UR, lcL_UI, lcL_UL, lcL_UR, lcR_UI, lcR_UL, lcR_UR, false_and, and_false, true_and, and_true, and_self, ↓reduceIte, Nat.reduceEqDiff, lc_let_eq]) (Or.inr rfl)
    · rw [lcI_UI, if_neg (by omega)]; exact z382
    · rw [lcI_UI, if_neg (by omega), lcI_UI, if_neg (by omega), z387, z388, h10.2.2]
      unfold lc_bpt; rw [w1]
  · obtain ⟨x, hx, ex⟩ := lc_fd_mem w1
    have c1 : lc_in (nI j) 64 := nI_in w3 (by decide)
    have d1 : (nI j).toNatClampNeg = j := nI_clamp (by omega)
    have c2 : lc_in (nI p) 600 := nI_in (by omega) (by decide)
    have d2 : (nI p).toNatClampNeg = p := nI_clamp (by omega)
    have vn : vp_nar .boolean e.2.2.2 = e.2.2.2 := by rcases w6 with g | g <;> rw [g] <;> decide
    have f51 : ∀ t : Int32, (t = 0 ∨ t = 1) → fQ_variable_51 (nI p) (nI j) t z3 = some (nI p, lcUI (lcUI (lcUI z3 80 15 t) 87 p e.2.2.1) 88 p e.2.2.2) := fun t ht => by
      have q95 : lcI (lcUI z3 80 15 t) 95 j = e.2.2.1 := by rw [lcI_UI, if_neg (by omega)]; exact w4
      have q96 : lcI (lcUI (lcUI z3 80 15 t) 87 p e.2.2.1) 96 j = e.2.2.2 := by rw [lcI_UI, if_neg (by omega), lcI_UI, if_neg (by omega)]; exact w5
      rw [fQ_variable_51, lc_chk_pos ht, if_pos (nI_pos' (by omega))]
      simp only [lc_chk_pos c1, lc_chk_pos c2, d1, d2, q95, q96, lc_chk_pos vn]
    refine ⟨lcUI (lcUI (lcUI z3 80 15 u) 87 p e.2.2.1) 88 p e.2.2.2, ?_, ((k3.t _ (by omega)).t _ (by omega)).t _ (by omega), ?_, ?_, ?_⟩
    · rw [hbg, v1, w2, fQ_variable_34, z315, if_pos (nI_pos' (by omega)), fQ_variable_46]
      rcases h14 with g | g
      · rw [if_pos g, f51 0 (Or.inl rfl), g]
      · rw [if_neg (by rw [g]; decide), f51 1 (Or.inr rfl), g]
    · have eu : lc_unb (lc_sg tx n a) L u = u := by unfold lc_unb; rw [w1]
      rw [eu]
      have oF : ∀ c k, c ≠ 88 → c ≠ 87 → ¬ (c = 80 ∧ k = 15) → lcI (lcUI (lcUI (lcUI z3 80 15 u) 87 p e.2.2.1) 88 p e.2.2.2) c k = lcI z3 c k := fun c k g1 g2 g3 => by rw [lcI_UI, if_neg (fun q => g1 q.1), lcI_UI, if_neg (fun q => g2 q.1), lcI_UI, if_neg g3]
      exact h.mv (d0 := d) (((k3.t _ (by omega)).t _ (by omega)).t _ (by omega)) (by rw [oF _ _ (by decide) (by decide) (by omega)]; exact z3a) (by omega) (by omega) (by omega) (by rw [oF _ _ (by decide) (by decide) (by omega), z3b _ (by decide)]; exact h5) (by rw [oF _ _ (by decide) (by decide) (by omega), z3b _ (by decide)]; exact h6) (by rw [oF _ _ (by decide) (by decide) (by omega)]; exact z3p) (by rw [oF _ _ (by decide) (by decide) (by omega), z3b _ (by decide)]; exact h8) (Nat.le_refl _) (lc_b8_u w6 (lc_b8_o (by decide) (lc_b8_o (by decide) b3))) (by rw [lcI_UI, if_neg (by omega), lcI_UI, if_neg (by omega), lcI_UI, if_pos ⟨rfl, rfl⟩]) h14
    · iterate 3 rw [lcI_UI, if_neg (by omega)]
      exact z382
    · rw [lcI_UI, if_neg (by omega), lcI_UI, if_pos ⟨rfl, rfl⟩, lcI_UI, if_pos ⟨rfl, rfl⟩]
      have := h10.2.1 x hx
      rw [ex] at this
      rw [this]
      unfold lc_bpt; rw [w1]
/-- a number -/
theorem lc_bgN {tx : Nat → Int32} {n : Nat} {z : lc_S} {a p d : Nat} {L : List lc_nm} {u : Int32} (ht : lc_tk tx n) (h : lc_cQ tx n z a p d L u) (hd : d ≤ 16) (hg : lc_ig (lc_sg tx n a) ≠ 0) : ∃ z', fQ_begin z = some (nI p, z') ∧ lc_kx p d L.length z z' ∧ lcI z' 82 p = 48 ∧ lc_b8 z' ∧
    ((∃ v a', v < 10000 ∧ a < a' ∧ lc_cQ tx n z' a' (p + 1) d L u ∧ lcI z' 83 p = nI v ∧ ∀ y, lc_txA y tx n → lcI y 4 2 = nI (lc_at tx n a + 1) → ∃ y', lc_kp4 y y' ∧ lcI y' 4 2 = nI a' ∧ fR_readNumber (lc_sg tx n a) y = some (nI v, y')) ∨
     (lcI z' 80 14 = 1 ∧ ∀ y, lc_txA y tx n → lcI y 4 2 = nI (lc_at tx n a + 1) → ∃ y', lc_kp4 y y' ∧ fR_readNumber (lc_sg tx n a) y = some (-1, y'))) := by
  obtain ⟨h1, h2, h3, h4, h5, h6, h7, h8, h9, h10, h11, h12, h13, h14⟩ := id h
  have hn := h1.2.1
  have hlt := lc_ig_lt hg
  have hat := lc_at_le tx n a
  obtain ⟨z1, e1, e2, e3, e4⟩ := lc_pkQ h1 h2 (by omega)
  have p1 : lcI z1 89 0 = nI p := by rw [e3.1 _ _ (by omega)]; exact h7
  obtain ⟨z3, ez3⟩ : ∃ x, x = lc_pS 48 p z1 := ⟨_, rfl⟩
  have k3 : lc_kx p d L.length z z3 := by rw [ez3]; exact e3.x.tr (lc_pS_kx (by omega)) (Nat.le_refl _) (Nat.le_refl _) (Nat.le_refl _)
  have b3 : lc_b8 z3 := by rw [ez3]; exact lc_b8_pS (lc_b8_9 e3.n h12)
  have o80 : ∀ k, lcI z3 80 k = lcI z1 80 k := fun k => by rw [ez3]; simp only [lc_pS, lcI_UI, show ¬ (80 : Nat) = 89 by omega, show ¬ (80 : Nat) = 88 by omega, show ¬ (80 : Nat) = 87 by omega, show ¬ (80 : Nat) = 83 by omega, show ¬ (80 : Nat) = 82 by omega, false_and, ↓reduceIte]
  have z3a : lcI z3 80 13 = nI (lc_at tx n a) := by rw [o80]; exact e2
  have z3b : ∀ k, k ≠ 13 → lcI z3 80 k = lcI z 80 k := fun k hk => by rw [o80, e3.1 _ _ (by omega)]
  have z3p : lcI z3 89 0 = nI (p + 1) := by rw [ez3, lc_pS]; simp only [lcI_UI, lcI_UL, lcI_UR, lcL_UI, lcL_UL, lcL_UR, lcR_UI, lcR_UL, lcR_UR, false_and, and_false, true_and, and_true, and_self, ↓reduceIte, Nat.reduceEqDiff, lc_let_eq]
  have z382 : lcI z3 82 p = 48 := by rw [ez3, lc_pS]; simp only [lcI_UI, show ¬ (82 : Nat) = 89 by omega, show ¬ (82 : Nat) = 88 by omega, show ¬ (82 : Nat) = 87 by omega, show ¬ (82 : Nat) = 83 by omega, false_and, and_self, ↓reduceIte]
  have c2 : lc_in (nI p) 600 := nI_in (by omega) (by decide)
  have d2 : (nI p).toNatClampNeg = p := nI_clamp (by omega)
  have c1 : lcI z1 80 16 = nI d := by rw [e3.1 _ _ (by omega)]; exact h6
  have hbg : ∀ x z4, fQ_number z3 = some (x, z4) → fQ_begin z = some (nI p, lcUI z4 83 p x) := fun x z4 hx => by
    rw [fQ_begin, lc_bnd_eq e1, c1, if_pos (show nI d ≤ 16 from nI_le (b := 16) hd (by decide)), lc_bnd_eq (lc_igQ _ z1), if_neg hg, lc_bnd_eq (lc_pQ 48 p1 (by omega)), ← ez3, lc_bnd_eq hx, lc_chk_pos c2, d2]
  have hsg := lc_sg_at (tx := tx) (a := a) hn
  have haa := lc_at_at (tx := tx) (a := a) hn
  obtain ⟨z4, k4, q⟩ := lc_number2 (a := lc_at tx n a) ht z3 (lc_txQx k3 h1) (by rw [z3b _ (by decide)]; exact h5) (by rw [haa]; exact hlt) z3a (by omega) (by rw [hsg]; exact hg)
  rw [haa, hsg] at q
  have k34 : lc_kx p d L.length z z4 := k3.tr k4.x (Nat.le_refl _) (Nat.le_refl _) (Nat.le_refl _)
  rcases q with ⟨v, a', q1, q2, q3, q4, q5, q6, q7⟩ | ⟨x, q1, q2, q3⟩
  · refine ⟨lcUI z4 83 p (nI v), hbg _ _ q6, k34.t _ (by omega), by rw [lcI_UI, if_neg (by omega), k4.1 _ _ (by omega)]; exact z382, lc_b8_o (by decide) (lc_b8_9 k4 b3), Or.inl ⟨v, a', q1, by omega, ?_, by simp only [lcI_UI, lcI_UL, lcI_UR, lcL_UI, lcL_UL, lcL_UR, lcR_UI, lcR_UL, lcR_UR, false_and, and_false, true_and, and_true, and_self, ↓reduceIte, Nat.reduceEqDiff, lc_let_eq], q7⟩⟩
    exact h.mv (d0 := d) (k34.t _ (by omega)) (by rw [lcI_UI, if_neg (by omega)]; exact q4) q3 (by omega) (by omega) (by rw [lcI_UI, if_neg (by omega)]; exact q5) (by rw [lcI_UI, if_neg (by omega), k4.1 _ _ (by omega), z3b _ (by decide)]; exact h6) (by rw [lcI_UI, if_neg (by omega), k4.1 _ _ (by omega)]; exact z3p) (by rw [lcI_UI, if_neg (by omega), k4.1 _ _ (by omega), z3b _ (by decide)]; exact h8) (Nat.le_refl _) (lc_b8_o (by decide) (lc_b8_9 k4 b3)) (by rw [lcI_UI, if_neg (by omega), k4.1 _ _ (by omega), z3b _ (by decide)]; exact h13) h14
  · exact ⟨lcUI z4 83 p x, hbg _ _ q1, k34.t _ (by omega), by rw [lcI_UI, if_neg (by omega), k4.1 _ _ (by omega)]; exact z382, lc_b8_o (by decide) (lc_b8_9 k4 b3), Or.inr ⟨by rw [lcI_UI, if_neg (by omega)]; exact q2, q3⟩⟩
