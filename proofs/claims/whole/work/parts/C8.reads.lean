/-! define: the whole text -/
def lc_kz (o : Nat) (y y' : lc_S) : Prop := (∀ c k, c ≠ 4 → ¬ (5 ≤ c ∧ c ≤ 7) → ¬ (o ≤ c ∧ c ≤ o + 8) → lcI y' c k = lcI y c k) ∧ (∀ c k, lcL y' c k = lcL y c k) ∧ ∀ c k, c ≠ 4 → lcR y' c k = lcR y c k
theorem lc_kz.tr {o : Nat} {x y z : lc_S} (h : lc_kz o x y) (g : lc_kz o y z) : lc_kz o x z := ⟨fun c k a b d => (g.1 c k a b d).trans (h.1 c k a b d), fun c k => (g.2.1 c k).trans (h.2.1 c k), fun c k a => (g.2.2 c k a).trans (h.2.2 c k a)⟩
theorem lc_kp4.z {o : Nat} {x y : lc_S} (h : lc_kp4 x y) : lc_kz o x y := ⟨fun c k a b d => h.1 c k (by omega), h.2.1, fun c k _ => h.2.2 c k⟩
theorem lc_kt.z {o s : Nat} {x y : lc_S} (h : lc_kt o s x y) : lc_kz o x y := ⟨fun c k a b d => h.1 c k (by omega) (by omega) (by omega), h.2.1, fun c k _ => h.2.2 c k⟩
theorem lc_ky.z {o i nb m : Nat} {x y : lc_S} (h : lc_ky o i nb m x y) : lc_kz o x y := ⟨fun c k a b d => h.1 c k (by omega) (by omega) (by omega) (by omega) (by omega), h.2.1, fun c k _ => h.2.2.1 c k⟩
theorem lc_kz.u {o c k : Nat} {y : lc_S} (v : Int32) (h : c = 4 ∨ (5 ≤ c ∧ c ≤ 7) ∨ (o ≤ c ∧ c ≤ o + 8)) : lc_kz o y (lcUI y c k v) := ⟨fun c' k' a b d => by rw [lcI_UI, if_neg (by omega)], fun _ _ => rfl, fun _ _ _ => rfl⟩
def lc_kw (z z' : lc_S) : Prop := (∀ c k, ¬ (c = 80 ∧ (k = 13 ∨ k = 14 ∨ k = 15 ∨ k = 16 ∨ k = 19 ∨ k = 23)) → ¬ (82 ≤ c ∧ c ≤ 88 ∧ k < 120) → ¬ (c = 89 ∧ k = 0) → ¬ ((c = 90 ∨ c = 91) ∧ k < 120) → ¬ (92 ≤ c ∧ c ≤ 97) → c ≠ 119 → lcI z' c k = lcI z c k) ∧ (∀ c k, lcL z' c k = lcL z c k) ∧ ∀ c k, lcR z' c k = lcR z c k
theorem lc_kw.tr {x y z : lc_S} (h : lc_kw x y) (g : lc_kw y z) : lc_kw x z := ⟨fun c k a1 a2 a3 a4 a5 a6 => (g.1 c k a1 a2 a3 a4 a5 a6).trans (h.1 c k a1 a2 a3 a4 a5 a6), fun c k => (g.2.1 c k).trans (h.2.1 c k), fun c k => (g.2.2 c k).trans (h.2.2 c k)⟩
theorem lc_kp9.w {x y : lc_S} (h : lc_kp9 x y) : lc_kw x y := ⟨fun c k a1 a2 a3 a4 a5 a6 => h.1 c k (by omega), h.2.1, h.2.2⟩
theorem lc_kTy.w {x y : lc_S} (h : lc_kTy x y) : lc_kw x y := ⟨fun c k a1 a2 a3 a4 a5 a6 => h.1 c k (by omega) a6 (by omega), h.2.1, h.2.2⟩
theorem lc_kx.w {p d m : Nat} {x y : lc_S} (h : lc_kx p d m x y) : lc_kw x y := ⟨fun c k a1 a2 a3 a4 a5 a6 => h.1 c k (by omega) (by omega) (by omega) (by omega) (by omega), h.2.1, h.2.2⟩
theorem lc_157 {z : lc_S} (hb : lcI z 80 14 = 1) : fQ_read_157 z = some ((), lcUI z 80 14 1) := by
  rw [fQ_read_157, if_neg (by rw [hb]; decide), fQ_read_172, fQ_read_177, lc_chk_pos (Or.inr rfl)]
/-- the rest of the reading of what is bad -/
theorem lc_badB (z : lc_S) (hb : lcI z 80 14 = 1) (h8 : lc_b8 z) : ∃ z', fQ_read_91 z = some ((), z') ∧ lcI z' 80 14 = 1 ∧ lc_kw z z' ∧ lc_b8 z' := by
  obtain ⟨z1, e1, e2, e3, e4, e5⟩ := lc_cp91 120 0 lc_FU z (by omega) (by unfold lc_FU; omega)
  have b1 : lcI z1 80 14 = 1 := by rw [e3 _ _ (by omega)]; exact hb
  refine ⟨lcUI z1 80 14 1, ?_, by simp only [lcI_UI, lcI_UL, lcI_UR, lcL_UI, lcL_UL, lcL_UR, lcR_UI, lcR_UL, lcR_UR, false_and, and_false, true_and, and_true, and_self, ↓reduceIte, Nat.reduceEqDiff, lc_let_eq], ⟨fun c k a1 a2 a3 a4 a5 a6 => by rw [lcI_UI, if_neg (by omega), e3 _ _ (by omega)], fun c k => e4 c k, fun c k => e5 c k⟩, lc_b8_o (by decide) (lc_b8_eq (fun j => e3 _ _ (by omega)) h8)⟩
  rw [fQ_read_91]
  exact e1.trans ((lc_lpB (x := -1) 99999 b1).trans (lc_157 b1))
theorem lc_badA (z : lc_S) (hb : lcI z 80 14 = 1) (h8 : lc_b8 z) : ∃ z', fQ_read_52 lc_FU 0 z = some ((), z') ∧ lcI z' 80 14 = 1 ∧ lc_kw z z' ∧ lc_b8 z' := by
  obtain ⟨z1, e1, e2, e3, e4, e5⟩ := lc_cp90 120 0 lc_FU z (by omega) (by unfold lc_FU; omega)
  have b1 : lcI z1 80 14 = 1 := by rw [e3 _ _ (by omega)]; exact hb
  obtain ⟨z2, g1, g2, g3, g4⟩ := lc_badB z1 b1 (lc_b8_eq (fun j => e3 _ _ (by omega)) h8)
  refine ⟨z2, ?_, g2, lc_kw.tr ⟨fun c k a1 a2 a3 a4 a5 a6 => by rw [e3 _ _ (by omega)], fun c k => e4 c k, fun c k => e5 c k⟩ g3, g4⟩
  rw [if_neg (by rw [b1]; decide)] at e1
  exact e1.trans g1
theorem lc_Rb_sz {y z : lc_S} {o base nb : Nat} : ∀ (D lo i p hi : Nat) (env : List lc_en), lc_Rb y z o base nb D lo i p hi env → i + 1 + p = hi + lo
  | 0, _, _, _, _, _, h => h.elim
  | D + 1, lo, i, p, hi, env, h => by
    have IH := lc_Rb_sz (y := y) (z := z) (o := o) (base := base) (nb := nb) D
    rw [lc_Rb] at h
    obtain ⟨h1, h2, h3, h4, h⟩ := h
    rcases h with ⟨e1, e2, -⟩ | ⟨e1, e2, -⟩ | ⟨a, q1, g1, g2, g3, g4, h⟩
    · omega
    · omega
    · have s1 := IH _ _ _ _ _ g4
      rcases h with ⟨-, e1, e2, -⟩ | ⟨-, e1, e2, -⟩ | ⟨a2, q2, k1, k2, h⟩
      · omega
      · omega
      · rcases h with ⟨m1, m2, m3, m4⟩ | ⟨m1, m2, m3, b, m4, m5, m6, m7, m8⟩ | ⟨m1, m2, m3, b, m4, m5, m6, m7, m8⟩ | ⟨m1, a3, m2, m3, m4, m5, m6⟩
        · have s2 := IH _ _ _ _ _ m4; omega
        · have s2 := IH _ _ _ _ _ m8; omega
        · have s2 := IH _ _ _ _ _ m8; omega
        · have s2 := IH _ _ _ _ _ m5
          have s3 := IH _ _ _ _ _ m6
          omega
/-- what the class starts from -/
theorem lc_start0 {tx : Nat → Int32} {n o : Nat} (ho : lc_sh o = (0, 1, 0)) (y : lc_S) (hn : n ≤ 120) (hy : ∀ j, j < n → lcI y 2 j = tx j) : ∃ y0, lc_kz o y y0 ∧ lc_txA y0 tx n ∧ lcR y0 4 3 = some o ∧ lcI y0 4 2 = nI 0 ∧ lcI y0 4 4 = 0 ∧ lcI y0 4 8 = nI 0 ∧ lcI y0 o 1 = nI 0 ∧ lcI y0 o 3 = nI 0 ∧ lcI y0 o 11 = nI 0 ∧ lcI y0 o 13 = nI 1 ∧ lcI y0 (o + 8) 0 = -1 ∧
    fR_reads 2 (nI n) o y = lc_bnd (fR_nextSign y0) (fun r38 z38 => lc_bnd (fR_isLetter r38 z38) (fun r45 z45 => if r45 = 0 then (fR_reads_59 z45) else (lc_bnd (fR_readType lc_FT 0 z45) (fun r53 z53 => if r53 = 0 then (fR_reads_59 z53) else (lc_bnr (lcR z53 4 3) (fun q62 => lc_bnr (lcR z53 4 3) (fun q66 => lc_chk (lc_sh q66 = (0, 1, 0)) (lc_chk (lc_sh q62 = (0, 1, 0)) (lc_bnd (fR_addName r38 0 0 (lcUI z53 q62 4 (lcI z53 q66 3))) (fun r80 z80 => lc_bnd (fR_readType lc_FT 0 z80) (fun r85 z85 => if r85 = 0 then (fR_reads_111 z85) else (lc_bnd (fR_readExpression lc_FE 0 z85) (fun r93 z93 => if r93 = (-1) then (fR_reads_111 z93) else (lc_bnd (fR_nextSign z93) (fun r101 z101 => if r101 = 0 then (some (1, z101)) else (fR_reads_111 z101)))))))))))))))) := by
  have ho' := lc_o ho
  have d0 : (0 : Int32).toNatClampNeg = 0 := by decide
  obtain ⟨ya, eya⟩ : ∃ x, x = lcUR (lcUI (lcUI (lcUR y 4 0 (some 2)) 4 1 (nI n)) 4 2 0) 4 3 (some o) := ⟨_, rfl⟩
  obtain ⟨y0, ey0⟩ : ∃ x, x = lcUI (lcUI (lcUI (lcUI (lcUI (lcUI (lcUI (lcUI (lcUI ya o 0 0) o 1 0) o 3 0) o 4 0) o 11 0) (o + 8) 0 (-1)) o 13 1) 4 4 0) 4 8 0 := ⟨_, rfl⟩
  have oA : ∀ c k, ¬ (c = 4 ∧ (k = 1 ∨ k = 2)) → lcI ya c k = lcI y c k := fun c k g => by
    rw [eya, lcI_UR, lcI_UI, if_neg (by omega), lcI_UI, if_neg (by omega), lcI_UR]
  have oY : ∀ c k, ¬ (c = 4 ∧ (k = 4 ∨ k = 8)) → ¬ (c = o ∧ (k = 0 ∨ k = 1 ∨ k = 3 ∨ k = 4 ∨ k = 11 ∨ k = 13)) → ¬ (c = o + 8 ∧ k = 0) → lcI y0 c k = lcI ya c k := fun c k g1 g2 g3 => by
    rw [ey0]
    iterate 9 rw [lcI_UI, if_neg (by omega)]
  have rA : ∀ c k, lcR y0 c k = lcR ya c k := fun c k => by rw [ey0]; rfl
  have rB : ∀ c k, ¬ (c = 4 ∧ (k = 0 ∨ k = 3)) → lcR ya c k = lcR y c k := fun c k g => by
    rw [eya, lcR_UR, if_neg (by omega), lcR_UI, lcR_UI, lcR_UR, if_neg (by omega)]
  have r43 : lcR ya 4 3 = some o := by rw [eya, lcR_UR, if_pos ⟨rfl, rfl⟩]
  have r40 : lcR ya 4 0 = some 2 := by rw [eya, lcR_UR, if_neg (by omega), lcR_UI, lcR_UI, lcR_UR, if_pos ⟨rfl, rfl⟩]
  refine ⟨y0, ⟨fun c k a b d => by rw [oY c k (by omega) (by omega) (by omega), oA c k (by omega)], fun c k => by rw [ey0, eya]; rfl, fun c k a => by rw [rA, rB c k (by omega)]⟩, ⟨by rw [rA]; exact r40, ?_, hn, fun j hj => by rw [oY _ _ (by omega) (by omega) (by omega), oA _ _ (by omega)]; exact hy j hj⟩, by rw [rA]; exact r43, ?_, ?_, ?_, ?_, ?_, ?_, ?_, ?_, ?_⟩
  · rw [oY _ _ (by omega) (by omega) (by omega), eya, lcI_UR, lcI_UI, if_neg (by omega), lcI_UI, if_pos ⟨rfl, rfl⟩]
  · rw [oY _ _ (by omega) (by omega) (by omega), eya, lcI_UR, lcI_UI, if_pos ⟨rfl, rfl⟩]; rfl
  · rw [ey0, lcI_UI, if_neg (by omega), lcI_UI, if_pos ⟨rfl, rfl⟩]
  · rw [ey0, lcI_UI, if_pos ⟨rfl, rfl⟩]; rfl
  · rw [ey0]
    iterate 7 rw [lcI_UI, if_neg (by omega)]
    rw [lcI_UI, if_pos ⟨rfl, rfl⟩]; rfl
  · rw [ey0]
    iterate 6 rw [lcI_UI, if_neg (by omega)]
    rw [lcI_UI, if_pos ⟨rfl, rfl⟩]; rfl
  · rw [ey0]
    iterate 4 rw [lcI_UI, if_neg (by omega)]
    rw [lcI_UI, if_pos ⟨rfl, rfl⟩]; rfl
  · rw [ey0]
    iterate 2 rw [lcI_UI, if_neg (by omega)]
    rw [lcI_UI, if_pos ⟨rfl, rfl⟩]; rfl
  · rw [ey0]
    iterate 3 rw [lcI_UI, if_neg (by omega)]
    rw [lcI_UI, if_pos ⟨rfl, rfl⟩]
  · have hcl : fP_clear o ya = some ((), lcUI (lcUI (lcUI (lcUI (lcUI (lcUI (lcUI ya o 0 0) o 1 0) o 3 0) o 4 0) o 11 0) (o + 8) 0 (-1)) o 13 1) := by
      rw [fP_clear, lc_chk_pos ho, d0]
    rw [fR_reads, ← eya, lc_bnr_eq r43, lc_chk_pos ho, lc_bnd_eq hcl, ← ey0]
def lc_rdd (y z : lc_S) (o : Nat) : Prop := ∃ u hi τ σ e f r1 r2 G, (u = 0 ∨ u = 1) ∧ lcI y 4 4 = u ∧ lcI z 80 15 = u ∧ 0 < hi ∧ hi ≤ 120 ∧ lcI y o 11 = nI hi ∧ lcI z 89 0 = nI hi ∧ (∃ nb, nb ≤ 24 ∧ lc_Rb y z o 0 nb 17 0 (hi - 1) 0 hi [(0, 0, -1, 0)]) ∧ lc_pd τ ≤ 4 ∧ lc_pd σ ≤ 4 ∧ e ≤ 62 ∧ f ≤ 62 ∧ lcI y o 4 = nI e ∧ lcI y o 3 = nI f ∧ lc_pf (fun j => lcI y (o + 1) j) τ 0 e ∧ lc_pf (fun j => lcI y (o + 1) j) σ e f ∧ r1 < 120 ∧ lc_xf (fun j => lcI z 90 j) τ 0 r1 ∧ lcI z 90 r1 = 0 ∧ r2 < 120 ∧ lc_xf (fun j => lcI z 91 j) σ 0 r2 ∧ lcI z 91 r2 = 0 ∧ lcI y (o + 8) 0 = -1 ∧ G < 16 ∧ lcI y o 1 = nI G ∧ lc_clQ z hi G
theorem lc_reads {tx : Nat → Int32} {n o : Nat} (ht : lc_tk tx n) (ho : lc_sh o = (0, 1, 0)) (y z : lc_S) (hn : n ≤ 120) (hy : ∀ j, j < n → lcI y 2 j = tx j) (hz : lc_txQ z tx n) (h8 : lc_b8 z) : ∃ y' z', lc_kz o y y' ∧ lc_kw z z' ∧ lc_b8 z' ∧ fQ_read z = some ((), z') ∧ ((fR_reads 2 (nI n) o y = some (0, y') ∧ lcI z' 80 14 = 1) ∨ (fR_reads 2 (nI n) o y = some (1, y') ∧ lcI z' 80 14 = 0 ∧ lc_rdd y' z' o)) := by
  have ho' := lc_o ho
  have d0 : (0 : Int32).toNatClampNeg = 0 := by decide
  obtain ⟨y0, ky0, a1, a2, a3, a4, a5, a6, a7, a8, a9, a10, a11⟩ := lc_start0 (tx := tx) ho y hn hy
  -- the reference starts
  obtain ⟨z0, ez0⟩ : ∃ x, x = lcUI (lcUI (lcUI (lcUI (lcUI (lcUI z 80 13 0) 80 14 0) 80 15 0) 80 16 0) 80 19 0) 89 0 0 := ⟨_, rfl⟩
  have o0 : ∀ c k, ¬ (c = 80 ∧ (k = 13 ∨ k = 14 ∨ k = 15 ∨ k = 16 ∨ k = 19)) → ¬ (c = 89 ∧ k = 0) → lcI z0 c k = lcI z c k := fun c k g1 g2 => by
    rw [ez0]
    iterate 6 rw [lcI_UI, if_neg (by omega)]
  have kw0 : lc_kw z z0 := ⟨fun c k b1 b2 b3 b4 b5 b6 => o0 c k (by omega) b3, fun c k => by rw [ez0]; rfl, fun c k => by rw [ez0]; rfl⟩
  have v13 : lcI z0 80 13 = nI 0 := by rw [ez0]; simp only [lcI_UI, lcI_UL, lcI_UR, lcL_UI, lcL_UL, lcL_UR, lcR_UI, lcR_UL, lcR_UR, false_and, and_false, true_and, and_true, and_self, ↓reduceIte, Nat.reduceEqDiff, lc_let_eq]; rfl
  have v14 : lcI z0 80 14 = 0 := by rw [ez0]; simp only [lcI_UI, lcI_UL, lcI_UR, lcL_UI, lcL_UL, lcL_UR, lcR_UI, lcR_UL, lcR_UR, false_and, and_false, true_and, and_true, and_self, ↓reduceIte, Nat.reduceEqDiff, lc_let_eq]
  have v15 : lcI z0 80 15 = 0 := by rw [ez0]; simp only [lcI_UI, lcI_UL, lcI_UR, lcL_UI, lcL_UL, lcL_UR, lcR_UI, lcR_UL, lcR_UR, false_and, and_false, true_and, and_true, and_self, ↓reduceIte, Nat.reduceEqDiff, lc_let_eq]
  have v16 : lcI z0 80 16 = 0 := by rw [ez0]; simp only [lcI_UI, lcI_UL, lcI_UR, lcL_UI, lcL_UL, lcL_UR, lcR_UI, lcR_UL, lcR_UR, false_and, and_false, true_and, and_true, and_self, ↓reduceIte, Nat.reduceEqDiff, lc_let_eq]
  have v19 : lcI z0 80 19 = 0 := by rw [ez0]; simp only [lcI_UI, lcI_UL, lcI_UR, lcL_UI, lcL_UL, lcL_UR, lcR_UI, lcR_UL, lcR_UR, false_and, and_false, true_and, and_true, and_self, ↓reduceIte, Nat.reduceEqDiff, lc_let_eq]
  have v89 : lcI z0 89 0 = 0 := by rw [ez0]; simp only [lcI_UI, lcI_UL, lcI_UR, lcL_UI, lcL_UL, lcL_UR, lcR_UI, lcR_UL, lcR_UR, false_and, and_false, true_and, and_true, and_self, ↓reduceIte, Nat.reduceEqDiff, lc_let_eq]
  have hz0 : lc_txQ z0 tx n := ⟨by rw [o0 _ _ (by omega) (by omega)]; exact hz.1, hz.2.1, fun j hj => by rw [o0 _ _ (by omega) (by omega)]; exact hz.2.2 j hj⟩
  have h80 : lc_b8 z0 := lc_b8_eq (fun j => o0 _ _ (by omega) (by omega)) h8
  obtain ⟨z1, e1, e2, e3, e4⟩ := lc_ltQ hz0 v13 (by omega) (Or.inl v14)
  obtain ⟨s, hs⟩ : ∃ s, s = lc_sg tx n 0 := ⟨_, rfl⟩
  rw [← hs] at e1 e4
  have e19 : lcI z1 80 19 = nI 0 := by rw [e2.1 _ _ (by omega), v19]; rfl
  obtain ⟨z2, ez2⟩ : ∃ x, x = lcUI (lcUI (lcUI (lcUI z1 94 0 s) 95 0 (-1)) 96 0 0) 80 19 (nI (0 + 1)) := ⟨_, rfl⟩
  have eb : fQ_bind s (-1) 0 z1 = some ((), z2) := by rw [lc_bdQ s (-1) 0 e19 (by omega) (Or.inl rfl), ← ez2]
  have o2 : ∀ c k, ¬ (c = 80 ∧ k = 19) → ¬ (94 ≤ c ∧ c ≤ 96 ∧ k = 0) → lcI z2 c k = lcI z1 c k := fun c k g1 g2 => by
    rw [ez2]
    iterate 4 rw [lcI_UI, if_neg (by omega)]
  have kw2 : lc_kw z z2 := (kw0.tr e2.w).tr ⟨fun c k b1 b2 b3 b4 b5 b6 => o2 c k (by omega) (by omega), fun c k => by rw [ez2]; rfl, fun c k => by rw [ez2]; rfl⟩
  have b82 : lc_b8 z2 := lc_b8_eq (fun j => o2 _ _ (by omega) (by omega)) (lc_b8_9 e2 h80)
  have hz2 : lc_txQ z2 tx n := ⟨by rw [kw2.1 _ _ (by omega) (by omega) (by omega) (by omega) (by omega) (by omega)]; exact hz.1, hz.2.1, fun j hj => by rw [kw2.1 _ _ (by omega) (by omega) (by omega) (by omega) (by omega) (by omega)]; exact hz.2.2 j hj⟩
  have hrd : ∀ z3, fQ_type 119 z2 = some ((), z3) → fQ_read z = fQ_read_52 lc_FU 0 z3 := fun z3 h3 => by
    rw [fQ_read, d0, ← ez0, lc_bnd_eq e1, lc_bnd_eq eb, lc_bnd_eq h3]
  obtain ⟨y1, f1, f2, f3⟩ := lc_nsA a1 a3 (Nat.zero_le n)
  rw [← hs] at f1
  by_cases hl : lc_il s = 0
  · -- no letter
    have b2 : lcI z2 80 14 = 1 := by rw [o2 _ _ (by omega) (by omega), e4, if_neg (fun g => g.2 hl)]
    obtain ⟨z3, g1, g2, g3⟩ := lc_typX z2 b2
    obtain ⟨z4, m1, m2, m3, m4⟩ := lc_badA z3 g2 (lc_b8_eq (fun j => g3.1 _ _ (by omega) (by omega) (by omega)) b82)
    refine ⟨y1, z4, ky0.tr f3.z, (kw2.tr g3.w).tr m3, m4, by rw [hrd z3 g1, m1], Or.inl ⟨?_, m2⟩⟩
    rw [a11, lc_bnd_eq f1, lc_bnd_eq (lc_ilA _ y1), if_pos hl]
    rfl
  · have hlt : lc_at tx n 0 < n := lc_sg_lt (fun e => hl (by rw [hs, e]; decide))
    rw [lc_nx_lt hlt] at f2
    have b2 : lcI z2 80 14 = 0 := by rw [o2 _ _ (by omega) (by omega), e4, if_pos ⟨v14, hl⟩]
    have hy1 := lc_txA4 f3 a1
    have r1 : lcR y1 4 3 = some o := by rw [f3.2.2]; exact a2
    obtain ⟨y2, z3, k2, k3, t1, t2⟩ := lc_typ (s := 0) ht ho y1 z2 hy1 hz2 r1 (by rw [f3.1 _ _ (by omega)]; exact a7) (by omega) f2 (by rw [o2 _ _ (by omega) (by omega)]; exact e3) (by omega) b2
    have b83 : lc_b8 z3 := lc_b8_eq (fun j => k3.1 _ _ (by omega) (by omega) (by omega)) b82
    rcases t2 with ⟨τ, a', e, r, q1, q2, q3, q4, q5, q6, q7, q8, q9, q10, q11, q12, q13⟩ | ⟨q1, q2⟩
    · -- the variable's type is there
      obtain ⟨y3, ey3⟩ : ∃ x, x = lcUI y2 o 4 (nI e) := ⟨_, rfl⟩
      have r2 : lcR y2 4 3 = some o := by rw [k2.2.2]; exact r1
      have o3 : ∀ c k, ¬ (c = o ∧ k = 4) → lcI y3 c k = lcI y2 c k := fun c k g => by rw [ey3, lcI_UI, if_neg g]
      have n3 : lcI y3 4 8 = nI ([] : List lc_nm).length := by rw [o3 _ _ (by omega), k2.1 _ _ (by omega) (by omega) (by omega), f3.1 _ _ (by omega)]; exact a5
      obtain ⟨y4, m1, m2, m3, m4, m5, m6⟩ := lc_aM2 (L := []) s 0 0 (-1) 0 n3 (by decide) trivial
      have m2' : lcI y4 4 8 = nI 1 := m2
      have o24 : ∀ c k, c ≠ 5 → c ≠ 6 → c ≠ 7 → ¬ (c = 4 ∧ k = 8) → ¬ (c = o ∧ k = 4) → lcI y4 c k = lcI y2 c k := fun c k g1 g2 g3 g4 g5 => by rw [m4 c k g4 (by omega), o3 c k g5]
      have o14 : ∀ c k, c ≠ 5 → c ≠ 6 → c ≠ 7 → ¬ (c = 4 ∧ (k = 8 ∨ k = 2)) → ¬ (c = o ∧ (k = 4 ∨ k = 3)) → c ≠ o + 1 → lcI y4 c k = lcI y0 c k := fun c k g1 g2 g3 g4 g5 g6 => by rw [o24 c k g1 g2 g3 (by omega) (by omega), k2.1 _ _ (by omega) (by omega) (by omega), f3.1 _ _ (by omega)]
      have ky04 : lc_kz o y0 y4 := (f3.z.tr k2.z).tr ⟨fun c k b1 b2 b3 => o24 c k (by omega) (by omega) (by omega) (by omega) (by omega), fun c k => by rw [m5, ey3]; rfl, fun c k _ => by rw [m6, ey3]; rfl⟩
      have r4 : lcR y4 4 3 = some o := by rw [m6, ey3]; exact r2
      have tx4 : lc_txA y4 tx n := ⟨by rw [m6, ey3]; show lcR y2 4 0 = _; rw [k2.2.2, f3.2.2]; exact a1.1, by rw [o14 _ _ (by omega) (by omega) (by omega) (by omega) (by omega) (by omega)]; exact a1.2.1, hn, fun j hj => by rw [o14 _ _ (by omega) (by omega) (by omega) (by omega) (by omega) (by omega)]; exact a1.2.2.2 j hj⟩
      -- the class up to the second type
      have clsA : fR_reads 2 (nI n) o y = lc_bnd (fR_readType lc_FT 0 y4) (fun r85 z85 => if r85 = 0 then (fR_reads_111 z85) else (lc_bnd (fR_readExpression lc_FE 0 z85) (fun r93 z93 => if r93 = (-1) then (fR_reads_111 z93) else (lc_bnd (fR_nextSign z93) (fun r101 z101 => if r101 = 0 then (some (1, z101)) else (fR_reads_111 z101)))))) := by
        rw [a11, lc_bnd_eq f1, lc_bnd_eq (lc_ilA _ y1), if_neg hl, lc_bnd_eq q1, if_neg (by decide), lc_bnr_eq r2, lc_bnr_eq r2, lc_chk_pos ho, lc_chk_pos ho, q11, ← ey3]
        exact lc_bnd_eq m1
      -- the reference up to the second type
      obtain ⟨z4, w1, w2, w3, w4, w5⟩ := lc_cp90 120 0 lc_FU z3 (by omega) (by unfold lc_FU; omega)
      have b4 : lcI z4 80 14 = 0 := by rw [w3 _ _ (by omega)]; exact q13
      rw [if_pos b4] at w1
      have kw4 : lc_kw z z4 := (kw2.tr k3.w).tr ⟨fun c k b1 b2 b3 b4 b5 b6 => w3 c k (by omega), w4, w5⟩
      have b84 : lc_b8 z4 := lc_b8_eq (fun j => w3 _ _ (by omega)) b83
      have hz4 : lc_txQ z4 tx n := ⟨by rw [kw4.1 _ _ (by omega) (by omega) (by omega) (by omega) (by omega) (by omega)]; exact hz.1, hz.2.1, fun j hj => by rw [kw4.1 _ _ (by omega) (by omega) (by omega) (by omega) (by omega) (by omega)]; exact hz.2.2 j hj⟩
      obtain ⟨y5, z5, k5, k6, t3, t4⟩ := lc_typ (s := e) ht ho y4 z4 tx4 hz4 r4 (by rw [o24 _ _ (by omega) (by omega) (by omega) (by omega) (by omega)]; exact q11) (by omega) (by rw [o24 _ _ (by omega) (by omega) (by omega) (by omega) (by omega)]; exact q10) (by rw [w3 _ _ (by omega)]; exact q12) q9 b4
      have b85 : lc_b8 z5 := lc_b8_eq (fun j => k6.1 _ _ (by omega) (by omega) (by omega)) b84
      have hrdB : fQ_read z = fQ_read_91 z5 := by
        rw [hrd z3 t1]
        refine w1.trans ?_
        rw [lc_bnd_eq t3]
      rcases t4 with ⟨σ, a'', f, r', p1, p2, p3, p4, p5, p6, p7, p8, p9, p10, p11, p12, p13⟩ | ⟨p1, p2⟩
      · -- both types are there
        obtain ⟨z6, x1, x2, x3, x4, x5⟩ := lc_cp91 120 0 lc_FU z5 (by omega) (by unfold lc_FU; omega)
        have hrdC : fQ_read z = fQ_read_119 lc_FU (-1) z6 := by rw [hrdB, fQ_read_91]; exact x1
        have kw6 : lc_kw z z6 := (kw4.tr k6.w).tr ⟨fun c k b1 b2 b3 b4 b5 b6 => x3 c k (by omega), x4, x5⟩
        have o26 : ∀ c k, ¬ (c = 80 ∧ (k = 13 ∨ k = 14 ∨ k = 23)) → c ≠ 119 → c ≠ 97 → c ≠ 90 → c ≠ 91 → lcI z6 c k = lcI z2 c k := fun c k g1 g2 g3 g4 g5 => by rw [x3 c k (by omega), k6.1 c k g1 g2 g3, w3 c k (by omega), k3.1 c k g1 g2 g3]
        have o02 : ∀ c k, ¬ (c = 80 ∧ (k = 13 ∨ k = 14 ∨ k = 23 ∨ k = 19)) → ¬ (94 ≤ c ∧ c ≤ 96) → c ≠ 119 → c ≠ 97 → c ≠ 90 → c ≠ 91 → lcI z6 c k = lcI z0 c k := fun c k g1 g1' g2 g3 g4 g5 => by rw [o26 c k (by omega) g2 g3 g4 g5, o2 c k (by omega) (by omega), e2.1 c k (by omega)]
        have hcQ : lc_cQ tx n z6 a'' 0 0 [(s, (0, 0, -1, 0))] 0 := by
          refine ⟨⟨by rw [kw6.1 _ _ (by omega) (by omega) (by omega) (by omega) (by omega) (by omega)]; exact hz.1, hz.2.1, fun j hj => by rw [kw6.1 _ _ (by omega) (by omega) (by omega) (by omega) (by omega) (by omega)]; exact hz.2.2 j hj⟩, by rw [x3 _ _ (by omega)]; exact p12, p9, by omega, by rw [x3 _ _ (by omega)]; exact p13, by rw [o02 _ _ (by omega) (by omega) (by omega) (by omega) (by omega) (by omega)]; exact v16, by rw [o02 _ _ (by omega) (by omega) (by omega) (by omega) (by omega) (by omega)]; exact v89, ?_, ⟨?_, ?_, ?_, Or.inl rfl, trivial⟩, ⟨fun x hx => ?_, fun x hx => ?_, rfl⟩, Nat.le_refl _, lc_b8_eq (fun j => x3 _ _ (by omega)) b85, by rw [o02 _ _ (by omega) (by omega) (by omega) (by omega) (by omega) (by omega)]; exact v15, Or.inl rfl⟩
          · rw [o26 _ _ (by omega) (by omega) (by omega) (by omega) (by omega), ez2]; simp only [lcI_UI, lcI_UL, lcI_UR, lcL_UI, lcL_UL, lcL_UR, lcR_UI, lcR_UL, lcR_UR, false_and, and_false, true_and, and_true, and_self, ↓reduceIte, Nat.reduceEqDiff, lc_let_eq]; rfl
          · rw [o26 _ _ (by omega) (by omega) (by omega) (by omega) (by omega), ez2, lcI_UI, if_neg (by omega), lcI_UI, if_neg (by omega), lcI_UI, if_neg (by omega), lcI_UI, if_pos ⟨rfl, rfl⟩]
          · rw [o26 _ _ (by omega) (by omega) (by omega) (by omega) (by omega), ez2, lcI_UI, if_neg (by omega), lcI_UI, if_neg (by omega), lcI_UI, if_pos ⟨rfl, rfl⟩]
          · rw [o26 _ _ (by omega) (by omega) (by omega) (by omega) (by omega), ez2, lcI_UI, if_neg (by omega), lcI_UI, if_pos ⟨rfl, rfl⟩]
          · rcases List.mem_singleton.mp hx with rfl
            exact Or.inl rfl
          · rcases List.mem_singleton.mp hx with rfl
            rfl
        have o05 : ∀ c k, c ≠ 5 → c ≠ 6 → c ≠ 7 → ¬ (c = 4 ∧ (k = 8 ∨ k = 2)) → ¬ (c = o ∧ (k = 4 ∨ k = 3)) → c ≠ o + 1 → lcI y5 c k = lcI y0 c k := fun c k g1 g2 g3 g4 g5 g6 => by rw [k5.1 c k (by omega) (by omega) (by omega), o14 c k g1 g2 g3 g4 g5 g6]
        have hcA : lc_acA tx n y5 o a'' 0 1 [(s, (0, 0, -1, 0))] 0 0 := by
          refine ⟨lc_txAt ho k5 tx4, by rw [k5.2.2]; exact r4, p10, by rw [o05 _ _ (by omega) (by omega) (by omega) (by omega) (by omega) (by omega)]; exact a8, by omega, by rw [o05 _ _ (by omega) (by omega) (by omega) (by omega) (by omega) (by omega)]; exact a9, by omega, by rw [k5.1 _ _ (by omega) (by omega) (by omega)]; exact m2', lc_nA_eq _ (fun c k u v w => k5.1 c k (by omega) (by omega) (by omega)) m3, fun x hx => ?_, by rw [o05 _ _ (by omega) (by omega) (by omega) (by omega) (by omega) (by omega)]; exact a6, by omega, by rw [o05 _ _ (by omega) (by omega) (by omega) (by omega) (by omega) (by omega)]; exact a4, show 1 ≤ 33 by omega⟩
          rcases List.mem_singleton.mp hx with rfl
          show (0 : Nat) < 1
          omega
        have hcl : lc_clQ z6 0 0 := fun c _ => ⟨fun g => absurd (g.symm.trans (Nat.zero_testBit c)) (by decide), fun ⟨q, g, _⟩ => by omega⟩
        obtain ⟨z7, hx⟩ := lc_xE ht ho 17 0 lc_FE 1 a'' 0 [(s, (0, 0, -1, 0))] 0 z6 (by omega) (by decide) hcQ
        rcases hx with ⟨⟨c1, c2, c3⟩, ⟨st, c4, c5⟩, c6⟩ | ⟨c1, a4', hi, B, st, u', c2, c3, c4, c5, c6, c7, c8⟩
        · -- the body is bad
          obtain ⟨y6, d1, d2⟩ := c6 y5 0 0 hcA hcl
          refine ⟨y6, lcUI z7 80 14 1, ((ky0.tr ky04).tr k5.z).tr d2.z, (kw6.tr c1.w).tr (lc_kp9.u _).w, lc_b8_o (by decide) c3, ?_, Or.inl ⟨?_, by simp only [lcI_UI, lcI_UL, lcI_UR, lcL_UI, lcL_UL, lcL_UR, lcR_UI, lcR_UL, lcR_UR, false_and, and_false, true_and, and_true, and_self, ↓reduceIte, Nat.reduceEqDiff, lc_let_eq]⟩⟩
          · obtain ⟨F, hF⟩ : ∃ F, lc_FU = F + st := ⟨lc_FU - st, by unfold lc_FU; omega⟩
            rw [hrdC, hF, c5, lc_157 c2]
          · rw [clsA, lc_bnd_eq p1, if_neg (by decide)]
            have d1' : fR_readExpression lc_FE 0 y5 = some (-1, y6) := d1
            rw [lc_bnd_eq d1', if_pos rfl]
            rfl
        · -- the body is there
          have h4n := c6.2.2.1
          obtain ⟨y6, d1, d2⟩ := c8 y5 0 0 hcA hcl
          rcases d2 with ⟨d3, -⟩ | ⟨d3, i, G, d4, d5, d6, d7, d8, d9⟩
          · omega
          · have sz := lc_Rb_sz _ _ _ _ _ _ d9
            have lt := lc_Rb_lt d9
            obtain ⟨y7, g1, g2, g3⟩ := lc_nsA d7.1 d7.2.2.1 h4n
            obtain ⟨z8, n1, n2, n3, n4⟩ := lc_pkQ c6.1 c6.2.1 (by omega)
            have d4' : fR_readExpression lc_FE 0 y5 = some (nI i, y6) := d4
            have kyE : lc_kz o y y7 := (((ky0.tr ky04).tr k5.z).tr d1.z).tr g3.z
            have kwE : ∀ v : Int32, lc_kw z (lcUI z8 80 14 v) := fun v => ((kw6.tr c1.w).tr n3.n.w).tr (lc_kp9.u _).w
            have bE : ∀ v : Int32, lc_b8 (lcUI z8 80 14 v) := fun v => lc_b8_o (by decide) (lc_b8_9 n3.n c6.2.2.2.2.2.2.2.2.2.2.2.1)
            have ref : fQ_read z = some ((), lcUI z8 80 14 (if lc_sg tx n a4' = 0 then 0 else 1)) := by
              obtain ⟨F, hF⟩ : ∃ F, lc_FU = F + 1 + st := ⟨lc_FU - 1 - st, by unfold lc_FU; omega⟩
              rw [hrdC, hF, c7, fQ_read_119, if_pos c6.2.2.2.2.1, if_neg (by decide), c6.2.2.2.2.2.1, if_pos (by decide), fQ_read_157, if_pos c6.2.2.2.2.1, lc_bnd_eq n1]
              by_cases hz' : lc_sg tx n a4' = 0
              · rw [if_pos hz', if_pos hz', fQ_read_177, lc_chk_pos (Or.inl rfl)]
              · rw [if_neg hz', if_neg hz', fQ_read_172, fQ_read_177, lc_chk_pos (Or.inr rfl)]
            have cls : fR_reads 2 (nI n) o y = if lc_sg tx n a4' = 0 then some (1, y7) else some (0, y7) := by
              rw [clsA, lc_bnd_eq p1, if_neg (by decide), lc_bnd_eq d4', if_neg (lc_nIm (by omega)), lc_bnd_eq g1]
              rfl
            by_cases hz' : lc_sg tx n a4' = 0
            · rw [if_pos hz'] at ref cls
              refine ⟨y7, _, kyE, kwE _, bE _, ref, Or.inr ⟨cls, by simp only [lcI_UI, lcI_UL, lcI_UR, lcL_UI, lcL_UL, lcL_UR, lcR_UI, lcR_UL, lcR_UR, false_and, and_false, true_and, and_true, and_self, ↓reduceIte, Nat.reduceEqDiff, lc_let_eq], ?_⟩⟩
              have ob : ∀ c k, ¬ (c = 80 ∧ (k = 13 ∨ k = 14)) → lcI (lcUI z8 80 14 0) c k = lcI z7 c k := fun c k g => by rw [lcI_UI, if_neg (by omega), n3.1 c k (by omega)]
              have hhi : hi - 1 = i := by omega
              refine ⟨u', hi, τ, σ, e, f, r, r', G, c6.2.2.2.2.2.2.2.2.2.2.2.2.2, ?_, ?_, c3, by omega, ?_, ?_, ⟨1 + B, d3, ?_⟩, q2, p2, by omega, by omega, ?_, ?_, ?_, ?_, by omega, ?_, ?_, by omega, ?_, ?_, ?_, d7.2.2.2.2.2.2.2.2.2.2.2.1, ?_, ?_⟩
              · rw [g3.1 _ _ (by omega)]; exact d7.2.2.2.2.2.2.2.2.2.2.2.2.1
              · rw [ob _ _ (by omega)]; exact c6.2.2.2.2.2.2.2.2.2.2.2.2.1
              · rw [g3.1 _ _ (by omega), d7.2.2.2.1, show i + 1 = hi by omega]
              · rw [ob _ _ (by omega)]; exact c6.2.2.2.2.2.2.1
              · rw [hhi]
                exact lc_Rb_eq (Nat.le_refl _) (fun b _ => g3.1 _ _ (by omega)) _ _ _ _ _ _ (fun c k _ _ _ _ => g3.1 _ _ (by omega)) (fun c j _ _ _ _ => ob _ _ (by omega)) d9
              · rw [g3.1 _ _ (by omega), d1.1 _ _ (by omega) (by omega) (by omega) (by omega) (by omega), k5.1 _ _ (by omega) (by omega) (by omega), m4 _ _ (by omega) (by omega), ey3, lcI_UI, if_pos ⟨rfl, rfl⟩]
              · rw [g3.1 _ _ (by omega), d1.1 _ _ (by omega) (by omega) (by omega) (by omega) (by omega)]; exact p11
              · exact lc_pf_eq τ 0 e (fun j _ hj => by rw [g3.1 _ _ (by omega), d1.1 _ _ (by omega) (by omega) (by omega) (by omega) (by omega), k5.1 _ _ (by omega) (by omega) (by omega), o24 _ _ (by omega) (by omega) (by omega) (by omega) (by omega)]) q5
              · exact lc_pf_eq σ e f (fun j _ hj => by rw [g3.1 _ _ (by omega), d1.1 _ _ (by omega) (by omega) (by omega) (by omega) (by omega)]) p5
              · exact lc_xf_eq τ 0 r (fun j _ hj => by rw [ob _ _ (by omega), c1.1 _ _ (by omega) (by omega) (by omega) (by omega) (by omega), x3 _ _ (by omega), k6.1 _ _ (by omega) (by omega) (by omega), w2 j (by omega) (by omega)]) q6
              · rw [ob _ _ (by omega), c1.1 _ _ (by omega) (by omega) (by omega) (by omega) (by omega), x3 _ _ (by omega), k6.1 _ _ (by omega) (by omega) (by omega), w2 r (by omega) (by omega)]; exact q7
              · exact lc_xf_eq σ 0 r' (fun j _ hj => by rw [ob _ _ (by omega), c1.1 _ _ (by omega) (by omega) (by omega) (by omega) (by omega), x2 j (by omega) (by omega)]) p6
              · rw [ob _ _ (by omega), c1.1 _ _ (by omega) (by omega) (by omega) (by omega) (by omega), x2 r' (by omega) (by omega)]; exact p7
              · rw [g3.1 _ _ (by omega), d1.1 _ _ (by omega) (by omega) (by omega) (by omega) (by omega), o05 _ _ (by omega) (by omega) (by omega) (by omega) (by omega) (by omega)]; exact a10
              · rw [g3.1 _ _ (by omega)]; exact d7.2.2.2.2.2.2.2.2.2.2.1
              · exact lc_clQ_eq (fun q _ => ⟨ob _ _ (by omega), ob _ _ (by omega)⟩) d8
            · rw [if_neg hz'] at ref cls
              exact ⟨y7, _, kyE, kwE _, bE _, ref, Or.inl ⟨cls, by simp only [lcI_UI, lcI_UL, lcI_UR, lcL_UI, lcL_UL, lcL_UR, lcR_UI, lcR_UL, lcR_UR, false_and, and_false, true_and, and_true, and_self, ↓reduceIte, Nat.reduceEqDiff, lc_let_eq]⟩⟩
      · -- the given type is bad
        obtain ⟨z6, m1', m2'', m3', m4'⟩ := lc_badB z5 p2 b85
        refine ⟨y5, z6, (ky0.tr ky04).tr k5.z, (kw4.tr k6.w).tr m3', m4', by rw [hrdB, m1'], Or.inl ⟨?_, m2''⟩⟩
        rw [clsA, lc_bnd_eq p1, if_pos rfl]
        rfl
    · -- the variable's type is bad
      obtain ⟨z4, m1, m2, m3, m4⟩ := lc_badA z3 q2 b83
      refine ⟨y2, z4, (ky0.tr f3.z).tr k2.z, (kw2.tr k3.w).tr m3, m4, by rw [hrd z3 t1, m1], Or.inl ⟨?_, m2⟩⟩
      rw [a11, lc_bnd_eq f1, lc_bnd_eq (lc_ilA _ y1), if_neg hl, lc_bnd_eq q1, if_pos rfl]
      rfl
