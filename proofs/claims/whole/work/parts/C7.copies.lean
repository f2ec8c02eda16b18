/-! define: a type at the top; rows copied -/
def lc_kTy (z z' : lc_S) : Prop := (∀ c k, ¬ (c = 80 ∧ (k = 13 ∨ k = 14 ∨ k = 23)) → c ≠ 119 → c ≠ 97 → lcI z' c k = lcI z c k) ∧ (∀ c k, lcL z' c k = lcL z c k) ∧ ∀ c k, lcR z' c k = lcR z c k
theorem lc_ty181 {z : lc_S} {r : Nat} (hr : r < 130) : fQ_type_181 119 (nI r) z = some ((), lcUI z 119 r 0) := by
  have s119 : lc_sh 119 = (1, 0, 130) := by decide +kernel
  rw [fQ_type_181, lc_chk_pos s119, lc_chk_pos (nI_in hr (by decide)), nI_clamp (by omega)]
/-- a type is wanted though the text is bad -/
theorem lc_typX (z : lc_S) (hb : lcI z 80 14 = 1) : ∃ z', fQ_type 119 z = some ((), z') ∧ lcI z' 80 14 = 1 ∧ lc_kTy z z' := by
  refine ⟨lcUI (lcUI z 80 23 0) 119 0 0, ?_, ?_, ⟨fun c k a1 a2 a3 => ?_, fun _ _ => rfl, fun _ _ => rfl⟩⟩
  · rw [fQ_type, show lc_FU = 99999 + 1 from rfl, fQ_type_12, if_pos rfl, if_neg (by rw [lcI_UI, if_neg (by omega), hb]; decide)]
    exact lc_ty181 (r := 0) (by omega)
  · rw [lcI_UI, if_neg (by omega), lcI_UI, if_neg (by omega)]; exact hb
  · rw [lcI_UI, if_neg (by omega), lcI_UI, if_neg (by omega)]
theorem lc_typ {tx : Nat → Int32} {n o a s : Nat} (ht : lc_tk tx n) (ho : lc_sh o = (0, 1, 0)) (y z : lc_S) (hy : lc_txA y tx n) (hz : lc_txQ z tx n) (hr : lcR y 4 3 = some o) (h3 : lcI y o 3 = nI s) (hs : s ≤ 31) (h2 : lcI y 4 2 = nI a) (h13 : lcI z 80 13 = nI a) (ha : a ≤ n) (hb : lcI z 80 14 = 0) : ∃ y' z', lc_kt o s y y' ∧ lc_kTy z z' ∧ fQ_type 119 z = some ((), z') ∧
    ((∃ τ a' s' r, fR_readType lc_FT 0 y = some (1, y') ∧ lc_pd τ ≤ 4 ∧ s' ≤ s + 31 ∧ r ≤ 31 ∧ lc_pf (fun j => lcI y' (o + 1) j) τ s s' ∧ lc_xf (fun j => lcI z' 119 j) τ 0 r ∧ lcI z' 119 r = 0 ∧ a < a' ∧ a' ≤ n ∧ lcI y' 4 2 = nI a' ∧ lcI y' o 3 = nI s' ∧ lcI z' 80 13 = nI a' ∧ lcI z' 80 14 = 0) ∨ (fR_readType lc_FT 0 y = some (0, y') ∧ lcI z' 80 14 = 1)) := by
  obtain ⟨z0, ez0⟩ : ∃ x, x = lcUI z 80 23 0 := ⟨_, rfl⟩
  have o0 : ∀ c k, ¬ (c = 80 ∧ k = 23) → lcI z0 c k = lcI z c k := fun c k g => by rw [ez0, lcI_UI, if_neg g]
  have hz0 : lc_txQ z0 tx n := ⟨by rw [o0 _ _ (by omega)]; exact hz.1, hz.2.1, fun j hj => by rw [o0 _ _ (by omega)]; exact hz.2.2 j hj⟩
  obtain ⟨y', z', k1, k2, h⟩ := lc_rtype ht ho 5 0 lc_FT a s 0 y z0 (by omega) (by decide) hy hz0 hr h3 (by omega) (by omega) h2 (by rw [o0 _ _ (by omega)]; exact h13) ha (by rw [o0 _ _ (by omega)]; exact hb)
  have kz : lc_kTy z z' := ⟨fun c k a1 a2 a3 => by rw [k2.1 c k (by omega) (by omega) a3, o0 c k (by omega)], fun c k => by rw [k2.2.1, ez0]; rfl, fun c k => by rw [k2.2.2, ez0]; rfl⟩
  rcases h with ⟨τ, a', s', r, g, q1, q2, q3, q4, q5, q6, q7, q8, q9, q10, q11, q12, q13, q14, q15⟩ | ⟨q1, q2, q3⟩
  · have q3' : s' + 1 ≤ s + 32 := q3
    have q4' : r + 1 ≤ 0 + 32 := q4
    have hty : fQ_type 119 z = some ((), lcUI z' 119 r 0) := by
      obtain ⟨F, hF⟩ : ∃ F, lc_FU = F + 1 + (r - 0) := ⟨lc_FU - 1 - r, by unfold lc_FU; omega⟩
      obtain ⟨g', hg'⟩ : ∃ g', g = g' + 1 := ⟨g - 1, by omega⟩
      rw [fQ_type, ← ez0, hF]
      have e := q15 (F + 1)
      rw [hg', lc_117 (by omega) (Or.inl rfl), if_pos rfl] at e
      refine e.trans ?_
      rw [fQ_type_12, if_neg (by decide), lc_ty181 (by omega)]
      rfl
    refine ⟨y', lcUI z' 119 r 0, k1, ⟨fun c k a1 a2 a3 => by rw [lcI_UI, if_neg (fun e => a2 e.1)]; exact kz.1 c k a1 a2 a3, kz.2.1, kz.2.2⟩, hty, Or.inl ⟨τ, a', s', r, q1, by omega, by omega, by omega, q5, ?_, by simp only [lcI_UI, lcI_UL, lcI_UR, lcL_UI, lcL_UL, lcL_UR, lcR_UI, lcR_UL, lcR_UR, false_and, and_false, true_and, and_true, and_self, ↓reduceIte, Nat.reduceEqDiff, lc_let_eq], q7, q8, q9, q10, by rw [lcI_UI, if_neg (by omega)]; exact q11, by rw [lcI_UI, if_neg (by omega)]; exact q12⟩⟩
    exact lc_xf_eq τ 0 r (fun j _ hj => by rw [lcI_UI, if_neg (by omega)]) q6
  · refine ⟨y', z', k1, kz, ?_, Or.inr ⟨q1, q2⟩⟩
    rw [fQ_type, ← ez0]
    exact q3 lc_FU (by unfold lc_FU; decide)
/-- the rows of a type are copied -/
theorem lc_cp90 : ∀ (m j f : Nat) (z : lc_S), j + m = 120 → m < f → ∃ z', fQ_read_52 f (nI j) z = (if lcI z' 80 14 = 0 then lc_bnd (fQ_type 119 z') (fun r88 z88 => fQ_read_91 z88) else fQ_read_91 z') ∧ (∀ q, j ≤ q → q < 120 → lcI z' 90 q = lcI z 119 q) ∧ (∀ c q, ¬ (c = 90 ∧ j ≤ q ∧ q < 120) → lcI z' c q = lcI z c q) ∧ (∀ c k, lcL z' c k = lcL z c k) ∧ ∀ c k, lcR z' c k = lcR z c k
  | _, _, 0, _, _, h => absurd h (by omega)
  | 0, j, f + 1, z, hj, hf => ⟨z, by rw [fQ_read_52, if_pos (show (120 : Int32) ≤ nI j from nI_le (a := 120) (by omega) (by omega))], fun q a b => by omega, fun _ _ _ => rfl, fun _ _ => rfl, fun _ _ => rfl⟩
  | m + 1, j, f + 1, z, hj, hf => by
    obtain ⟨z', e1, e2, e3, e4, e5⟩ := lc_cp90 m (j + 1) f (lcUI z 90 j (lcI z 119 j)) (by omega) (by omega)
    refine ⟨z', ?_, fun q a b => ?_, fun c q g => ?_, fun c k => e4 c k, fun c k => e5 c k⟩
    · rw [fQ_read_52, if_neg (show ¬ (120 : Int32) ≤ nI j from nI_ge (b := 120) (by omega) (by decide)), lc_chk_pos (nI_in (show j < 130 by omega) (by decide)), lc_chk_pos (nI_in (show j < 600 by omega) (by decide)), lc_let_eq, nI_1, nI_clamp (by omega), e1]
    · rcases Nat.lt_or_ge j q with h | h
      · rw [e2 q (by omega) b, lcI_UI, if_neg (by omega)]
      · have : q = j := by omega
        subst this
        rw [e3 _ _ (by omega), lcI_UI, if_pos ⟨rfl, rfl⟩]
    · rw [e3 c q (by omega), lcI_UI, if_neg (by omega)]
theorem lc_cp91 : ∀ (m j f : Nat) (z : lc_S), j + m = 120 → m < f → ∃ z', fQ_read_93 f (nI j) z = fQ_read_119 lc_FU (-1) z' ∧ (∀ q, j ≤ q → q < 120 → lcI z' 91 q = lcI z 119 q) ∧ (∀ c q, ¬ (c = 91 ∧ j ≤ q ∧ q < 120) → lcI z' c q = lcI z c q) ∧ (∀ c k, lcL z' c k = lcL z c k) ∧ ∀ c k, lcR z' c k = lcR z c k
  | _, _, 0, _, _, h => absurd h (by omega)
  | 0, j, f + 1, z, hj, hf => ⟨z, by rw [fQ_read_93, if_pos (show (120 : Int32) ≤ nI j from nI_le (a := 120) (by omega) (by omega))], fun q a b => by omega, fun _ _ _ => rfl, fun _ _ => rfl, fun _ _ => rfl⟩
  | m + 1, j, f + 1, z, hj, hf => by
    obtain ⟨z', e1, e2, e3, e4, e5⟩ := lc_cp91 m (j + 1) f (lcUI z 91 j (lcI z 119 j)) (by omega) (by omega)
    refine ⟨z', ?_, fun q a b => ?_, fun c q g => ?_, fun c k => e4 c k, fun c k => e5 c k⟩
    · rw [fQ_read_93, if_neg (show ¬ (120 : Int32) ≤ nI j from nI_ge (b := 120) (by omega) (by decide)), lc_chk_pos (nI_in (show j < 130 by omega) (by decide)), lc_chk_pos (nI_in (show j < 600 by omega) (by decide)), lc_let_eq, nI_1, nI_clamp (by omega), e1]
    · rcases Nat.lt_or_ge j q with h | h
      · rw [e2 q (by omega) b, lcI_UI, if_neg (by omega)]
      · have : q = j := by omega
        subst this
        rw [e3 _ _ (by omega), lcI_UI, if_pos ⟨rfl, rfl⟩]
    · rw [e3 c q (by omega), lcI_UI, if_neg (by omega)]
/-- the rows that were read go to procedure k -/
theorem lc_cpD {k : Nat} (hk : k < 4) : ∀ (m j f : Nat) (z : lc_S), j + m = 120 → m < f → lc_b8 z → ∃ z', fQ_define_58 f (nI k) (nI (120 * (k + 1))) (nI j) z = some (lcI z' 89 0, lcUI z' 89 (k + 1) (lcI z' 89 0)) ∧ (∀ c q, (82 ≤ c ∧ c ≤ 88 ∨ c = 90 ∨ c = 91) → j ≤ q → q < 120 → lcI z' c (120 * (k + 1) + q) = lcI z c q) ∧ (∀ c q, ¬ ((82 ≤ c ∧ c ≤ 88 ∨ c = 90 ∨ c = 91) ∧ 120 * (k + 1) + j ≤ q ∧ q < 120 * (k + 1) + 120) → lcI z' c q = lcI z c q) ∧ (∀ c k, lcL z' c k = lcL z c k) ∧ ∀ c k, lcR z' c k = lcR z c k
  | _, _, 0, _, _, h, _ => absurd h (by omega)
  | 0, j, f + 1, z, hj, hf, h8 => by
    have d0 : (0 : Int32).toNatClampNeg = 0 := by decide
    have c1 : lc_in (nI (k + 1)) 5 := nI_in (by omega) (by decide)
    have d1 : (nI (k + 1)).toNatClampNeg = k + 1 := nI_clamp (by omega)
    refine ⟨z, ?_, fun c q _ a b => by omega, fun _ _ _ => rfl, fun _ _ => rfl, fun _ _ => rfl⟩
    rw [fQ_define_58, if_pos (show (120 : Int32) ≤ nI j from nI_le (a := 120) (by omega) (by omega))]
    simp only [nI_1, lc_chk_pos c1, d1, d0, lcI_UI, show ¬ 0 = k + 1 by omega, and_false, ↓reduceIte]
  | m + 1, j, f + 1, z, hj, hf, h8 => by
    have c1 : lc_in (nI j) 600 := nI_in (by omega) (by decide)
    have d1 : (nI j).toNatClampNeg = j := nI_clamp (by omega)
    have c2 : lc_in (nI (120 * (k + 1) + j)) 600 := nI_in (by omega) (by decide)
    have d2 : (nI (120 * (k + 1) + j)).toNatClampNeg = 120 * (k + 1) + j := nI_clamp (by omega)
    have vn : vp_nar .boolean (lcI z 88 j) = lcI z 88 j := by rcases h8 j (by omega) with g | g <;> rw [g] <;> decide
    obtain ⟨zs, ezs⟩ : ∃ x, x = lcUI (lcUI (lcUI (lcUI (lcUI (lcUI (lcUI (lcUI (lcUI z 82 (120 * (k + 1) + j) (lcI z 82 j)) 83 (120 * (k + 1) + j) (lcI z 83 j)) 84 (120 * (k + 1) + j) (lcI z 84 j)) 85 (120 * (k + 1) + j) (lcI z 85 j)) 86 (120 * (k + 1) + j) (lcI z 86 j)) 87 (120 * (k + 1) + j) (lcI z 87 j)) 88 (120 * (k + 1) + j) (lcI z 88 j)) 90 (120 * (k + 1) + j) (lcI z 90 j)) 91 (120 * (k + 1) + j) (lcI z 91 j) := ⟨_, rfl⟩
    have st : fQ_define_58 (f + 1) (nI k) (nI (120 * (k + 1))) (nI j) z = fQ_define_58 f (nI k) (nI (120 * (k + 1))) (nI (j + 1)) zs := by
      rw [fQ_define_58, if_neg (show ¬ (120 : Int32) ≤ nI j from nI_ge (b := 120) (by omega) (by decide))]
      simp only [nI_add, lc_chk_pos c1, lc_chk_pos c2, d1, d2, lcI_UI, Nat.reduceEqDiff, false_and, ↓reduceIte, lc_chk_pos vn, lc_let_eq, nI_1]
      rw [ezs]
    have oS : ∀ c q, ¬ ((82 ≤ c ∧ c ≤ 88 ∨ c = 90 ∨ c = 91) ∧ q = 120 * (k + 1) + j) → lcI zs c q = lcI z c q := fun c q g => by
      rw [ezs]
      iterate 9 rw [lcI_UI, if_neg (by omega)]
    have eS : ∀ c, (82 ≤ c ∧ c ≤ 88 ∨ c = 90 ∨ c = 91) → lcI zs c (120 * (k + 1) + j) = lcI z c j := fun c g => by
      have g' : c = 82 ∨ c = 83 ∨ c = 84 ∨ c = 85 ∨ c = 86 ∨ c = 87 ∨ c = 88 ∨ c = 90 ∨ c = 91 := by omega
      rw [ezs]
      rcases g' with g' | g' | g' | g' | g' | g' | g' | g' | g' <;> subst g' <;> simp only [lcI_UI, Nat.reduceEqDiff, false_and, and_self, ↓reduceIte]
    obtain ⟨z', e1, e2, e3, e4, e5⟩ := lc_cpD hk m (j + 1) f zs (by omega) (by omega) (fun q hq => by rw [oS _ _ (by omega)]; exact h8 q hq)
    refine ⟨z', by rw [st, e1], fun c q g a b => ?_, fun c q g => ?_, fun c q => ?_, fun c q => ?_⟩
    · rcases Nat.lt_or_ge j q with h | h
      · rw [e2 c q g (by omega) b, oS _ _ (by omega)]
      · have : q = j := by omega
        subst this
        rw [e3 _ _ (by omega), eS c g]
    · rw [e3 c q (by omega), oS c q (by omega)]
    · rw [e4, ezs]; rfl
    · rw [e5, ezs]; rfl
