/-! reading a type: all of it -/
theorem lc_nx_lt {tx : Nat → Int32} {n a : Nat} (h : lc_at tx n a < n) : lc_nx tx n a = lc_at tx n a + 1 := by unfold lc_nx; rw [if_pos h]
theorem lc_nx_n {tx : Nat → Int32} {n a : Nat} (h : a ≤ n) : lc_nx tx n a ≤ n := by
  unfold lc_nx
  have := lc_at_n (tx := tx) h
  split <;> omega
theorem lc_rtype {tx : Nat → Int32} {n o : Nat} (ht : lc_tk tx n) (ho : lc_sh o = (0, 1, 0)) : ∀ (e d f a s r : Nat) (y z : lc_S), d + e = 5 → e < f → lc_txA y tx n → lc_txQ z tx n → lcR y 4 3 = some o → lcI y o 3 = nI s → s + 2 ^ e ≤ 63 → r + 2 ^ e ≤ 125 → lcI y 4 2 = nI a → lcI z 80 13 = nI a → a ≤ n → lcI z 80 14 = 0 → lc_tyR tx n o d a s r y z (fR_readType f (nI d) y)
  | e, d, 0, a, s, r, y, z, _, h, _, _, _, _, _, _, _, _, _, _ => absurd h (by omega)
  | 0, d, f + 1, a, s, r, y, z, hd, hf, hy, hz, hr, h3, hs, hr5, h2, h13, ha, hb => by
    have hd5 : d = 5 := by omega
    subst hd5
    have hn := hy.2.2.1
    obtain ⟨z1, k1, e1, st⟩ := lc_tyStep (r := r) (d := 5) hz hb h13 (by omega) (by omega) (by omega) rfl
    refine ⟨y, lcUI z1 80 14 1, ⟨fun _ _ _ _ _ => rfl, fun _ _ => rfl, fun _ _ => rfl⟩, (k1.n.tr (lc_kp9.u _)).r, Or.inr ⟨?_, by simp only [lcI_UI, lcI_UL, lcI_UR, lcL_UI, lcL_UL, lcL_UR, lcR_UI, lcR_UL, lcR_UR, false_and, and_false, true_and, and_true, and_self, ↓reduceIte, Nat.reduceEqDiff, lc_let_eq], fun F hF => ?_⟩⟩
    · rw [fR_readType, fR_readTypeB, if_neg (by decide)]
    · obtain ⟨F, rfl⟩ : ∃ g, F = g + 1 := ⟨F - 1, by omega⟩
      rw [st, if_neg (fun h => absurd h.2 (by decide))]
  | e + 1, d, f + 1, a, s, r, y, z, hd, hf, hy, hz, hr, h3, hs, hr5, h2, h13, ha, hb => by
    have hn := hy.2.2.1
    have ho' := lc_o ho
    have pe : 2 ^ (e + 1) = 2 * 2 ^ e := by rw [Nat.pow_succ]; omega
    have p1 : 1 ≤ 2 ^ e := Nat.one_le_two_pow
    have ed : 5 - d = e + 1 := by omega
    have ed1 : 5 - (d + 1) = e := by omega
    have ed6 : 6 - d = e + 1 + 1 := by omega
    have ed61 : 6 - (d + 1) = e + 1 := by omega
    have pe2 : 2 ^ (e + 1 + 1) = 4 * 2 ^ e := by rw [Nat.pow_succ, Nat.pow_succ]; omega
    obtain ⟨z1, kz1, ez1, st⟩ := lc_tyStep (r := r) (d := d) hz hb h13 (by omega) (by omega) (by omega) rfl
    obtain ⟨y1, a1, a2, a3⟩ := lc_nsA hy h2 ha
    have hy1 := lc_txA4 a3 hy
    have hr1 : lcR y1 4 3 = some o := by rw [a3.2.2]; exact hr
    have h31 : lcI y1 o 3 = nI s := by rw [a3.1 _ _ (by omega)]; exact h3
    have stA : fR_readType (f + 1) (nI d) y = if lc_sg tx n a = 40 then lc_bnd (fR_readType f (nI (d + 1)) y1) (fun r66 z66 => if r66 = 0 then some (0, z66) else lc_bnd (fR_readType f (nI (d + 1)) z66) (fun r76 z76 => if r76 = 0 then some (0, z76) else lc_bnd (fR_nextSign z76) (fun r83 z83 => if r83 = 41 then lc_bnr (lcR z83 4 3) (fun q92 => lc_chk (lc_sh q92 = (0, 1, 0)) (lc_bnd (fP_addTypeSign q92 3 z83) (fun r96 z96 => if r96 = 0 then some (0, z96) else some (1, z96)))) else some (0, z83)))) else if lc_sg tx n a = 105 then lc_bnr (lcR y1 4 3) (fun q45 => lc_chk (lc_sh q45 = (0, 1, 0)) (lc_bnd (fP_addTypeSign q45 1 y1) (fun r49 z49 => lc_chk (lc_zok r49) (some (r49, z49))))) else if lc_sg tx n a = 114 then lc_bnr (lcR y1 4 3) (fun q54 => lc_chk (lc_sh q54 = (0, 1, 0)) (lc_bnd (fP_addTypeSign q54 2 y1) (fun r58 z58 => lc_chk (lc_zok r58) (some (r58, z58))))) else some (0, y1) := by
      rw [fR_readType, fR_readTypeB, if_pos (show nI d ≤ 4 from nI_le (b := 4) (by omega) (by decide)), lc_bnd_eq a1, nI_1]
      rfl
    have leaf : ∀ (v w : Int32) (τ : lc_tp), lc_sg tx n a = v → v ≠ 0 → (v = 105 ∨ v = 114) → lc_pd τ = 0 → (∀ f lo, f lo = w → lc_pf f τ lo (lo + 1)) → (∀ f lo, f lo = v → lc_xf f τ lo (lo + 1)) → fR_readType (f + 1) (nI d) y = lc_bnr (lcR y1 4 3) (fun q45 => lc_chk (lc_sh q45 = (0, 1, 0)) (lc_bnd (fP_addTypeSign q45 w y1) (fun r49 z49 => lc_chk (lc_zok r49) (some (r49, z49))))) → lc_tyR tx n o d a s r y z (fR_readType (f + 1) (nI d) y) := fun v w τ hv v0 hvs hpd hpf hxf hA => by
      have hlt : lc_at tx n a < n := lc_sg_lt (by rw [hv]; exact v0)
      have hat := lc_at_le tx n a
      obtain ⟨y2, b1, b2, b3, b4, b5, b6⟩ := lc_addT (y := y1) w ho h31 (by omega)
      have v40 : v ≠ 40 := by rcases hvs with h | h <;> rw [h] <;> decide
      refine ⟨y2, lcUI (lcUI z1 80 14 0) 119 r v, a3.t.tr b6 (Nat.le_refl _), (kz1.n.tr (lc_kp9.u _)).r.tr (lc_kr.u _ (Nat.le_refl _)) (Nat.le_refl _), Or.inl ⟨τ, lc_at tx n a + 1, s + 1, r + 1, lc_FU, ?_, by omega, by rw [ed]; omega, by rw [ed]; omega, hpf _ s b3, hxf _ r (by simp only [lcI_UI, lcI_UL, lcI_UR, lcL_UI, lcL_UL, lcL_UR, lcR_UI, lcR_UL, lcR_UR, false_and, and_false, true_and, and_true, and_self, ↓reduceIte, Nat.reduceEqDiff, lc_let_eq]), by omega, by omega, by rw [b5, a2, lc_nx_lt hlt], b2, by simp only [ez1, lcI_UI, lcI_UL, lcI_UR, lcL_UI, lcL_UL, lcL_UR, lcR_UI, lcR_UL, lcR_UR, false_and, and_false, true_and, and_true, and_self, ↓reduceIte, Nat.reduceEqDiff, lc_let_eq], by simp only [lcI_UI, lcI_UL, lcI_UR, lcL_UI, lcL_UL, lcL_UR, lcR_UI, lcR_UL, lcR_UR, false_and, and_false, true_and, and_true, and_self, ↓reduceIte, Nat.reduceEqDiff, lc_let_eq], fun j hj => ?_, by unfold lc_FU; omega, fun F => ?_⟩⟩
      · rw [hA, lc_bnr_eq hr1, lc_chk_pos ho, lc_bnd_eq b1, lc_chk_pos (Or.inr rfl)]
      · simp only [lcI_UI, lcI_UL, lcI_UR, lcL_UI, lcL_UL, lcL_UR, lcR_UI, lcR_UL, lcR_UR, false_and, and_false, true_and, and_true, and_self, ↓reduceIte, Nat.reduceEqDiff, lc_let_eq]; rw [kz1.1 _ _ (by omega)]
      · rw [show F + (r + 1 - r) = F + 1 by omega, st, hv, if_pos ⟨by rcases hvs with h | h; exact Or.inl h; exact Or.inr (Or.inl h), by omega⟩, if_neg v40]
    by_cases k105 : lc_sg tx n a = 105
    · exact leaf 105 1 .nil k105 (by decide) (Or.inl rfl) rfl (fun f lo h => ⟨rfl, h⟩) (fun f lo h => ⟨rfl, h⟩) (by rw [stA, if_neg (by rw [k105]; decide), if_pos k105])
    · by_cases k114 : lc_sg tx n a = 114
      · exact leaf 114 2 .line k114 (by decide) (Or.inr rfl) rfl (fun f lo h => ⟨rfl, h⟩) (fun f lo h => ⟨rfl, h⟩) (by rw [stA, if_neg (by rw [k114]; decide), if_neg k105, if_pos k114])
      · by_cases k40 : lc_sg tx n a = 40
        · have hlt : lc_at tx n a < n := lc_sg_lt (by rw [k40]; decide)
          have hat := lc_at_le tx n a
          obtain ⟨z2, ez2⟩ : ∃ x, x = lcUI (lcUI (lcUI z1 80 14 0) 119 r 40) 97 d 2 := ⟨_, rfl⟩
          have kz2 : lc_kr r z z2 := by rw [ez2]; exact ((kz1.n.tr (lc_kp9.u _)).r.tr (lc_kr.u _ (Nat.le_refl _)) (Nat.le_refl _)).tr (lc_kr.h (r := r) _) (Nat.le_refl _)
          have st40 : ∀ F, fQ_type_12 (F + 1) 119 (nI r) (nI d) 0 z = fQ_type_12 F 119 (nI (r + 1)) (nI (d + 1)) 0 z2 := fun F => by
            rw [st, k40, if_pos (show ((40 : Int32) = 105 ∨ (40 : Int32) = 114 ∨ (40 : Int32) = 40) ∧ d ≤ 4 from ⟨Or.inr (Or.inr rfl), by omega⟩), if_pos rfl, ← ez2]
          rw [if_pos k40] at stA
          rw [stA]
          obtain ⟨y3, z3, c1, c2, c3⟩ := lc_rtype ht ho e (d + 1) f (lc_at tx n a + 1) s (r + 1) y1 z2 (by omega) (by omega) hy1 (lc_txQr kz2 hz) hr1 h31 (by omega) (by omega) (by rw [a2, lc_nx_lt hlt]) (by rw [ez2]; simp only [ez1, lcI_UI, lcI_UL, lcI_UR, lcL_UI, lcL_UL, lcL_UR, lcR_UI, lcR_UL, lcR_UR, false_and, and_false, true_and, and_true, and_self, ↓reduceIte, Nat.reduceEqDiff, lc_let_eq]) (by omega) (by rw [ez2]; simp only [lcI_UI, lcI_UL, lcI_UR, lcL_UI, lcL_UL, lcL_UR, lcR_UI, lcR_UL, lcR_UR, false_and, and_false, true_and, and_true, and_self, ↓reduceIte, Nat.reduceEqDiff, lc_let_eq])
          rcases c3 with ⟨τ1, a1', s1, r1, g1, q1, q2, q3, q4, q5, q6, q7, q8, q9, q10, q11, q12, q13, q14, q15⟩ | ⟨q1, q2, q3⟩
          · rw [ed1] at q3 q4
            have hl1 := lc_pf_lt _ _ _ q5
            have hl2 := (lc_xf_lt _ _ _ q6).1
            obtain ⟨z4, ez4⟩ : ∃ x, x = lc_dec (d + 1) z3 := ⟨_, rfl⟩
            have kz4 : lc_kr (r + 1) z2 z4 := by rw [ez4]; exact c2.tr (lc_dec_kr (r := r + 1)) (Nat.le_refl _)
            have d97 : lcI z3 97 d = 2 := by rw [q13 d (by omega), ez2]; simp only [lcI_UI, lcI_UL, lcI_UR, lcL_UI, lcL_UL, lcL_UR, lcR_UI, lcR_UL, lcR_UR, false_and, and_false, true_and, and_true, and_self, ↓reduceIte, Nat.reduceEqDiff, lc_let_eq]
            have d97' : lcI z4 97 d = 1 := by
              rw [ez4]; unfold lc_dec
              rw [if_neg (by omega), Nat.add_sub_cancel, lcI_UI, if_pos ⟨rfl, rfl⟩, d97]; rfl
            have oth : ∀ c j, c ≠ 97 → lcI z4 c j = lcI z3 c j := fun c j hc => by
              rw [ez4]; unfold lc_dec
              rw [if_neg (by omega), lcI_UI, if_neg (by omega)]
            have cont1 : ∀ F, fQ_type_12 (F + (r1 - (r + 1))) 119 (nI (r + 1)) (nI (d + 1)) 0 z2 = fQ_type_12 F 119 (nI r1) (nI (d + 1)) 0 z4 := fun F => by
              obtain ⟨g, hg⟩ : ∃ g, g1 = g + 1 := ⟨g1 - 1, by omega⟩
              rw [q15, hg, ← ez4, lc_117 (by omega) (Or.inr (Or.inl (by rw [Nat.add_sub_cancel, d97']; decide))), if_neg (by omega)]
            have hy3 := lc_txAt ho c1 hy1
            have hr3 : lcR y3 4 3 = some o := by rw [c1.2.2]; exact hr1
            obtain ⟨y5, z5, w1, w2, w3⟩ := lc_rtype ht ho e (d + 1) f a1' s1 r1 y3 z4 (by omega) (by omega) hy3 (lc_txQr kz4 (lc_txQr kz2 hz)) hr3 q10 (by omega) (by omega) q9 (by rw [oth _ _ (by decide)]; exact q11) (by omega) (by rw [oth _ _ (by decide)]; exact q12)
            rw [lc_bnd_eq q1, if_neg (by decide)]
            rcases w3 with ⟨τ2, a2', s2, r2, g2, v1, v2, v3, v4, v5, v6, v7, v8, v9, v10, v11, v12, v13, v14, v15⟩ | ⟨v1, v2, v3⟩
            · rw [ed1] at v3 v4
              have hl3 := lc_pf_lt _ _ _ v5
              have hl4 := (lc_xf_lt _ _ _ v6).1
              rw [lc_bnd_eq v1, if_neg (by decide)]
              have hy5 := lc_txAt ho w1 hy3
              obtain ⟨y6, x1, x2, x3⟩ := lc_nsA hy5 v9 v8
              have hr6 : lcR y6 4 3 = some o := by rw [x3.2.2, w1.2.2]; exact hr3
              rw [lc_bnd_eq x1]
              obtain ⟨z6, ez6⟩ : ∃ x, x = lc_dec (d + 1) z5 := ⟨_, rfl⟩
              have oth6 : ∀ c j, c ≠ 97 → lcI z6 c j = lcI z5 c j := fun c j hc => by
                rw [ez6]; unfold lc_dec
                rw [if_neg (by omega), lcI_UI, if_neg (by omega)]
              have z597 : lcI z5 97 d = 1 := by rw [v13 d (by omega)]; exact d97'
              have z697 : lcI z6 97 d = 0 := by
                rw [ez6]; unfold lc_dec
                rw [if_neg (by omega), Nat.add_sub_cancel, lcI_UI, if_pos ⟨rfl, rfl⟩, z597]; rfl
              have z6j : ∀ j, j < d → lcI z6 97 j = lcI z 97 j := fun j hj => by
                have : lcI z6 97 j = lcI z5 97 j := by
                  rw [ez6]; unfold lc_dec
                  rw [if_neg (by omega), Nat.add_sub_cancel, lcI_UI, if_neg (by omega)]
                have h4 : lcI z4 97 j = lcI z3 97 j := by
                  rw [ez4]; unfold lc_dec
                  rw [if_neg (by omega), Nat.add_sub_cancel, lcI_UI, if_neg (by omega)]
                rw [this, v13 j (by omega), h4, q13 j (by omega), ez2, lcI_UI, if_neg (by omega), lcI_UI, if_neg (by omega), lcI_UI, if_neg (by omega), kz1.1 _ _ (by omega)]
              have kz6 : lc_kr r z z6 := (kz2.tr kz4 (by omega)).tr (by rw [ez6]; exact w2.tr (lc_dec_kr (r := r1)) (Nat.le_refl _)) (by omega)
              obtain ⟨g, hg⟩ : ∃ g, g2 = g + 1 := ⟨g2 - 1, by omega⟩
              have kF : ∀ F, ∃ z7, lc_kp8 z6 z7 ∧ lcI z7 80 13 = nI (lc_at tx n a2' + 1) ∧ fQ_type_117 (fQ_type_12 F) (g + 1) 119 (nI r2) (nI (d + 1)) z6 = fQ_type_117 (fQ_type_12 F) g 119 (nI r2) (nI d) (lc_dec d (lcUI z7 80 14 (if lc_sg tx n a2' = 41 then 0 else 1))) := fun F => lc_117c (lc_txQr kz6 hz) (by rw [oth6 _ _ (by decide)]; exact v12) (by rw [oth6 _ _ (by decide)]; exact v11) (by omega) (by omega) z697
              obtain ⟨z7, m1, m2, -⟩ := kF 0
              have kF' : ∀ F, fQ_type_117 (fQ_type_12 F) (g + 1) 119 (nI r2) (nI (d + 1)) z6 = fQ_type_117 (fQ_type_12 F) g 119 (nI r2) (nI d) (lc_dec d (lcUI z7 80 14 (if lc_sg tx n a2' = 41 then 0 else 1))) := fun F => by
                obtain ⟨z7', n1, n2, n3⟩ := kF F
                have : z7' = z7 := by
                  refine Prod.ext ?_ (Prod.ext ?_ ?_)
                  · funext c k
                    show lcI z7' c k = lcI z7 c k
                    by_cases h : c = 80 ∧ k = 13
                    · rw [h.1, h.2, n2, m2]
                    · rw [n1.1 c k h, m1.1 c k h]
                  · funext c k
                    show lcL z7' c k = lcL z7 c k
                    rw [n1.2.1, m1.2.1]
                  · funext c k
                    show lcR z7' c k = lcR z7 c k
                    rw [n1.2.2, m1.2.2]
                rw [n3, this]
              have full : ∀ F, fQ_type_12 (F + (r2 - r)) 119 (nI r) (nI d) 0 z = fQ_type_117 (fQ_type_12 F) g 119 (nI r2) (nI d) (lc_dec d (lcUI z7 80 14 (if lc_sg tx n a2' = 41 then 0 else 1))) := fun F => by
                rw [show F + (r2 - r) = F + (r2 - r1) + (r1 - (r + 1)) + 1 by omega, st40, cont1, v15, hg, ← ez6, kF']
              by_cases k41 : lc_sg tx n a2' = 41
              · have hlt2 : lc_at tx n a2' < n := lc_sg_lt (by rw [k41]; decide)
                have hat2 := lc_at_le tx n a2'
                rw [if_pos k41, lc_bnr_eq hr6, lc_chk_pos ho]
                obtain ⟨y7, t1, t2, t3, t4, t5, t6⟩ := lc_addT (y := y6) 3 ho (by rw [x3.1 _ _ (by omega)]; exact v10) (by omega)
                rw [lc_bnd_eq t1, if_neg (by decide)]
                rw [if_pos k41] at full
                have k16 : lc_kt o s1 y3 y6 := w1.tr (x3.t (s := s1)) (Nat.le_refl _)
                have k17 : lc_kt o s1 y3 y7 := k16.tr t6 (by omega)
                refine ⟨y7, lcUI z7 80 14 0, (a3.t.tr c1 (Nat.le_refl _)).tr k17 (by omega), (kz6.tr (m1.n.r (r := r)) (Nat.le_refl _)).tr ((lc_kp9.u _).r (r := r)) (Nat.le_refl _), Or.inl ⟨lc_prr τ1 τ2, lc_at tx n a2' + 1, s2 + 1, r2, g, rfl, ?_, by rw [ed]; omega, by rw [ed]; omega, ⟨s1, ?_, ?_, by omega, ?_⟩, ⟨r1, ?_, ?_, ?_⟩, by omega, by omega, by rw [t5, x2, lc_nx_lt hlt2], t2, by rw [lcI_UI, if_neg (by omega)]; exact m2, by simp only [lcI_UI, lcI_UL, lcI_UR, lcL_UI, lcL_UL, lcL_UR, lcR_UI, lcR_UL, lcR_UR, false_and, and_false, true_and, and_true, and_self, ↓reduceIte, Nat.reduceEqDiff, lc_let_eq], fun j hj => ?_, by omega, full⟩⟩
                · show Nat.max (lc_pd τ1) (lc_pd τ2) + 1 + d ≤ 4
                  have hm : Nat.max (lc_pd τ1) (lc_pd τ2) ≤ 3 - d := Nat.max_le.mpr ⟨by omega, by omega⟩
                  omega
                · exact lc_pf_eq τ1 s s1 (fun j p q => k17.1 _ _ (by omega) (by omega) (by omega)) q5
                · rw [Nat.add_sub_cancel]
                  exact lc_pf_eq τ2 s1 s2 (fun j p q => by rw [t4 j (by omega), x3.1 _ _ (by omega)]) v5
                · rw [Nat.add_sub_cancel]; exact t3
                · show lcI (lcUI z7 80 14 0) 119 r = 40
                  rw [lcI_UI, if_neg (by omega), m1.1 _ _ (by omega), oth6 _ _ (by decide), w2.1 _ _ (by omega) (by omega) (by omega), oth _ _ (by decide), c2.1 _ _ (by omega) (by omega) (by omega), ez2]; simp only [lcI_UI, lcI_UL, lcI_UR, lcL_UI, lcL_UL, lcL_UR, lcR_UI, lcR_UL, lcR_UR, false_and, and_false, true_and, and_true, and_self, ↓reduceIte, Nat.reduceEqDiff, lc_let_eq]
                · exact lc_xf_eq τ1 (r + 1) r1 (fun j p q => by rw [lcI_UI, if_neg (by omega), m1.1 _ _ (by omega), oth6 _ _ (by decide), w2.1 _ _ (by omega) (by omega) (by omega), oth _ _ (by decide)]) q6
                · exact lc_xf_eq τ2 r1 r2 (fun j p q => by rw [lcI_UI, if_neg (by omega), m1.1 _ _ (by omega), oth6 _ _ (by decide)]) v6
                · rw [lcI_UI, if_neg (by omega), m1.1 _ _ (by omega)]; exact z6j j hj
              · rw [if_neg k41]
                rw [if_neg k41] at full
                obtain ⟨z8, ez8⟩ : ∃ x, x = lc_dec d (lcUI z7 80 14 1) := ⟨_, rfl⟩
                have k8 : lc_kr r z z8 := by rw [ez8]; exact ((kz6.tr (m1.n.r (r := r)) (Nat.le_refl _)).tr ((lc_kp9.u _).r (r := r)) (Nat.le_refl _)).tr (lc_dec_kr (r := r)) (Nat.le_refl _)
                have b8 : lcI z8 80 14 = 1 := by
                  rw [ez8]; unfold lc_dec
                  split
                  · simp only [lcI_UI, lcI_UL, lcI_UR, lcL_UI, lcL_UL, lcL_UR, lcR_UI, lcR_UL, lcR_UR, false_and, and_false, true_and, and_true, and_self, ↓reduceIte, Nat.reduceEqDiff, lc_let_eq]
                  · simp only [lcI_UI, lcI_UL, lcI_UR, lcL_UI, lcL_UL, lcL_UR, lcR_UI, lcR_UL, lcR_UR, false_and, and_false, true_and, and_true, and_self, ↓reduceIte, Nat.reduceEqDiff, lc_let_eq]
                refine ⟨y6, lcUI z8 119 r2 0, ((a3.t.tr c1 (Nat.le_refl _)).tr w1 (by omega)).tr (x3.t (s := s)) (Nat.le_refl _), k8.tr (lc_kr.u (r := r) _ (by omega)) (Nat.le_refl _), Or.inr ⟨rfl, by rw [lcI_UI, if_neg (by omega)]; exact b8, fun F hF => ?_⟩⟩
                rw [ed6] at hF
                obtain ⟨F', hF'⟩ : ∃ F', F = F' + 1 + (r2 - r) := ⟨F - 1 - (r2 - r), by omega⟩
                obtain ⟨g', hg'⟩ : ∃ g', g = g' + 1 := ⟨g - 1, by omega⟩
                have s119 : lc_sh 119 = (1, 0, 130) := by decide +kernel
                have c1' : lc_in (nI r2) 130 := nI_in (by omega) (by decide)
                have d1' : (nI r2).toNatClampNeg = r2 := nI_clamp (by omega)
                rw [hF', full, ← ez8, hg', lc_117 (by omega) (Or.inr (Or.inr (by rw [b8]; decide)))]
                have ex : ∀ x4 : Int32, (x4 = 0 ∨ x4 = 1) → fQ_type_12 (F' + 1) 119 (nI r2) (nI d) x4 z8 = some ((), lcUI z8 119 r2 0) := fun x4 hx => by
                  have e181 : fQ_type_181 119 (nI r2) z8 = some ((), lcUI z8 119 r2 0) := by rw [fQ_type_181, lc_chk_pos s119, lc_chk_pos c1', d1']
                  rw [fQ_type_12]
                  rcases hx with hx | hx
                  · rw [if_pos hx, if_neg (by rw [b8]; decide)]; exact e181
                  · rw [if_neg (by rw [hx]; decide)]; exact e181
                exact ex _ (by split; exact Or.inr rfl; exact Or.inl rfl)
            · rw [lc_bnd_eq v1, if_pos rfl]
              refine ⟨y5, z5, (a3.t.tr c1 (Nat.le_refl _)).tr w1 (by omega), (kz2.tr kz4 (by omega)).tr w2 (by omega), Or.inr ⟨rfl, v2, fun F hF => ?_⟩⟩
              rw [ed6] at hF
              obtain ⟨F', hF'⟩ : ∃ F', F = F' + (r1 - (r + 1)) + 1 := ⟨F - 1 - (r1 - (r + 1)), by omega⟩
              rw [hF', st40, cont1]
              exact v3 F' (by rw [ed61]; omega)
          · rw [lc_bnd_eq q1, if_pos rfl]
            refine ⟨y3, z3, a3.t.tr c1 (Nat.le_refl _), kz2.tr c2 (by omega), Or.inr ⟨rfl, q2, fun F hF => ?_⟩⟩
            rw [ed6] at hF
            obtain ⟨F', hF'⟩ : ∃ F', F = F' + 1 := ⟨F - 1, by omega⟩
            rw [hF', st40]
            exact q3 F' (by rw [ed61]; omega)
        · refine ⟨y1, lcUI z1 80 14 1, a3.t, (kz1.n.tr (lc_kp9.u _)).r, Or.inr ⟨by rw [stA, if_neg k40, if_neg k105, if_neg k114], by simp only [lcI_UI, lcI_UL, lcI_UR, lcL_UI, lcL_UL, lcL_UR, lcR_UI, lcR_UL, lcR_UR, false_and, and_false, true_and, and_true, and_self, ↓reduceIte, Nat.reduceEqDiff, lc_let_eq], fun F hF => ?_⟩⟩
          obtain ⟨F, rfl⟩ : ∃ g, F = g + 1 := ⟨F - 1, by rw [ed6] at hF; omega⟩
          rw [st, if_neg (fun h => by rcases h.1 with h | h | h <;> contradiction)]
