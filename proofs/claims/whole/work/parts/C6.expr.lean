/-! reading an expression -/
theorem lc_xL {tx : Nat → Int32} {n o a a' i0 nb p hi : Nat} {y1 : lc_S} {z' : lc_S} {L : List lc_nm} {G D : Nat} {u' : Int32} (K v b : Int32) (ho : lc_sh o = (0, 1, 0)) (hy : lc_acA tx n y1 o a' i0 nb L G u') (ha : a < a') (hi0 : i0 ≤ a) (hn : a' ≤ 120) (hG : lc_clQ z' hi G) (hmk : ∀ y', lcI y' (o + 2) i0 = K → lcI y' (o + 3) i0 = -1 → lcI y' (o + 4) i0 = -1 → lcI y' (o + 6) i0 = v → lcI y' (o + 7) i0 = b → lc_Rb y' z' o 0 nb D i0 i0 p hi (lc_ev L)) : ∃ y', fP_addLeaf o K v b y1 = some (nI i0, y') ∧ lc_ky o i0 nb L.length y1 y' ∧ lc_acA tx n y' o a' (i0 + 1) nb L G u' ∧ lc_Rb y' z' o 0 nb D i0 i0 p hi (lc_ev L) := by
  obtain ⟨y', e1, e2, e3, e4, e5, e6, e7, e8, e9, e10⟩ := lc_aL K v b ho hy.2.2.2.1 (by omega)
  exact ⟨y', e1, lc_ky.aF ho e8 e9 e10, hy.aF ho e2 (by omega) e8 e10, hmk y' e3 e4 e5 e6 e7⟩
theorem lc_xE {tx : Nat → Int32} {n o : Nat} (ht : lc_tk tx n) (ho : lc_sh o = (0, 1, 0)) : ∀ (D d f nb a p : Nat) (L : List lc_nm) (u : Int32) (z : lc_S), d + D = 17 → D < f → lc_cQ tx n z a p d L u → ∃ z', lc_xB tx n f d a p o nb L u z z' ∨ lc_xG tx n f D d a p o nb L u z z'
  | _, _, 0, _, _, _, _, _, _, _, h, _ => absurd h (by omega)
  | 0, d, f + 1, nb, a, p, L, u, z, hd, hf, h => by
    have hd17 : d = 17 := by omega
    subst hd17
    obtain ⟨z', e1, e2⟩ := lc_bgD h
    refine ⟨z', Or.inl ⟨e2, ⟨2, by omega, fun F => by rw [show F + 2 = F + 1 + 1 by omega, lc_lp0 _ h.2.2.2.2.1 e1, lc_lpB F e2.2.1]⟩, fun y i0 G hy hG => ⟨y, ?_, lc_ky.rf⟩⟩⟩
    rw [fR_readExpression, fR_readExpressionB, if_neg (by decide)]
  | D + 1, d, f + 1, nb, a, p, L, u, z, hd, hf, h => by
    have ho' := lc_o ho
    have hn := h.1.2.1
    have ha := h.2.2.1
    have hpa := h.2.2.2.1
    have hLl := h.2.2.2.2.2.2.2.2.2.2.1
    have hd16 : d ≤ 16 := by omega
    have hat := lc_at_le tx n a
    have IH : ∀ nb a p L u z, lc_cQ tx n z a p (d + 1) L u → ∃ z', lc_xB tx n f (d + 1) a p o nb L u z z' ∨ lc_xG tx n f D (d + 1) a p o nb L u z z' := fun nb a p L u z hq => lc_xE ht ho D (d + 1) f nb a p L u z (by omega) (by omega) hq
    have pre : ∀ y i0 G, lc_acA tx n y o a i0 nb L G u → ∃ y1, lc_kp4 y y1 ∧ lcI y1 4 2 = nI (lc_nx tx n a) ∧ fR_readExpression (f + 1) (nI d) y = if lc_il (lc_sg tx n a) = 0 then (if lc_ig (lc_sg tx n a) = 0 then (if lc_sg tx n a = 40 then (lc_bnd (fR_nextSign y1) (fun r70 z70 => lc_bnd (fR_readForm (fR_readExpression f) r70 (nI d + 1) z70) (fun r76 z76 => if r76 = (-1) then (fR_readExpression_98 (fR_readExpression f) z76) else (lc_bnd (fR_nextSign z76) (fun r86 z86 => if r86 = 41 then (some (r76, z86)) else (fR_readExpression_98 (fR_readExpression f) z86)))))) else some (-1, y1)) else lc_bnd (fR_readNumber (lc_sg tx n a) y1) (fun r35 z35 => if r35 = (-1) then (some ((-1), z35)) else (lc_bnr (lcR z35 4 3) (fun q49 => lc_chk (lc_sh q49 = (0, 1, 0)) (fP_addLeaf q49 35 r35 (-1) z35))))) else fR_addVariable (lc_sg tx n a) y1 := fun y i0 G hy => by
      obtain ⟨y1, e1, e2, e3⟩ := lc_nsA hy.1 hy.2.2.1 ha
      refine ⟨y1, e3, e2, ?_⟩
      rw [fR_readExpression, fR_readExpressionB, if_pos (show nI d ≤ 16 from nI_le (b := 16) hd16 (by decide)), lc_bnd_eq e1, lc_bnd_eq (lc_ilA _ y1)]
      simp only [lc_bnd_ret]
      by_cases c1 : lc_il (lc_sg tx n a) = 0
      · rw [if_pos c1, if_pos c1, lc_bnd_eq (lc_igA _ y1)]
      · rw [if_neg c1, if_neg c1]
    by_cases hl : lc_il (lc_sg tx n a) = 0
    · by_cases hg : lc_ig (lc_sg tx n a) = 0
      · obtain ⟨hX, hO⟩ := lc_bgO h hd16 hl hg
        by_cases h40 : lc_sg tx n a = 40
        · by_cases har : lc_ar (lc_sg tx n (lc_at tx n a + 1)) = 0
          · obtain ⟨z', e1, e2⟩ := hX (Or.inr har)
            refine ⟨z', Or.inl ⟨e2, ⟨2, by omega, fun F => by rw [show F + 2 = F + 1 + 1 by omega, lc_lp0 _ h.2.2.2.2.1 e1, lc_lpB F e2.2.1]⟩, fun y i0 G hy hG => ?_⟩⟩
            obtain ⟨y2, g1, g2, g3⟩ := lc_cP hd16 ha hy h40
            exact ⟨y2, by rw [g3 f, lc_bnd_eq (lc_rf0 har), if_pos rfl], g1.y⟩
          · obtain ⟨z7, op, bg⟩ := hO h40 har
            obtain ⟨K, hK⟩ : ∃ K, K = lc_sg tx n (lc_at tx n a + 1) := ⟨_, rfl⟩
            rw [← hK] at op bg har
            have hlt : lc_at tx n a < n := lc_sg_lt (by rw [h40]; decide)
            have hlt2 : lc_at tx n (lc_at tx n a + 1) < n := lc_sg_lt (by rw [← hK]; intro e; rw [e] at har; exact har (by decide))
            have hat2 := lc_at_le tx n (lc_at tx n a + 1)
            have h7 : lc_at tx n (lc_at tx n a + 1) + 1 = lc_nx tx n (lc_at tx n a + 1) := (lc_nx_lt hlt2).symm
            suffices hF : ∃ z1, lc_bF tx n f d a (lc_at tx n (lc_at tx n a + 1) + 1) p o nb K L u z z1 ∨ lc_gF tx n f D d a (lc_at tx n (lc_at tx n a + 1) + 1) p o nb K L u z z1 by
              obtain ⟨z1, hF⟩ := hF
              exact lc_xK ho hd16 h h40 hK h7 hF
            by_cases k58 : K = 58
            · rw [if_pos k58] at bg
              rw [k58] at bg op ⊢
              exact lc_xF4 ho ht (by omega) h (by omega) op bg IH
            · rw [if_neg k58] at bg
              by_cases k47 : K = 47
              · rw [if_pos k47] at bg
                rw [k47] at bg op ⊢
                exact lc_xF5 ho ht (by omega) h (by omega) op bg IH
              · rw [if_neg k47] at bg
                by_cases k64 : K = 64
                · rw [k64] at bg op ⊢
                  exact lc_xF6 ho ht hd16 h (by omega) op bg IH
                · rw [lc_bgP k64 k47] at bg
                  by_cases k63 : K = 63
                  · rw [k63] at op ⊢
                    exact lc_xF3 ho hd16 h (by omega) op bg IH
                  · by_cases k2 : lc_two K
                    · exact lc_xF2 ho hd16 h (by omega) op bg k2 IH
                    · by_cases k1 : lc_one K
                      · exact lc_xF1 ho hd16 h (by omega) op bg k1 IH
                      · exfalso
                        apply har
                        unfold lc_ar
                        rw [if_neg k63, if_neg (fun e => by rcases e with e | e | e; exact k2 e; exact k58 e; exact k47 e), if_neg (fun e => by rcases e with e | e; exact k1 e; exact k64 e)]
        · obtain ⟨z', e1, e2⟩ := hX (Or.inl h40)
          refine ⟨z', Or.inl ⟨e2, ⟨2, by omega, fun F => by rw [show F + 2 = F + 1 + 1 by omega, lc_lp0 _ h.2.2.2.2.1 e1, lc_lpB F e2.2.1]⟩, fun y i0 G hy hG => ?_⟩⟩
          obtain ⟨y1, g1, g2, g3⟩ := pre y i0 G hy
          exact ⟨y1, by rw [g3, if_pos hl, if_pos hg, if_neg h40], g1.y⟩
      · obtain ⟨z', e1, e2, e3, e4, e5⟩ := lc_bgN ht h hd16 hg
        have hlt := lc_ig_lt hg
        rcases e5 with ⟨v, a', v1, v2, v3, v4, v5⟩ | ⟨v1, v2⟩
        · have ha'n := v3.2.2.1
          refine ⟨z', Or.inr ⟨e2, a', p + 1, 0, 1, u, by omega, by omega, by omega, by omega, v3, fun F => lc_lp0 F h.2.2.2.2.1 e1, fun y i0 G hy hG => ?_⟩⟩
          obtain ⟨y1, g1, g2, g3⟩ := pre y i0 G hy
          obtain ⟨y2, w1, w2, w3⟩ := v5 y1 (lc_txA4 g1 hy.1) (by rw [g2, lc_nx_lt hlt])
          have hy2 := hy.k4 ho (g1.tr w1) w2 (by omega)
          have hG' : lc_clQ z' (p + 1) G := lc_clQ_1 (fun q hq => ⟨e2.1 _ _ (by omega) (by omega) (by omega) (by omega) (by omega), e2.1 _ _ (by omega) (by omega) (by omega) (by omega) (by omega)⟩) (by rw [e3]; decide) hG
          have hi0 := hy.2.2.2.2.1
          obtain ⟨y3, x1, x2, x3, x4⟩ := lc_xL (D := D + 1) (p := p) 35 (nI v) (-1) ho hy2 v2 hi0 (by omega) hG' (fun y' t1 t2 t3 t4 t5 => by
            rw [lc_Rb]
            exact ⟨by omega, Nat.le_refl _, by omega, by omega, Or.inl ⟨rfl, rfl, t1, by rw [Nat.zero_add]; exact e3, t2, t3, v, v1, t4, by rw [Nat.zero_add]; exact v4⟩⟩)
          refine ⟨y3, (g1.tr w1).y.tr x2 (Nat.le_refl _) (Nat.le_refl _) (Nat.le_refl _), Or.inr ⟨hy.2.2.2.2.2.2.1, i0, G, ?_, Nat.le_refl _, by omega, x3, hG', x4⟩⟩
          rw [g3, if_pos hl, if_neg hg, lc_bnd_eq w3, if_neg (lc_nIm (by omega)), lc_bnr_eq hy2.2.1, lc_chk_pos ho, x1]
        · refine ⟨z', Or.inl ⟨⟨e2, v1, e4⟩, ⟨2, by omega, fun F => by rw [show F + 2 = F + 1 + 1 by omega, lc_lp0 _ h.2.2.2.2.1 e1, lc_lpB F v1]⟩, fun y i0 G hy hG => ?_⟩⟩
          obtain ⟨y1, g1, g2, g3⟩ := pre y i0 G hy
          obtain ⟨y2, w1, w2⟩ := v2 y1 (lc_txA4 g1 hy.1) (by rw [g2, lc_nx_lt hlt])
          exact ⟨y2, by rw [g3, if_pos hl, if_neg hg, lc_bnd_eq w2, if_pos rfl], (g1.tr w1).y⟩
    · obtain ⟨z', e1, e2, e3, e4, e5⟩ := lc_bgV ht h hd16 hl
      have hlt := (lc_il_ig ht hl).2.1
      refine ⟨z', Or.inr ⟨e2, lc_at tx n a + 1, p + 1, 0, 1, lc_unb (lc_sg tx n a) L u, by omega, by omega, by omega, by omega, e3, fun F => lc_lp0 F h.2.2.2.2.1 e1, fun y i0 G hy hG => ?_⟩⟩
      obtain ⟨y1, g1, g2, g3⟩ := pre y i0 G hy
      rw [lc_nx_lt hlt] at g2
      have hy1 := hy.k4 ho g1 g2 (by omega)
      have hG' : lc_clQ z' (p + 1) G := lc_clQ_1 (fun q hq => ⟨e2.1 _ _ (by omega) (by omega) (by omega) (by omega) (by omega), e2.1 _ _ (by omega) (by omega) (by omega) (by omega) (by omega)⟩) (by rw [e4]; decide) hG
      have hi0 := hy.2.2.2.2.1
      have hmk : ∀ y', lcI y' (o + 2) i0 = 118 → lcI y' (o + 3) i0 = -1 → lcI y' (o + 4) i0 = -1 → lcI y' (o + 6) i0 = nI (lc_bpt (lc_sg tx n a) L).2 → lcI y' (o + 7) i0 = nI (lc_bpt (lc_sg tx n a) L).1 → lc_Rb y' z' o 0 nb (D + 1) i0 i0 p (p + 1) (lc_ev L) := fun y' t1 t2 t3 t4 t5 => by
        rw [lc_Rb]
        exact ⟨by omega, Nat.le_refl _, by omega, by omega, Or.inr (Or.inl ⟨rfl, rfl, t1, by rw [Nat.zero_add]; exact e4, t2, t3, (lc_bpt (lc_sg tx n a) L).1, (lc_bpt (lc_sg tx n a) L).2, by rw [Nat.zero_add]; exact e5, t5, t4⟩)⟩
      have hva := lc_vA (s := lc_sg tx n a) hy1.2.1 ho L lc_FU (by unfold lc_FU; omega) (by omega) hy1.2.2.2.2.2.2.2.2.1
      have hav : fR_addVariable (lc_sg tx n a) y1 = fR_addVariable_7 lc_FU (lc_sg tx n a) (nI L.length - 1) y1 := by rw [fR_addVariable, lc_let_eq, hy1.2.2.2.2.2.2.2.1]
      cases hfd : lc_fd (lc_sg tx n a) L with
      | some e =>
        have hbp : lc_bpt (lc_sg tx n a) L = (e.1, e.2.1) := by unfold lc_bpt; rw [hfd]
        have hun : lc_unb (lc_sg tx n a) L u = u := by unfold lc_unb; rw [hfd]
        rw [hbp] at hmk
        rw [hfd] at hva
        rw [hun]
        obtain ⟨y3, x1, x2, x3, x4⟩ := lc_xL (D := D + 1) (p := p) (a := a) 118 (nI e.2.1) (nI e.1) ho hy1 (by omega) hi0 (by omega) hG' hmk
        refine ⟨y3, g1.y.tr x2 (Nat.le_refl _) (Nat.le_refl _) (Nat.le_refl _), Or.inr ⟨hy.2.2.2.2.2.2.1, i0, G, ?_, Nat.le_refl _, by omega, x3, hG', x4⟩⟩
        rw [g3, if_neg hl, hav, hva]
        exact lc_bnd_ret.trans x1
      | none =>
        have hbp : lc_bpt (lc_sg tx n a) L = (0, 0) := by unfold lc_bpt; rw [hfd]
        have hun : lc_unb (lc_sg tx n a) L u = 1 := by unfold lc_unb; rw [hfd]
        rw [hbp] at hmk
        rw [hfd] at hva
        rw [hun]
        obtain ⟨y2, ey2⟩ : ∃ x, x = lcUI y1 4 4 1 := ⟨_, rfl⟩
        have o2 : ∀ c k, ¬ (c = 4 ∧ k = 4) → lcI y2 c k = lcI y1 c k := fun c k g => by rw [ey2, lcI_UI, if_neg g]
        have hy2 : lc_acA tx n y2 o (lc_at tx n a + 1) i0 nb L G 1 := by
          obtain ⟨h1, h3, h4, h5, h6, h7, h8, h9, h10, h11, h12, h13, h14, h15⟩ := hy1
          exact ⟨⟨by rw [ey2]; exact h1.1, by rw [o2 _ _ (by omega)]; exact h1.2.1, h1.2.2.1, fun j hj => by rw [o2 _ _ (by omega)]; exact h1.2.2.2 j hj⟩, by rw [ey2]; exact h3, by rw [o2 _ _ (by omega)]; exact h4, by rw [o2 _ _ (by omega)]; exact h5, h6, by rw [o2 _ _ (by omega)]; exact h7, h8, by rw [o2 _ _ (by omega)]; exact h9, lc_nA_eq L (fun c k u v w => o2 c k (by omega)) h10, h11, by rw [o2 _ _ (by omega)]; exact h12, h13, by rw [ey2, lcI_UI, if_pos ⟨rfl, rfl⟩], h15⟩
        have k12 : lc_ky o i0 nb L.length y1 y2 := ⟨fun c k a1 a2 a3 a4 a5 => o2 c k (by omega), fun c k => by rw [ey2]; rfl, fun c k => by rw [ey2]; rfl, lc_n8_eq (o2 _ _ (by omega))⟩
        obtain ⟨y3, x1, x2, x3, x4⟩ := lc_xL (D := D + 1) (p := p) (a := a) 118 0 0 ho hy2 (by omega) hi0 (by omega) hG' hmk
        refine ⟨y3, (g1.y.tr k12 (Nat.le_refl _) (Nat.le_refl _) (Nat.le_refl _)).tr x2 (Nat.le_refl _) (Nat.le_refl _) (Nat.le_refl _), Or.inr ⟨hy.2.2.2.2.2.2.1, i0, G, ?_, Nat.le_refl _, by omega, x3, hG', x4⟩⟩
        rw [g3, if_neg hl, hav, hva]
        rw [ey2] at x1
        exact lc_bnd_ret.trans x1
