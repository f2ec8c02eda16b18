/-! reading forms with two and three parts -/
theorem lc_mk2 {y z : lc_S} {o nb D lo a p h1 a2 h2 : Nat} {env : List lc_en} {K : Int32} (hi : a2 + 1 < 120) (hR : lc_Rb y z o 0 nb D lo a (p + 1) h1 env) (hR2 : lc_Rb y z o 0 nb D (a + 1) a2 h1 h2 env) (r2 : lcI y (o + 2) (a2 + 1) = K) (hK : lc_two K) (r3 : lcI y (o + 3) (a2 + 1) = nI a) (r4 : lcI y (o + 4) (a2 + 1) = nI a2) (z82 : lcI z 82 p = K) (z84 : lcI z 84 p = nI (p + 1)) (z85 : lcI z 85 p = nI h1) : lc_Rb y z o 0 nb (D + 1) lo (a2 + 1) p h2 env := by
  have l := lc_Rb_lt hR
  have l2 := lc_Rb_lt hR2
  rw [lc_Rb]
  refine ⟨hi, by omega, by omega, by omega, Or.inr (Or.inr ⟨a, h1, r3, ?_, ?_, hR, Or.inr (Or.inr ⟨a2, h2, r4, ?_, Or.inl ⟨?_, rfl, rfl, hR2⟩⟩)⟩)⟩
  · rw [Nat.zero_add]; exact z84
  · rw [Nat.zero_add, z82, r2]
  · rw [Nat.zero_add]; exact z85
  · rw [r2]; exact hK
theorem lc_mk3 {y z : lc_S} {o nb D lo a p h1 a2 h2 a3 h3 : Nat} {env : List lc_en} (hi : a3 + 1 < 120) (hR : lc_Rb y z o 0 nb D lo a (p + 1) h1 env) (hR2 : lc_Rb y z o 0 nb D (a + 1) a2 h1 h2 env) (hR3 : lc_Rb y z o 0 nb D (a2 + 1) a3 h2 h3 env) (r2 : lcI y (o + 2) (a3 + 1) = 63) (r3 : lcI y (o + 3) (a3 + 1) = nI a) (r4 : lcI y (o + 4) (a3 + 1) = nI a2) (r5 : lcI y (o + 5) (a3 + 1) = nI a3) (z82 : lcI z 82 p = 63) (z84 : lcI z 84 p = nI (p + 1)) (z85 : lcI z 85 p = nI h1) (z86 : lcI z 86 p = nI h2) : lc_Rb y z o 0 nb (D + 1) lo (a3 + 1) p h3 env := by
  have l := lc_Rb_lt hR
  have l2 := lc_Rb_lt hR2
  have l3 := lc_Rb_lt hR3
  rw [lc_Rb]
  refine ⟨hi, by omega, by omega, by omega, Or.inr (Or.inr ⟨a, h1, r3, ?_, ?_, hR, Or.inr (Or.inr ⟨a2, h2, r4, ?_, Or.inr (Or.inr (Or.inr ⟨r2, a3, r5, ?_, rfl, hR2, hR3⟩))⟩)⟩)⟩
  · rw [Nat.zero_add]; exact z84
  · rw [Nat.zero_add, z82, r2]
  · rw [Nat.zero_add]; exact z85
  · rw [Nat.zero_add]; exact z86
theorem lc_xF2 {tx : Nat → Int32} {n f D d a a7 p o nb : Nat} {L : List lc_nm} {u : Int32} {z z7 : lc_S} {K V : Int32} (ho : lc_sh o = (0, 1, 0)) (hd : d ≤ 16) (h : lc_cQ tx n z a p d L u) (ha7 : a + 2 ≤ a7) (op : lc_oQ tx n z z7 a7 p d K V L u) (bg : fQ_begin z = some (-1, z7)) (hK : lc_two K)
    (IH : ∀ nb a p L u z, lc_cQ tx n z a p (d + 1) L u → ∃ z', lc_xB tx n f (d + 1) a p o nb L u z z' ∨ lc_xG tx n f D (d + 1) a p o nb L u z z') : ∃ z1, lc_bF tx n f d a a7 p o nb K L u z z1 ∨ lc_gF tx n f D d a a7 p o nb K L u z z1 := by
  have ho' := lc_o ho
  obtain ⟨k7, c7, o1, o2, o3, o4⟩ := id op
  have hn := h.1.2.1
  have hpa := h.2.2.2.1
  have ha7n := c7.2.2.1
  obtain ⟨ar1, wd0, n58, n47, n64⟩ := lc_two_ar hK
  have path1 : ∀ F, fQ_read_119 (F + 1) (-1) z = fQ_read_119 F (-1) z7 := fun F => lc_lp0 F h.2.2.2.2.1 bg
  obtain ⟨z', hx⟩ := IH nb a7 (p + 1) L u z7 c7
  rcases hx with hb | hg
  · obtain ⟨x1, x2⟩ := lc_pB (a := a) k7 (Nat.le_refl _) (by omega) (by omega) ha7n (by omega) path1 hb
    refine ⟨z', Or.inl ⟨x1, x2, fun y i0 G hy hi hG => ?_⟩⟩
    obtain ⟨y', w1, w2⟩ := hb.2.2 y i0 G hy (lc_op_cl op n64 hG)
    exact ⟨y', by rw [lc_rf2 hK, fR_readTwo, lc_bnd_eq w1, if_pos rfl, fR_readTwo_20, if_pos rfl], w2⟩
  · obtain ⟨zn, r1, r2, r3, r4, a', hi, B, s, u', q1, q2, q3, q4, q5, q6, q7⟩ := lc_ch hd (Nat.lt_succ_self p) c7 ⟨o1, o2, o3, o4⟩ (by omega) hg
    have ha'n := q5.2.2.1
    have kn := k7.tr r1 (Nat.le_refl _) (Nat.le_refl _) (Nat.le_refl _)
    have path2 : ∀ F, fQ_read_119 (F + (s + 1 + 1)) (-1) z = fQ_read_119 F (-1) zn := fun F => by
      rw [show F + (s + 1 + 1) = F + (s + 1) + 1 by omega, path1, q6, if_neg (fun e => by rcases e.2 with e | e; exact n58 e; exact n47 e), lc_bnd_eq (lc_att0 q5.2.2.2.2.2.1 (by omega) r2.2.1 (by rw [ar1]; omega))]
    obtain ⟨z'2, hx2⟩ := IH (nb + B) a' hi L u' zn q5
    rcases hx2 with hb | hg2
    · obtain ⟨x1, x2⟩ := lc_pB (a := a) kn (Nat.le_refl _) (by omega) (by omega) ha'n (by omega) path2 hb
      refine ⟨z'2, Or.inl ⟨x1, x2, fun y i0 G hy hi0 hG => ?_⟩⟩
      obtain ⟨y', w1, w2⟩ := q7 y i0 G hy (lc_op_cl op n64 hG)
      rcases w2 with ⟨w3, w4⟩ | ⟨w3, i, G', w4, w5, w6, w7, w8, w9⟩
      · exact ⟨y', by rw [lc_rf2 hK, fR_readTwo, lc_bnd_eq w4, if_pos rfl, fR_readTwo_20, if_pos rfl], w1⟩
      · obtain ⟨y2, v1, v2⟩ := hb.2.2 y' (i + 1) G' w7 w8
        exact ⟨y2, by rw [lc_rf2 hK, fR_readTwo, lc_bnd_eq w4, if_neg (lc_nIm (by omega)), lc_bnd_eq v1, fR_readTwo_20, if_pos rfl], w1.tr v2 (by omega) (by omega) (Nat.le_refl _)⟩
    · obtain ⟨zm, r1', r2', r3', r4', a'', hi', B', s', u'', q1', q2', q3', q4', q5', q6', q7'⟩ := lc_ch hd (by omega) q5 r2 (by omega) hg2
      have ha''n := q5'.2.2.1
      refine ⟨zm, Or.inr ⟨kn.tr r1' (Nat.le_refl _) (Nat.le_refl _) (Nat.le_refl _), by rw [ar1]; exact r2'.2.1, a'', hi', B + B', s' + 1 + (s + 1 + 1), u'', by omega, by omega, by omega, by omega, by omega, by rw [wd0]; exact q5'.r, fun F => ?_, fun y i0 G hy hi0 hG => ?_⟩⟩
      · rw [show F + (s' + 1 + (s + 1 + 1)) = F + (s' + 1) + (s + 1 + 1) by omega, path2, q6', if_neg (fun e => absurd e.1 (by omega))]
      · obtain ⟨y', w1, w2⟩ := q7 y i0 G hy (lc_op_cl op n64 hG)
        rcases w2 with ⟨w3, w4⟩ | ⟨w3, i, G', w4, w5, w6, w7, w8, w9⟩
        · exact ⟨y', w1, Or.inl ⟨by omega, by rw [lc_rf2 hK, fR_readTwo, lc_bnd_eq w4, if_pos rfl, fR_readTwo_20, if_pos rfl]⟩⟩
        · obtain ⟨y2, w1', w2'⟩ := q7' y' (i + 1) G' w7 w8
          rcases w2' with ⟨w3', w4'⟩ | ⟨w3', i', G'', w4', w5', w6', w7', w8', w9'⟩
          · exact ⟨y2, w1.tr w1' (by omega) (by omega) (Nat.le_refl _), Or.inl ⟨by omega, by rw [lc_rf2 hK, fR_readTwo, lc_bnd_eq w4, if_neg (lc_nIm (by omega)), lc_bnd_eq w4', fR_readTwo_20, if_pos rfl]⟩⟩
          · obtain ⟨y3, v1, v2, v3, v4, v5, v6, v7, v8, v9, v10, v11⟩ := lc_aF K (nI i) (nI i') (-1) ho w7'.2.2.2.1 (by omega)
            have k02 := w1.tr w1' (by omega : i0 ≤ i + 1) (by omega : nb ≤ nb + B) (Nat.le_refl _)
            refine ⟨y3, k02.tr (lc_ky.aF (nb := nb) (m := L.length) ho v9 v10 v11) (by omega) (Nat.le_refl _) (Nat.le_refl _), Or.inr ⟨by omega, i' + 1, G'', ?_, by omega, by omega, by rw [← Nat.add_assoc]; exact w7'.aF ho v2 (by omega) v9 v11, w8', ?_⟩⟩
            · rw [lc_rf2 hK, fR_readTwo, lc_bnd_eq w4, if_neg (lc_nIm (by omega)), lc_bnd_eq w4', fR_readTwo_20, if_neg (lc_nIm (by omega)), lc_bnr_eq w7'.2.1, lc_chk_pos ho, lc_bnd_eq v1]
            · rw [← Nat.add_assoc]
              refine lc_mk2 (a := i) (h1 := hi) (by omega) ?_ ?_ v3 hK v4 v5 r2'.2.2.1 (by rw [r4' 84 p (by omega) (by omega) (by omega) (by omega)]; exact r3) r3'
              · exact lc_Rb_eq (by omega) (fun b hb => by rw [v9 _ _ (by omega) (by omega), w1'.1 _ _ (by omega) (by omega) (by omega) (by omega) (by omega)]) _ _ _ _ _ _ (fun c k e1 e2 e3 e4 => by rw [v9 _ _ (by omega) (by omega), w1'.1 _ _ (by omega) (by omega) (by omega) (by omega) (by omega)]) (fun c j e1 e2 e3 e4 => by rw [Nat.zero_add]; exact r4' c j e1 e2 e4 (by omega)) w9
              · exact lc_Rb_eq (Nat.le_refl _) (fun b _ => v9 _ _ (by omega) (by omega)) _ _ _ _ _ _ (fun c k e1 e2 e3 e4 => v9 _ _ (by omega) (by omega)) (fun c j _ _ _ _ => rfl) w9'
theorem lc_xF3 {tx : Nat → Int32} {n f D d a a7 p o nb : Nat} {L : List lc_nm} {u : Int32} {z z7 : lc_S} {V : Int32} (ho : lc_sh o = (0, 1, 0)) (hd : d ≤ 16) (h : lc_cQ tx n z a p d L u) (ha7 : a + 2 ≤ a7) (op : lc_oQ tx n z z7 a7 p d 63 V L u) (bg : fQ_begin z = some (-1, z7))
    (IH : ∀ nb a p L u z, lc_cQ tx n z a p (d + 1) L u → ∃ z', lc_xB tx n f (d + 1) a p o nb L u z z' ∨ lc_xG tx n f D (d + 1) a p o nb L u z z') : ∃ z1, lc_bF tx n f d a a7 p o nb 63 L u z z1 ∨ lc_gF tx n f D d a a7 p o nb 63 L u z z1 := by
  have ho' := lc_o ho
  obtain ⟨k7, c7, o1, o2, o3, o4⟩ := id op
  have hn := h.1.2.1
  have hpa := h.2.2.2.1
  have ha7n := c7.2.2.1
  have ar1 : lc_ar 63 = 3 := by decide
  have wd0 : lc_wdt 63 = 0 := by decide
  have n58 : ¬ (63 : Int32) = 58 := by decide
  have n47 : ¬ (63 : Int32) = 47 := by decide
  have n64 : (63 : Int32) ≠ 64 := by decide
  have path1 : ∀ F, fQ_read_119 (F + 1) (-1) z = fQ_read_119 F (-1) z7 := fun F => lc_lp0 F h.2.2.2.2.1 bg
  obtain ⟨z', hx⟩ := IH nb a7 (p + 1) L u z7 c7
  rcases hx with hb | hg
  · obtain ⟨x1, x2⟩ := lc_pB (a := a) k7 (Nat.le_refl _) (by omega) (by omega) ha7n (by omega) path1 hb
    refine ⟨z', Or.inl ⟨x1, x2, fun y i0 G hy hi hG => ?_⟩⟩
    obtain ⟨y', w1, w2⟩ := hb.2.2 y i0 G hy (lc_op_cl op n64 hG)
    exact ⟨y', by rw [lc_rf3, fR_readThree, lc_bnd_eq w1, if_pos rfl, fR_readThree_20, if_pos rfl, fR_readThree_37, if_pos rfl], w2⟩
  · obtain ⟨zn, r1, r2, r3, r4, a', hi, B, s, u', q1, q2, q3, q4, q5, q6, q7⟩ := lc_ch hd (Nat.lt_succ_self p) c7 ⟨o1, o2, o3, o4⟩ (by omega) hg
    have ha'n := q5.2.2.1
    have kn := k7.tr r1 (Nat.le_refl _) (Nat.le_refl _) (Nat.le_refl _)
    have path2 : ∀ F, fQ_read_119 (F + (s + 1 + 1)) (-1) z = fQ_read_119 F (-1) zn := fun F => by
      rw [show F + (s + 1 + 1) = F + (s + 1) + 1 by omega, path1, q6, if_neg (fun e => by rcases e.2 with e | e; exact n58 e; exact n47 e), lc_bnd_eq (lc_att0 q5.2.2.2.2.2.1 (by omega) r2.2.1 (by rw [ar1]; omega))]
    obtain ⟨z'2, hx2⟩ := IH (nb + B) a' hi L u' zn q5
    rcases hx2 with hb | hg2
    · obtain ⟨x1, x2⟩ := lc_pB (a := a) kn (Nat.le_refl _) (by omega) (by omega) ha'n (by omega) path2 hb
      refine ⟨z'2, Or.inl ⟨x1, x2, fun y i0 G hy hi0 hG => ?_⟩⟩
      obtain ⟨y', w1, w2⟩ := q7 y i0 G hy (lc_op_cl op n64 hG)
      rcases w2 with ⟨w3, w4⟩ | ⟨w3, i, G', w4, w5, w6, w7, w8, w9⟩
      · exact ⟨y', by rw [lc_rf3, fR_readThree, lc_bnd_eq w4, if_pos rfl, fR_readThree_20, if_pos rfl, fR_readThree_37, if_pos rfl], w1⟩
      · obtain ⟨y2, v1, v2⟩ := hb.2.2 y' (i + 1) G' w7 w8
        exact ⟨y2, by rw [lc_rf3, fR_readThree, lc_bnd_eq w4, if_neg (lc_nIm (by omega)), lc_bnd_eq v1, fR_readThree_20, if_pos rfl, fR_readThree_37, if_pos rfl], w1.tr v2 (by omega) (by omega) (Nat.le_refl _)⟩
    · obtain ⟨zm, r1', r2', r3', r4', a'', hi', B', s', u'', q1', q2', q3', q4', q5', q6', q7'⟩ := lc_ch hd (by omega) q5 r2 (by omega) hg2
      have ha''n := q5'.2.2.1
      have km := kn.tr r1' (Nat.le_refl _) (Nat.le_refl _) (Nat.le_refl _)
      have path3 : ∀ F, fQ_read_119 (F + (s' + 1 + (s + 1 + 1))) (-1) z = fQ_read_119 F (-1) zm := fun F => by
        rw [show F + (s' + 1 + (s + 1 + 1)) = F + (s' + 1) + (s + 1 + 1) by omega, path2, q6', if_neg (fun e => absurd e.1 (by omega)), lc_bnd_eq (lc_att0 q5'.2.2.2.2.2.1 (by omega) r2'.2.1 (by rw [ar1]; omega))]
      obtain ⟨z'3, hx3⟩ := IH (nb + B + B') a'' hi' L u'' zm q5'
      rcases hx3 with hb | hg3
      · obtain ⟨x1, x2⟩ := lc_pB (a := a) km (Nat.le_refl _) (by omega) (by omega) ha''n (by omega) path3 hb
        refine ⟨z'3, Or.inl ⟨x1, x2, fun y i0 G hy hi0 hG => ?_⟩⟩
        obtain ⟨y', w1, w2⟩ := q7 y i0 G hy (lc_op_cl op n64 hG)
        rcases w2 with ⟨w3, w4⟩ | ⟨w3, i, G', w4, w5, w6, w7, w8, w9⟩
        · exact ⟨y', by rw [lc_rf3, fR_readThree, lc_bnd_eq w4, if_pos rfl, fR_readThree_20, if_pos rfl, fR_readThree_37, if_pos rfl], w1⟩
        · obtain ⟨y2, w1', w2'⟩ := q7' y' (i + 1) G' w7 w8
          rcases w2' with ⟨w3', w4'⟩ | ⟨w3', i', G'', w4', w5', w6', w7', w8', w9'⟩
          · exact ⟨y2, by rw [lc_rf3, fR_readThree, lc_bnd_eq w4, if_neg (lc_nIm (by omega)), lc_bnd_eq w4', fR_readThree_20, if_pos rfl, fR_readThree_37, if_pos rfl], w1.tr w1' (by omega) (by omega) (Nat.le_refl _)⟩
          · obtain ⟨y3, v1, v2⟩ := hb.2.2 y2 (i' + 1) G'' w7' w8'
            exact ⟨y3, by rw [lc_rf3, fR_readThree, lc_bnd_eq w4, if_neg (lc_nIm (by omega)), lc_bnd_eq w4', fR_readThree_20, if_neg (lc_nIm (by omega)), lc_bnd_eq v1, fR_readThree_37, if_pos rfl], (w1.tr w1' (by omega : i0 ≤ i + 1) (by omega : nb ≤ nb + B) (Nat.le_refl _)).tr v2 (by omega) (by omega) (Nat.le_refl _)⟩
      · obtain ⟨zt, t1, t2, t3, t4, a3, h3, B3, s3, u3, p1, p2, p3, p4, p5, p6, p7⟩ := lc_ch hd (by omega) q5' r2' (by omega) hg3
        have ha3n := p5.2.2.1
        refine ⟨zt, Or.inr ⟨km.tr t1 (Nat.le_refl _) (Nat.le_refl _) (Nat.le_refl _), by rw [ar1]; exact t2.2.1, a3, h3, B + B' + B3, s3 + 1 + (s' + 1 + (s + 1 + 1)), u3, by omega, by omega, by omega, by omega, by omega, by rw [wd0]; exact p5.r, fun F => ?_, fun y i0 G hy hi0 hG => ?_⟩⟩
        · rw [show F + (s3 + 1 + (s' + 1 + (s + 1 + 1))) = F + (s3 + 1) + (s' + 1 + (s + 1 + 1)) by omega, path3, p6, if_neg (fun e => absurd e.1 (by omega))]
        · obtain ⟨y', w1, w2⟩ := q7 y i0 G hy (lc_op_cl op n64 hG)
          rcases w2 with ⟨w3, w4⟩ | ⟨w3, i, G', w4, w5, w6, w7, w8, w9⟩
          · exact ⟨y', w1, Or.inl ⟨by omega, by rw [lc_rf3, fR_readThree, lc_bnd_eq w4, if_pos rfl, fR_readThree_20, if_pos rfl, fR_readThree_37, if_pos rfl]⟩⟩
          · obtain ⟨y2, w1', w2'⟩ := q7' y' (i + 1) G' w7 w8
            rcases w2' with ⟨w3', w4'⟩ | ⟨w3', i', G'', w4', w5', w6', w7', w8', w9'⟩
            · exact ⟨y2, w1.tr w1' (by omega) (by omega) (Nat.le_refl _), Or.inl ⟨by omega, by rw [lc_rf3, fR_readThree, lc_bnd_eq w4, if_neg (lc_nIm (by omega)), lc_bnd_eq w4', fR_readThree_20, if_pos rfl, fR_readThree_37, if_pos rfl]⟩⟩
            · have k02 := w1.tr w1' (by omega : i0 ≤ i + 1) (by omega : nb ≤ nb + B) (Nat.le_refl _)
              obtain ⟨y3, m1, m2⟩ := p7 y2 (i' + 1) G'' w7' w8'
              rcases m2 with ⟨m3, m4⟩ | ⟨m3, i3, G3, m4, m5, m6, m7, m8, m9⟩
              · exact ⟨y3, k02.tr m1 (by omega) (by omega) (Nat.le_refl _), Or.inl ⟨by omega, by rw [lc_rf3, fR_readThree, lc_bnd_eq w4, if_neg (lc_nIm (by omega)), lc_bnd_eq w4', fR_readThree_20, if_neg (lc_nIm (by omega)), lc_bnd_eq m4, fR_readThree_37, if_pos rfl]⟩⟩
              · obtain ⟨y4, v1, v2, v3, v4, v5, v6, v7, v8, v9, v10, v11⟩ := lc_aF 63 (nI i) (nI i') (nI i3) ho m7.2.2.2.1 (by omega)
                have k03 := k02.tr m1 (by omega : i0 ≤ i' + 1) (by omega : nb ≤ nb + B + B') (Nat.le_refl _)
                refine ⟨y4, k03.tr (lc_ky.aF (nb := nb) (m := L.length) ho v9 v10 v11) (by omega) (Nat.le_refl _) (Nat.le_refl _), Or.inr ⟨by omega, i3 + 1, G3, ?_, by omega, by omega, by rw [show nb + (B + B' + B3) = nb + B + B' + B3 by omega]; exact m7.aF ho v2 (by omega) v9 v11, m8, ?_⟩⟩
                · rw [lc_rf3, fR_readThree, lc_bnd_eq w4, if_neg (lc_nIm (by omega)), lc_bnd_eq w4', fR_readThree_20, if_neg (lc_nIm (by omega)), lc_bnd_eq m4, fR_readThree_37, if_neg (lc_nIm (by omega)), lc_bnr_eq m7.2.1, lc_chk_pos ho, lc_bnd_eq v1]
                · rw [show nb + (B + B' + B3) = nb + B + B' + B3 by omega]
                  refine lc_mk3 (a := i) (h1 := hi) (a2 := i') (h2 := hi') (by omega) ?_ ?_ ?_ v3 v4 v5 v6 t2.2.2.1 (by rw [t4 84 p (by omega) (by omega) (by omega) (by omega), r4' 84 p (by omega) (by omega) (by omega) (by omega)]; exact r3) (by rw [t4 85 p (by omega) (by omega) (by omega) (by omega)]; exact r3') t3
                  · exact lc_Rb_eq (by omega) (fun b hb => by rw [v9 _ _ (by omega) (by omega), m1.1 _ _ (by omega) (by omega) (by omega) (by omega) (by omega), w1'.1 _ _ (by omega) (by omega) (by omega) (by omega) (by omega)]) _ _ _ _ _ _ (fun c k e1 e2 e3 e4 => by rw [v9 _ _ (by omega) (by omega), m1.1 _ _ (by omega) (by omega) (by omega) (by omega) (by omega), w1'.1 _ _ (by omega) (by omega) (by omega) (by omega) (by omega)]) (fun c j e1 e2 e3 e4 => by rw [Nat.zero_add, t4 c j e1 e2 (by omega) (by omega)]; exact r4' c j e1 e2 e4 (by omega)) w9
                  · exact lc_Rb_eq (by omega) (fun b hb => by rw [v9 _ _ (by omega) (by omega), m1.1 _ _ (by omega) (by omega) (by omega) (by omega) (by omega)]) _ _ _ _ _ _ (fun c k e1 e2 e3 e4 => by rw [v9 _ _ (by omega) (by omega), m1.1 _ _ (by omega) (by omega) (by omega) (by omega) (by omega)]) (fun c j e1 e2 e3 e4 => by rw [Nat.zero_add]; exact t4 c j e1 e2 e4 (by omega)) w9'
                  · exact lc_Rb_eq (Nat.le_refl _) (fun b _ => v9 _ _ (by omega) (by omega)) _ _ _ _ _ _ (fun c k e1 e2 e3 e4 => v9 _ _ (by omega) (by omega)) (fun c j _ _ _ _ => rfl) m9
