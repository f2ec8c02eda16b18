/-! reading forms with one part -/
theorem lc_mk1 {y z : lc_S} {o nb D lo a p h1 : Nat} {env : List lc_en} {K : Int32} (hi : a + 1 < 120) (hR : lc_Rb y z o 0 nb D lo a (p + 1) h1 env) (r2 : lcI y (o + 2) (a + 1) = K) (hK : lc_one K) (r3 : lcI y (o + 3) (a + 1) = nI a) (r4 : lcI y (o + 4) (a + 1) = -1) (z82 : lcI z 82 p = K) (z84 : lcI z 84 p = nI (p + 1)) : lc_Rb y z o 0 nb (D + 1) lo (a + 1) p h1 env := by
  have l := lc_Rb_lt hR
  rw [lc_Rb]
  refine ⟨hi, by omega, by omega, by omega, Or.inr (Or.inr ⟨a, h1, r3, ?_, ?_, hR, Or.inl ⟨?_, rfl, rfl, r4⟩⟩)⟩
  · rw [Nat.zero_add]; exact z84
  · rw [Nat.zero_add, z82, r2]
  · rw [r2]; exact hK
theorem lc_mk6 {y z : lc_S} {o nb D lo a p h1 c : Nat} {env : List lc_en} (hi : a + 1 < 120) (hR : lc_Rb y z o 0 nb D lo a (p + 1) h1 env) (r2 : lcI y (o + 2) (a + 1) = 64) (r3 : lcI y (o + 3) (a + 1) = nI a) (r4 : lcI y (o + 4) (a + 1) = -1) (hc : c < 4) (r6 : lcI y (o + 6) (a + 1) = nI c) (z82 : lcI z 82 p = 64) (z83 : lcI z 83 p = nI c) (z84 : lcI z 84 p = nI (p + 1)) : lc_Rb y z o 0 nb (D + 1) lo (a + 1) p h1 env := by
  have l := lc_Rb_lt hR
  rw [lc_Rb]
  refine ⟨hi, by omega, by omega, by omega, Or.inr (Or.inr ⟨a, h1, r3, ?_, ?_, hR, Or.inr (Or.inl ⟨r2, rfl, rfl, r4, c, hc, r6, ?_⟩)⟩)⟩
  · rw [Nat.zero_add]; exact z84
  · rw [Nat.zero_add, z82, r2]
  · rw [Nat.zero_add]; exact z83
theorem lc_cQ.r {tx : Nat → Int32} {n a p d : Nat} {z : lc_S} {L : List lc_nm} {u : Int32} (h : lc_cQ tx n z a p (d + 1) L u) : lc_cR tx n z a p d 0 L u := by
  obtain ⟨c1, c2, c3, c4, c5, c6, c7, c8, c9, c10, c11, c12, c13, c14⟩ := h
  exact ⟨c1, c2, c3, c4, c5, c6, c7, c8, c9, c12, c13, c14⟩
theorem lc_one_ar {K : Int32} (h : lc_one K) : lc_ar K = 1 ∧ lc_wdt K = 0 ∧ K ≠ 58 ∧ K ≠ 47 ∧ K ≠ 64 := by
  rcases h with h | h | h <;> subst h <;> exact ⟨by decide, by decide, by decide, by decide, by decide⟩
theorem lc_two_ar {K : Int32} (h : lc_two K) : lc_ar K = 2 ∧ lc_wdt K = 0 ∧ K ≠ 58 ∧ K ≠ 47 ∧ K ≠ 64 := by
  rcases h with h | h | h | h | h | h <;> subst h <;> exact ⟨by decide, by decide, by decide, by decide, by decide⟩
theorem lc_op_cl {tx : Nat → Int32} {n : Nat} {z z7 : lc_S} {a7 p d : Nat} {K V : Int32} {L : List lc_nm} {u : Int32} {G : Nat} (op : lc_oQ tx n z z7 a7 p d K V L u) (hK : K ≠ 64) (hG : lc_clQ z p G) : lc_clQ z7 (p + 1) G :=
  lc_clQ_1 (fun q hq => ⟨op.1.1 _ _ (by omega) (by omega) (by omega) (by omega) (by omega), op.1.1 _ _ (by omega) (by omega) (by omega) (by omega) (by omega)⟩) (by rw [op.2.2.2.2.1]; exact hK) hG
theorem lc_xF1 {tx : Nat → Int32} {n f D d a a7 p o nb : Nat} {L : List lc_nm} {u : Int32} {z z7 : lc_S} {K V : Int32} (ho : lc_sh o = (0, 1, 0)) (hd : d ≤ 16) (h : lc_cQ tx n z a p d L u) (ha7 : a + 2 ≤ a7) (op : lc_oQ tx n z z7 a7 p d K V L u) (bg : fQ_begin z = some (-1, z7)) (hK : lc_one K)
    (IH : ∀ nb a p L u z, lc_cQ tx n z a p (d + 1) L u → ∃ z', lc_xB tx n f (d + 1) a p o nb L u z z' ∨ lc_xG tx n f D (d + 1) a p o nb L u z z') : ∃ z1, lc_bF tx n f d a a7 p o nb K L u z z1 ∨ lc_gF tx n f D d a a7 p o nb K L u z z1 := by
  obtain ⟨k7, c7, o1, o2, o3, o4⟩ := id op
  have hn := h.1.2.1
  have hpa := h.2.2.2.1
  have ha7n := c7.2.2.1
  obtain ⟨ar1, wd0, n58, n47, n64⟩ := lc_one_ar hK
  have path1 : ∀ F, fQ_read_119 (F + 1) (-1) z = fQ_read_119 F (-1) z7 := fun F => lc_lp0 F h.2.2.2.2.1 bg
  obtain ⟨z', hx⟩ := IH nb a7 (p + 1) L u z7 c7
  rcases hx with hb | hg
  · obtain ⟨x1, x2⟩ := lc_pB (a := a) k7 (Nat.le_refl _) (by omega) (by omega) ha7n (by omega) path1 hb
    refine ⟨z', Or.inl ⟨x1, x2, fun y i0 G hy hi hG => ?_⟩⟩
    obtain ⟨y', w1, w2⟩ := hb.2.2 y i0 G hy (lc_op_cl op n64 hG)
    exact ⟨y', by rw [lc_rf1 hK, fR_readOne, lc_bnd_eq w1, if_pos rfl], w2⟩
  · obtain ⟨zn, r1, r2, r3, r4, a', hi, B, s, u', q1, q2, q3, q4, q5, q6, q7⟩ := lc_ch hd (Nat.lt_succ_self p) c7 ⟨o1, o2, o3, o4⟩ (by omega) hg
    have ha'n := q5.2.2.1
    refine ⟨zn, Or.inr ⟨k7.tr r1 (Nat.le_refl _) (Nat.le_refl _) (Nat.le_refl _), by rw [ar1]; exact r2.2.1, a', hi, B, s + 1 + 1, u', by omega, by omega, by omega, by omega, by omega, by rw [wd0]; exact q5.r, fun F => ?_, fun y i0 G hy hi0 hG => ?_⟩⟩
    · rw [show F + (s + 1 + 1) = F + (s + 1) + 1 by omega, path1, q6, if_neg (fun e => by rcases e.2 with e | e; exact n58 e; exact n47 e)]
    · obtain ⟨y', w1, w2⟩ := q7 y i0 G hy (lc_op_cl op n64 hG)
      rcases w2 with ⟨w3, w4⟩ | ⟨w3, i, G', w4, w5, w6, w7, w8, w9⟩
      · exact ⟨y', w1, Or.inl ⟨w3, by rw [lc_rf1 hK, fR_readOne, lc_bnd_eq w4, if_pos rfl]⟩⟩
      · obtain ⟨y2, v1, v2, v3, v4, v5, v6, v7, v8, v9, v10, v11⟩ := lc_aF K (nI i) (-1) (-1) ho w7.2.2.2.1 (by omega)
        refine ⟨y2, w1.tr (lc_ky.aF (nb := nb) (m := L.length) ho v9 v10 v11) (by omega) (Nat.le_refl _) (Nat.le_refl _), Or.inr ⟨w3, i + 1, G', ?_, by omega, by omega, w7.aF ho v2 (by omega) v9 v11, w8, ?_⟩⟩
        · rw [lc_rf1 hK, fR_readOne, lc_bnd_eq w4, if_neg (lc_nIm (by omega)), lc_bnr_eq w7.2.1, lc_chk_pos ho, lc_bnd_eq v1]
        · refine lc_mk1 (by omega) ?_ v3 hK v4 v5 r2.2.2.1 r3
          exact lc_Rb_eq (Nat.le_refl _) (fun b _ => v9 _ _ (by omega) (by omega)) _ _ _ _ _ _ (fun c k e1 e2 e3 e4 => v9 _ _ (by omega) (by omega)) (fun c j _ _ _ _ => rfl) w9
theorem lc_ipn0 {x : Int32} {y : lc_S} (h : x = -1 ∨ ∃ j, 4 ≤ j ∧ j < 10000 ∧ x = nI j) : fA_isProcedureNumber x y = some (0, y) := by
  rw [fA_isProcedureNumber]
  rcases h with h | ⟨j, h1, h2, h3⟩
  · rw [h, if_pos (by decide)]; rfl
  · rw [h3, if_neg (nI_pos (by omega)), if_pos (show (4 : Int32) ≤ nI j from nI_le (a := 4) h1 (by omega))]; rfl
theorem lc_ipn1 {v : Nat} {y : lc_S} (h : v < 4) : fA_isProcedureNumber (nI v) y = some (1, y) := by
  rw [fA_isProcedureNumber, if_neg (nI_pos (by omega)), if_neg (show ¬ (4 : Int32) ≤ nI v from nI_ge (b := 4) h (by decide))]
theorem lc_or4 {G v : Nat} (hG : G < 16) (hv : v < 4) : nI G ||| (1 <<< (nI v &&& 31)) = nI (G ||| 2 ^ v) ∧ (G ||| 2 ^ v) < 16 := ⟨(show ∀ G, G < 16 → ∀ v, v < 4 → nI G ||| (1 <<< (nI v &&& 31)) = nI (G ||| 2 ^ v) by decide +kernel) G hG v hv, (show ∀ G, G < 16 → ∀ v, v < 4 → (G ||| 2 ^ v) < 16 by decide +kernel) G hG v hv⟩
theorem lc_or4b {G v c : Nat} (hG : G < 16) (hv : v < 4) (hc : c < 4) : (G ||| 2 ^ v).testBit c = true ↔ (G.testBit c = true ∨ c = v) := (show ∀ G, G < 16 → ∀ v, v < 4 → ∀ c, c < 4 → ((G ||| 2 ^ v).testBit c = true ↔ (G.testBit c = true ∨ c = v)) by decide +kernel) G hG v hv c hc
theorem lc_xF6 {tx : Nat → Int32} {n f D d a a7 p o nb : Nat} {L : List lc_nm} {u : Int32} {z z7 : lc_S} {V : Int32} (ho : lc_sh o = (0, 1, 0)) (ht : lc_tk tx n) (hd : d ≤ 16) (h : lc_cQ tx n z a p d L u) (ha7 : a + 2 ≤ a7) (op : lc_oQ tx n z z7 a7 p d 64 V L u) (bg : fQ_begin z = fQ_begin_180 64 (nI p) z7)
    (IH : ∀ nb a p L u z, lc_cQ tx n z a p (d + 1) L u → ∃ z', lc_xB tx n f (d + 1) a p o nb L u z z' ∨ lc_xG tx n f D (d + 1) a p o nb L u z z') : ∃ z1, lc_bF tx n f d a a7 p o nb 64 L u z z1 ∨ lc_gF tx n f D d a a7 p o nb 64 L u z z1 := by
  have ho' := lc_o ho
  have hn := h.1.2.1
  have hpa := h.2.2.2.1
  have ha7n := op.2.1.2.2.1
  obtain ⟨z9, b1, b2⟩ := lc_bgC ht op (by omega)
  rw [b1] at bg
  have path1 : ∀ F, fQ_read_119 (F + 1) (-1) z = fQ_read_119 F (-1) z9 := fun F => lc_lp0 F h.2.2.2.2.1 bg
  have badp : lc_oX p d L z z9 → ∃ s, s ≤ 2 * (n - a) + 2 ∧ ∀ F, fQ_read_119 (F + s) (-1) z = fQ_read_157 z9 := fun hx => ⟨2, by omega, fun F => by rw [show F + 2 = F + 1 + 1 by omega, path1, lc_lpB F hx.2.1]⟩
  have pre : ∀ y i0 G, lc_acA tx n y o a7 i0 nb L G u → ∃ y1, lc_kp4 y y1 ∧ lcI y1 4 2 = nI (lc_nx tx n a7) ∧ ∀ rc, fR_readForm rc 64 (nI (d + 1)) y = if lc_ig (lc_sg tx n a7) = 0 then fR_readCall_21 rc (nI (d + 1)) (-1) y1 else lc_bnd (fR_readNumber (lc_sg tx n a7) y1) (fun r14 z14 => fR_readCall_21 rc (nI (d + 1)) r14 z14) := fun y i0 G hy => by
    obtain ⟨y1, e1, e2, e3⟩ := lc_nsA hy.1 hy.2.2.1 ha7n
    exact ⟨y1, e3, e2, fun rc => by rw [lc_rf6, fR_readCall, lc_bnd_eq e1, lc_bnd_eq (lc_igA _ y1)]⟩
  have fail : ∀ rc (x : Int32) (y1 : lc_S), (x = -1 ∨ ∃ j, 4 ≤ j ∧ j < 10000 ∧ x = nI j) → fR_readCall_21 rc (nI (d + 1)) x y1 = some (-1, y1) := fun rc x y1 hx => by
    rw [fR_readCall_21, lc_bnd_eq (lc_ipn0 hx), if_pos rfl]
  rcases b2 with ⟨hg, hx⟩ | ⟨hg, ⟨hx, hc⟩ | ⟨v, a9, v4, ha9, oq, hc⟩⟩
  · refine ⟨z9, Or.inl ⟨hx, badp hx, fun y i0 G hy hi hG => ?_⟩⟩
    obtain ⟨y1, e1, e2, e3⟩ := pre y i0 G hy
    exact ⟨y1, by rw [e3, if_pos hg, fail _ _ _ (Or.inl rfl)], e1.y⟩
  · refine ⟨z9, Or.inl ⟨hx, badp hx, fun y i0 G hy hi hG => ?_⟩⟩
    obtain ⟨y1, e1, e2, e3⟩ := pre y i0 G hy
    obtain ⟨y2, x, g1, g2, g3⟩ := hc y1 (lc_txA4 e1 hy.1) (by rw [e2, lc_nx_lt (lc_ig_lt hg)])
    exact ⟨y2, by rw [e3, if_neg hg, lc_bnd_eq g3, fail _ _ _ g2], (e1.tr g1).y⟩
  · obtain ⟨k7, c7, o1, o2, o3, o4⟩ := id oq
    have ha9n := c7.2.2.1
    have cls : ∀ y i0 G, lc_acA tx n y o a7 i0 nb L G u → lc_clQ z p G → ∃ y3 G3, lc_ky o i0 nb L.length y y3 ∧ lc_acA tx n y3 o a9 i0 nb L G3 u ∧ lc_clQ z9 (p + 1) G3 ∧ ∀ rc, fR_readForm rc 64 (nI (d + 1)) y = lc_bnd (fR_readOne rc 64 (nI (d + 1)) y3) (fun r50 z50 => lc_bnr (lcR z50 4 3) (fun q56 => lc_chk (lc_sh q56 = (0, 1, 0)) (lc_bnd (fP_annotate q56 r50 (nI v) (-1) z50) (fun r63 z63 => some (r63, z63))))) := fun y i0 G hy hG => by
      obtain ⟨y1, e1, e2, e3⟩ := pre y i0 G hy
      obtain ⟨y2, g1, g2, g3⟩ := hc y1 (lc_txA4 e1 hy.1) (by rw [e2, lc_nx_lt (lc_ig_lt hg)])
      have hy2 := hy.k4 ho (e1.tr g1) g2 (by omega)
      obtain ⟨G1, G2⟩ := lc_or4 hy2.2.2.2.2.2.2.2.2.2.2.2.1 v4
      obtain ⟨y3, ey3⟩ : ∃ x, x = lcUI y2 o 1 (nI (G ||| 2 ^ v)) := ⟨_, rfl⟩
      have k3 : lc_ky o i0 nb L.length y2 y3 := by rw [ey3]; exact ⟨fun c k a1 a2 a3 a4 a5 => by rw [lcI_UI, if_neg (by omega)], fun _ _ => rfl, fun _ _ => rfl, lc_n8_eq (by rw [lcI_UI, if_neg (by omega)])⟩
      have o3' : ∀ c k, ¬ (c = o ∧ k = 1) → lcI y3 c k = lcI y2 c k := fun c k w => by rw [ey3, lcI_UI, if_neg w]
      refine ⟨y3, G ||| 2 ^ v, (e1.tr g1).y.tr k3 (Nat.le_refl _) (Nat.le_refl _) (Nat.le_refl _), ?_, fun c hc' => ?_, fun rc => ?_⟩
      · obtain ⟨h1, h3, h4, h5, h6, h7, h8, h9, h10, h11, h12, h13, h14, h15⟩ := hy2
        exact ⟨lc_txAy ho k3 h1, by rw [ey3]; exact h3, by rw [o3' _ _ (by omega)]; exact h4, by rw [o3' _ _ (by omega)]; exact h5, h6, by rw [o3' _ _ (by omega)]; exact h7, h8, by rw [o3' _ _ (by omega)]; exact h9, lc_nAy ho k3 h10, h11, by rw [ey3, lcI_UI, if_pos ⟨rfl, rfl⟩], G2, by rw [o3' _ _ (by omega)]; exact h14, h15⟩
      · rw [lc_or4b hy2.2.2.2.2.2.2.2.2.2.2.2.1 v4 hc', hG c hc']
        constructor
        · rintro (⟨q, m1, m2, m3⟩ | m)
          · exact ⟨q, by omega, by rw [k7.1 _ _ (by omega) (by omega) (by omega) (by omega) (by omega)]; exact m2, by rw [k7.1 _ _ (by omega) (by omega) (by omega) (by omega) (by omega)]; exact m3⟩
          · exact ⟨p, by omega, o3, by rw [o4, m]⟩
        · rintro ⟨q, m1, m2, m3⟩
          rcases Nat.lt_or_ge q p with hq | hq
          · exact Or.inl ⟨q, hq, by rw [← k7.1 _ _ (by omega) (by omega) (by omega) (by omega) (by omega)]; exact m2, by rw [← k7.1 _ _ (by omega) (by omega) (by omega) (by omega) (by omega)]; exact m3⟩
          · have : q = p := by omega
            subst this
            rw [o4] at m3
            exact Or.inr ((nI_eq (by omega) (by omega)).mp m3).symm
      · rw [e3, if_neg hg, lc_bnd_eq g3, fR_readCall_21, lc_bnd_eq (lc_ipn1 v4), if_neg (by decide), lc_bnr_eq hy2.2.1, lc_chk_pos ho, hy2.2.2.2.2.2.2.2.2.2.2.1, G1, ← ey3]
    obtain ⟨z', hx⟩ := IH nb a9 (p + 1) L u z9 c7
    rcases hx with hb | hg'
    · obtain ⟨x1, x2⟩ := lc_pB (a := a) k7 (Nat.le_refl _) (by omega) (by omega) ha9n (by omega) path1 hb
      refine ⟨z', Or.inl ⟨x1, x2, fun y i0 G hy hi hG => ?_⟩⟩
      obtain ⟨y3, G3, e1, e2, e3, e4⟩ := cls y i0 G hy hG
      obtain ⟨y', w1, w2⟩ := hb.2.2 y3 i0 G3 e2 e3
      have hr : lcR y' 4 3 = some o := by rw [w2.2.2.1]; exact e2.2.1
      refine ⟨y', ?_, e1.tr w2 (Nat.le_refl _) (Nat.le_refl _) (Nat.le_refl _)⟩
      rw [e4, fR_readOne, lc_bnd_eq w1, if_pos rfl, lc_bnd_eq rfl, lc_bnr_eq hr, lc_chk_pos ho, fP_annotate, if_pos rfl]
      rfl
    · obtain ⟨zn, r1, r2, r3, r4, a', hi, B, s, u', q1, q2, q3, q4, q5, q6, q7⟩ := lc_ch hd (Nat.lt_succ_self p) c7 ⟨o1, o2, o3, o4⟩ (by omega) hg'
      have ha'n := q5.2.2.1
      refine ⟨zn, Or.inr ⟨k7.tr r1 (Nat.le_refl _) (Nat.le_refl _) (Nat.le_refl _), r2.2.1, a', hi, B, s + 1 + 1, u', by omega, by omega, by omega, by omega, by omega, q5.r, fun F => ?_, fun y i0 G hy hi0 hG => ?_⟩⟩
      · rw [show F + (s + 1 + 1) = F + (s + 1) + 1 by omega, path1, q6, if_neg (fun e => by rcases e.2 with e | e; exact absurd e (by decide); exact absurd e (by decide))]
      · obtain ⟨y3, G3, e1, e2, e3, e4⟩ := cls y i0 G hy hG
        obtain ⟨y', w1, w2⟩ := q7 y3 i0 G3 e2 e3
        rcases w2 with ⟨w3, w4⟩ | ⟨w3, i, G', w4, w5, w6, w7, w8, w9⟩
        · have hr : lcR y' 4 3 = some o := by rw [w1.2.2.1]; exact e2.2.1
          refine ⟨y', e1.tr w1 (Nat.le_refl _) (Nat.le_refl _) (Nat.le_refl _), Or.inl ⟨w3, ?_⟩⟩
          rw [e4, fR_readOne, lc_bnd_eq w4, if_pos rfl, lc_bnd_eq rfl, lc_bnr_eq hr, lc_chk_pos ho, fP_annotate, if_pos rfl]
          rfl
        · obtain ⟨y2, y5, v1, v2, v3, v4', v5, v6, v7, v8, v9, v10, v11, v12, v13⟩ := lc_aFN 64 (nI i) (-1) (-1) (nI v) (-1) ho w7.2.2.2.1 (by omega)
          refine ⟨y5, (e1.tr w1 (Nat.le_refl _) (Nat.le_refl _) (Nat.le_refl _)).tr (lc_ky.aF (nb := nb) (m := L.length) ho v11 v12 v13) (by omega) (Nat.le_refl _) (Nat.le_refl _), Or.inr ⟨w3, i + 1, G', ?_, by omega, by omega, w7.aF ho v4' (by omega) v11 v13, w8, ?_⟩⟩
          · rw [e4, fR_readOne, lc_bnd_eq w4, if_neg (lc_nIm (by omega)), lc_bnr_eq w7.2.1, lc_chk_pos ho, lc_bnd_eq v1, lc_bnd_eq rfl, lc_bnr_eq (v2.trans w7.2.1), lc_chk_pos ho, lc_bnd_eq v3]
          · refine lc_mk6 (by omega) ?_ v5 v6 v7 v4 v9 r2.2.2.1 r2.2.2.2 r3
            exact lc_Rb_eq (Nat.le_refl _) (fun b _ => v11 _ _ (by omega) (by omega)) _ _ _ _ _ _ (fun c k e1 e2 e3 e4 => v11 _ _ (by omega) (by omega)) (fun c j _ _ _ _ => rfl) w9
