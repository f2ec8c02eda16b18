/-! reading forms that bind names -/
theorem lc_fNg {b : Int32} : ∀ (m f : Nat) (y : lc_S), m < f → m ≤ 33 → lcI y 4 8 = nI m → ∃ y', fR_forgetNames_0 f b y = some ((), y') ∧ (∀ c k, ¬ (c = 4 ∧ k = 8) → lcI y' c k = lcI y c k) ∧ (∀ c k, lcL y' c k = lcL y c k) ∧ (∀ c k, lcR y' c k = lcR y c k) ∧ lc_n8 y'
  | _, 0, _, h, _, _ => absurd h (by omega)
  | 0, f + 1, y, _, _, h8 => ⟨y, by rw [fR_forgetNames_0, h8, if_pos (by decide)], fun _ _ _ => rfl, fun _ _ => rfl, fun _ _ => rfl, ⟨0, by omega, h8⟩⟩
  | m + 1, f + 1, y, hf, hm, h8 => by
    have c1 : lc_in (nI m) 33 := nI_in (by omega) (by decide)
    have d1 : (nI m).toNatClampNeg = m := nI_clamp (by omega)
    by_cases hb : lcI y 6 m = b
    · rw [lc_fN1 h8 (by omega) hb]
      obtain ⟨y', e1, e2, e3, e4, e5⟩ := lc_fNg (b := b) m f (lcUI y 4 8 (nI m)) (by omega) (by omega) (by simp only [lcI_UI, lcI_UL, lcI_UR, lcL_UI, lcL_UL, lcL_UR, lcR_UI, lcR_UL, lcR_UR, false_and, and_false, true_and, and_true, and_self, ↓reduceIte, Nat.reduceEqDiff, lc_let_eq])
      exact ⟨y', e1, fun c k h => by rw [e2 c k h, lcI_UI, if_neg h], fun c k => e3 c k, fun c k => e4 c k, e5⟩
    · exact ⟨y, by rw [fR_forgetNames_0, h8, if_neg (nI_nle (by omega) (by omega)), nI_pred, lc_chk_pos c1, d1, if_neg hb], fun _ _ _ => rfl, fun _ _ => rfl, fun _ _ => rfl, ⟨m + 1, hm, h8⟩⟩
theorem lc_fNM {nb : Nat} {L : List lc_nm} (hn : nb < 1000) (hb : ∀ x ∈ L, x.2.1 < nb) : ∀ (M : List lc_nm) (f : Nat) (y : lc_S), M.length < f → (M ++ L).length ≤ 33 → (∀ x ∈ M, x.2.1 = nb) → lc_nA y (M ++ L) → lcI y 4 8 = nI (M ++ L).length → ∃ y', fR_forgetNames_0 f (nI nb) y = some ((), y') ∧ lcI y' 4 8 = nI L.length ∧ (∀ c k, ¬ (c = 4 ∧ k = 8) → lcI y' c k = lcI y c k) ∧ (∀ c k, lcL y' c k = lcL y c k) ∧ ∀ c k, lcR y' c k = lcR y c k
  | _, 0, _, h, _, _, _, _ => absurd h (by omega)
  | [], f + 1, y, _, hl, _, hA, h8 => ⟨y, lc_fN0 h8 hl hA hb hn, h8, fun _ _ _ => rfl, fun _ _ => rfl, fun _ _ => rfl⟩
  | x :: xs, f + 1, y, hf, hl, hM, hA, h8 => by
    have hl' : (xs ++ L).length < 33 := by have : (x :: xs ++ L).length = (xs ++ L).length + 1 := rfl; omega
    have hf' : xs.length < f := by have : (x :: xs).length = xs.length + 1 := rfl; omega
    have h6 : lcI y 6 (xs ++ L).length = nI nb := by rw [← hM x List.mem_cons_self]; exact hA.2.1
    rw [lc_fN1 (m := (xs ++ L).length) h8 hl' h6]
    have hA' : lc_nA (lcUI y 4 8 (nI (xs ++ L).length)) (xs ++ L) := lc_nA_eq _ (fun c k u v w => by rw [lcI_UI, if_neg (by omega)]) hA.2.2.2
    obtain ⟨y', e1, e2, e3, e4, e5⟩ := lc_fNM hn hb xs f (lcUI y 4 8 (nI (xs ++ L).length)) hf' (by omega) (fun w hw => hM w (List.mem_cons_of_mem _ hw)) hA' (by simp only [lcI_UI, lcI_UL, lcI_UR, lcL_UI, lcL_UL, lcL_UR, lcR_UI, lcR_UL, lcR_UR, false_and, and_false, true_and, and_true, and_self, ↓reduceIte, Nat.reduceEqDiff, lc_let_eq])
    exact ⟨y', e1, e2, fun c k h => by rw [e3 c k h, lcI_UI, if_neg h], fun c k => e4 c k, fun c k => e5 c k⟩
theorem lc_nA_app {y : lc_S} {L : List lc_nm} : ∀ M : List lc_nm, lc_nA y (M ++ L) → lc_nA y L
  | [], h => h
  | _ :: xs, h => lc_nA_app xs h.2.2.2
theorem lc_nQ_app {y : lc_S} {L : List lc_nm} : ∀ M : List lc_nm, lc_nQ y (M ++ L) → lc_nQ y L
  | [], h => h
  | _ :: xs, h => lc_nQ_app xs h.2.2.2.2
theorem lc_xFb {tx : Nat → Int32} {n f D d a a7 a9 p o nb w : Nat} {L : List lc_nm} {u : Int32} {z z9 : lc_S} {K V : Int32} (M : Nat → List lc_nm) (nmF : Int32 → lc_S → Option (Unit × lc_S)) (ho : lc_sh o = (0, 1, 0)) (hd : d + D = 16) (hK : K = 58 ∨ K = 47) (hw : lc_wdt K = w) (har : lc_ar K = 2) (hw2 : w ≤ 2) (hMl : ∀ b, (M b).length = w) (hMb : ∀ b, ∀ x ∈ M b, x.2.1 = b)
    (h : lc_cQ tx n z a p d L u) (ha9 : a + 3 ≤ a9) (op : lc_oQ tx n z z9 a9 p d K V L u) (bg : fQ_begin z = some (-1, z9))
    (hQ : ∀ zn a' hi u' b, lc_cQ tx n zn a' hi (d + 1) L u' → lc_fo zn p d 1 K V → p < hi → ∃ zb, fQ_attach_101 (nI p) K zn = some (-1, zb) ∧ (∀ c q, ¬ (c = 80 ∧ q = 19) → ¬ (94 ≤ c ∧ c ≤ 96 ∧ L.length ≤ q) → lcI zb c q = lcI zn c q) ∧ (∀ c k, lcL zb c k = lcL zn c k) ∧ (∀ c k, lcR zb c k = lcR zn c k) ∧ lc_cQ tx n zb a' hi (d + 1) (M b ++ L) u')
    (hA : ∀ y i0 G, lc_acA tx n y o a7 i0 nb L G u → ∃ y1, lc_kp4 y y1 ∧ lc_acA tx n y1 o a9 i0 nb L G u ∧ ∀ rc, fR_readForm rc K (nI (d + 1)) y = lc_bnd (rc (nI (d + 1)) y1) (fun r16 z16 => if r16 = -1 then some (-1, z16) else lc_bnr (lcR z16 4 3) (fun q30 => lc_chk (lc_sh q30 = (0, 1, 0)) (lc_bnd (fP_addBinder q30 r16 z16) (fun r34 z34 => if r34 = -1 then some (-1, z34) else lc_bnd (nmF r34 z34) (fun _ z52 => fR_readBound rc K r16 r34 (nI (d + 1)) z52))))))
    (hN : ∀ y b, lcI y 4 8 = nI L.length → L.length + w ≤ 33 → lc_nA y L → ∃ y', nmF (nI b) y = some ((), y') ∧ lcI y' 4 8 = nI (L.length + w) ∧ lc_nA y' (M b ++ L) ∧ (∀ c k, ¬ (c = 4 ∧ k = 8) → ¬ (5 ≤ c ∧ c ≤ 7 ∧ L.length ≤ k) → lcI y' c k = lcI y c k) ∧ (∀ c k, lcL y' c k = lcL y c k) ∧ ∀ c k, lcR y' c k = lcR y c k)
    (hmk : ∀ (y z : lc_S) (nb' lo e h1 a2 h2 b : Nat), a2 + 1 < 120 → lc_Rb y z o 0 nb' D lo e (p + 1) h1 (lc_ev L) → lc_Rb y z o 0 nb' D (e + 1) a2 h1 h2 (lc_ev (M b ++ L)) → b < nb' → (∀ x ∈ L, x.2.1 < b) → lcI y (o + 2) (a2 + 1) = K → lcI y (o + 3) (a2 + 1) = nI e → lcI y (o + 4) (a2 + 1) = nI a2 → lcI y (o + 7) (a2 + 1) = nI b → lcI y (o + 8) b = nI e → lcI z 82 p = K → lcI z 84 p = nI (p + 1) → lcI z 85 p = nI h1 → lc_Rb y z o 0 nb' (D + 1) lo (a2 + 1) p h2 (lc_ev L))
    (IH : ∀ nb a p L u z, lc_cQ tx n z a p (d + 1) L u → ∃ z', lc_xB tx n f (d + 1) a p o nb L u z z' ∨ lc_xG tx n f D (d + 1) a p o nb L u z z') : ∃ z1, lc_bF tx n f d a a7 p o nb K L u z z1 ∨ lc_gF tx n f D d a a7 p o nb K L u z z1 := by
  have ho' := lc_o ho
  have hd16 : d ≤ 16 := by omega
  obtain ⟨k7, c7, o1, o2, o3, o4⟩ := id op
  have hn := h.1.2.1
  have hpa := h.2.2.2.1
  have hLl := h.2.2.2.2.2.2.2.2.2.2.1
  have ha9n := c7.2.2.1
  have n64 : K ≠ 64 := by rcases hK with e | e <;> rw [e] <;> decide
  have path1 : ∀ F, fQ_read_119 (F + 1) (-1) z = fQ_read_119 F (-1) z9 := fun F => lc_lp0 F h.2.2.2.2.1 bg
  obtain ⟨z', hx⟩ := IH nb a9 (p + 1) L u z9 c7
  rcases hx with hb | hg
  · obtain ⟨x1, x2⟩ := lc_pB (a := a) k7 (Nat.le_refl _) (by omega) (by omega) ha9n (by omega) path1 hb
    refine ⟨z', Or.inl ⟨x1, x2, fun y i0 G hy hi hG => ?_⟩⟩
    obtain ⟨y1, e1, e2, e3⟩ := hA y i0 G hy
    obtain ⟨y', w1, w2⟩ := hb.2.2 y1 i0 G e2 (lc_op_cl op n64 hG)
    exact ⟨y', by rw [e3, lc_bnd_eq w1, if_pos rfl], e1.y.tr w2 (Nat.le_refl _) (Nat.le_refl _) (Nat.le_refl _)⟩
  · obtain ⟨zn, r1, r2, r3, r4, a', hi, B, s, u', q1, q2, q3, q4, q5, q6, q7⟩ := lc_ch hd16 (Nat.lt_succ_self p) c7 ⟨o1, o2, o3, o4⟩ (by omega) hg
    have ha'n := q5.2.2.1
    obtain ⟨b, hbb⟩ : ∃ b, b = nb + B := ⟨_, rfl⟩
    obtain ⟨zb, s1, s2, s3, s4, s5⟩ := hQ zn a' hi u' b q5 r2 (by omega)
    have hMlen : (M b ++ L).length = L.length + w := by rw [List.length_append, hMl]; omega
    have kb : lc_kx p d L.length zn zb := ⟨fun c k a1 a2 a3 a4 a5 => s2 c k (by omega) (by omega), s3, s4⟩
    have kn := (k7.tr r1 (Nat.le_refl _) (Nat.le_refl _) (Nat.le_refl _)).tr kb (Nat.le_refl _) (Nat.le_refl _) (Nat.le_refl _)
    have fb : lc_fo zb p d 1 K V := ⟨by rw [s2 _ _ (by omega) (by omega)]; exact r2.1, by rw [s2 _ _ (by omega) (by omega)]; exact r2.2.1, by rw [s2 _ _ (by omega) (by omega)]; exact r2.2.2.1, by rw [s2 _ _ (by omega) (by omega)]; exact r2.2.2.2⟩
    have path2 : ∀ F, fQ_read_119 (F + (s + 1 + 1)) (-1) z = fQ_read_119 F (-1) zb := fun F => by
      rw [show F + (s + 1 + 1) = F + (s + 1) + 1 by omega, path1, q6, if_pos ⟨rfl, hK⟩, lc_bnd_eq s1]
    -- the class up to the part for which the names hold
    have cls : ∀ y i0 G, lc_acA tx n y o a7 i0 nb L G u → i0 ≤ a → lc_clQ z p G → (24 < nb + B + 1 ∧ ∃ y', lc_ky o i0 nb L.length y y' ∧ fR_readForm (fR_readExpression f) K (nI (d + 1)) y = some (-1, y')) ∨ (b + 1 ≤ 24 ∧ ∃ y4 i G', lc_ky o i0 nb L.length y y4 ∧ lc_acA tx n y4 o a' (i + 1) (b + 1) (M b ++ L) G' u' ∧ i0 ≤ i ∧ i + 1 + a9 ≤ i0 + a' ∧ lc_clQ zb hi G' ∧ lcI y4 (o + 8) b = nI i ∧ (∀ x ∈ L, x.2.1 < b) ∧ lc_Rb y4 zb o 0 (b + 1) D i0 i (p + 1) hi (lc_ev L) ∧ fR_readForm (fR_readExpression f) K (nI (d + 1)) y = fR_readBound (fR_readExpression f) K (nI i) (nI b) (nI (d + 1)) y4) := fun y i0 G hy hi0 hG => by
      obtain ⟨y1, e1, e2, e3⟩ := hA y i0 G hy
      obtain ⟨y2, w1, w2⟩ := q7 y1 i0 G e2 (lc_op_cl op n64 hG)
      have k02 := e1.y.tr w1 (Nat.le_refl _) (Nat.le_refl _) (Nat.le_refl _)
      rcases w2 with ⟨w3, w4⟩ | ⟨w3, i, G', w4, w5, w6, w7, w8, w9⟩
      · exact Or.inl ⟨by omega, y2, k02, by rw [e3, lc_bnd_eq w4, if_pos rfl]⟩
      · rw [← hbb] at w3 w7 w9
        have hDpos : 1 ≤ D := by
          cases D with
          | zero => exact w9.elim
          | succ D => omega
        have hi120 := (lc_Rb_lt w9).1
        by_cases hb24 : b < 24
        · have eB := lc_aB (nI i) ho w7.2.2.2.2.2.1 hb24
          obtain ⟨y3, ey3⟩ : ∃ x, x = lcUI (lcUI y2 (o + 8) b (nI i)) o 13 (nI (b + 1)) := ⟨_, rfl⟩
          rw [← ey3] at eB
          have o3' : ∀ c k, ¬ (c = o + 8 ∧ k = b) → ¬ (c = o ∧ k = 13) → lcI y3 c k = lcI y2 c k := fun c k g1 g2 => by rw [ey3, lcI_UI, if_neg g2, lcI_UI, if_neg g1]
          have nA3 : lc_nA y3 L := lc_nA_eq L (fun c k u v w => o3' c k (by omega) (by omega)) w7.2.2.2.2.2.2.2.2.1
          obtain ⟨y4, f1, f2, f3, f4, f5, f6⟩ := hN y3 b (by rw [o3' _ _ (by omega) (by omega)]; exact w7.2.2.2.2.2.2.2.1) (by omega) nA3
          have o4' : ∀ c k, 35 ≤ c → ¬ (c = o + 8 ∧ k = b) → ¬ (c = o ∧ k = 13) → lcI y4 c k = lcI y2 c k := fun c k g0 g1 g2 => by rw [f4 c k (by omega) (by omega), o3' c k g1 g2]
          have ky24 : lc_ky o (i + 1) b L.length y2 y4 := ⟨fun c k a1 a2 a3 a4 a5 => by rw [f4 c k (by omega) (by omega), o3' c k (by omega) (by omega)], fun c k => by rw [f5, ey3]; rfl, fun c k => by rw [f6, ey3]; rfl, fun _ => ⟨L.length + w, by omega, f2⟩⟩
          refine Or.inr ⟨by omega, y4, i, G', k02.tr ky24 (by omega) (by omega) (Nat.le_refl _), ?_, w5, by omega, ?_, ?_, fun x hx => w7.2.2.2.2.2.2.2.2.2.1 x hx, ?_, ?_⟩
          · obtain ⟨h1, h3, h4, h5, h6, h7, h8, h9, h10, h11, h12, h13, h14, h15⟩ := w7
            exact ⟨lc_txAy ho ky24 h1, by rw [f6, ey3]; exact h3, by rw [f4 _ _ (by omega) (by omega), o3' _ _ (by omega) (by omega)]; exact h4, by rw [o4' _ _ (by omega) (by omega) (by omega)]; exact h5, h6, by rw [f4 _ _ (by omega) (by omega), ey3, lcI_UI, if_pos ⟨rfl, rfl⟩], by omega, by rw [hMlen]; exact f2, f3, fun x hx => by
              rcases List.mem_append.mp hx with g | g
              · have := hMb b x g; omega
              · have := h11 x g; omega, by rw [o4' _ _ (by omega) (by omega) (by omega)]; exact h12, h13, by rw [f4 _ _ (by omega) (by omega), o3' _ _ (by omega) (by omega)]; exact h14, by rw [hMlen]; omega⟩
          · exact lc_clQ_eq (fun q _ => ⟨s2 _ _ (by omega) (by omega), s2 _ _ (by omega) (by omega)⟩) w8
          · rw [f4 _ _ (by omega) (by omega), ey3, lcI_UI, if_neg (by omega), lcI_UI, if_pos ⟨rfl, rfl⟩]
          · exact lc_Rb_eq (by omega) (fun b' hb' => o4' _ _ (by omega) (by omega) (by omega)) _ _ _ _ _ _ (fun c k e1 e2 e3 e4 => o4' _ _ (by omega) (by omega) (by omega)) (fun c j e1 e2 e3 e4 => s2 _ _ (by omega) (by omega)) w9
          · rw [e3, lc_bnd_eq w4, if_neg (lc_nIm (by omega)), lc_bnr_eq w7.2.1, lc_chk_pos ho, lc_bnd_eq eB, if_neg (lc_nIm (by omega)), lc_bnd_eq f1]
        · have hb24' : b = 24 := by omega
          have eB := lc_aBx (nI i) ho (show lcI y2 o 13 = nI 24 by rw [← hb24']; exact w7.2.2.2.2.2.1)
          exact Or.inl ⟨by omega, y2, k02, by rw [e3, lc_bnd_eq w4, if_neg (lc_nIm (by omega)), lc_bnr_eq w7.2.1, lc_chk_pos ho, lc_bnd_eq eB, if_pos rfl]⟩
    have hLM : L.length ≤ (M b ++ L).length := by omega
    obtain ⟨z'2, hx2⟩ := IH (b + 1) a' hi (M b ++ L) u' zb s5
    have fail : ∀ y4 i i1 y5, lc_n8 y4 → lc_ky o i1 (b + 1) (M b ++ L).length y4 y5 → fR_readExpression f (nI (d + 1)) y4 = some (-1, y5) → ∃ y6, fR_readBound (fR_readExpression f) K i (nI b) (nI (d + 1)) y4 = some (-1, y6) ∧ lc_ky o i1 (b + 1) L.length y4 y6 := fun y4 i i1 y5 g1 g2 g3 => by
      obtain ⟨m, g4, g5⟩ := g2.2.2.2 g1
      obtain ⟨y6, j1, j2, j3, j4, j5⟩ := lc_fNg (b := nI b) m lc_FU y5 (by unfold lc_FU; omega) g4 g5
      exact ⟨y6, by rw [fR_readBound, lc_bnd_eq g3, fR_forgetNames, lc_bnd_eq j1, if_pos rfl], fun c k a1 a2 a3 a4 a5 => by rw [j2 c k (by omega), g2.1 c k a1 (by omega) a3 a4 a5], fun c k => by rw [j3, g2.2.1], fun c k => by rw [j4, g2.2.2.1], fun _ => j5⟩
    rcases hx2 with hb | hg2
    · obtain ⟨x1, x2⟩ := lc_pB (a := a) kn hLM (by omega) (by omega) ha'n (by omega) path2 hb
      refine ⟨z'2, Or.inl ⟨x1, x2, fun y i0 G hy hi0 hG => ?_⟩⟩
      rcases cls y i0 G hy hi0 hG with ⟨g1, y', g2, g3⟩ | ⟨g1, y4, i, G', g2, g3, g4, g5, g6, g7, g8, g9, g10⟩
      · exact ⟨y', g3, g2⟩
      · obtain ⟨y5, v1, v2⟩ := hb.2.2 y4 (i + 1) G' g3 g6
        obtain ⟨y6, j1, j2⟩ := fail y4 (nI i) (i + 1) y5 g3.n8 v2 v1
        exact ⟨y6, by rw [g10, j1], g2.tr j2 (by omega) (by omega) (Nat.le_refl _)⟩
    · obtain ⟨zm, r1', r2', r3', r4', a'', hi', B', s', u'', q1', q2', q3', q4', q5', q6', q7'⟩ := lc_ch hd16 (by omega) s5 fb (by omega) hg2
      have ha''n := q5'.2.2.1
      refine ⟨zm, Or.inr ⟨kn.tr r1' (Nat.le_refl _) (Nat.le_refl _) hLM, by rw [har]; exact r2'.2.1, a'', hi', B + 1 + B', s' + 1 + (s + 1 + 1), u'', by omega, by omega, by omega, by omega, by omega, ?_, fun F => ?_, fun y i0 G hy hi0 hG => ?_⟩⟩
      · obtain ⟨c1, c2, c3, c4, c5, c6, c7, c8, c9, c10, c11, c12, c13, c14⟩ := q5'
        exact ⟨c1, c2, c3, c4, c5, c6, c7, by rw [hw, ← hMlen]; exact c8, lc_nQ_app _ c9, c12, c13, c14⟩
      · rw [show F + (s' + 1 + (s + 1 + 1)) = F + (s' + 1) + (s + 1 + 1) by omega, path2, q6', if_neg (fun e => absurd e.1 (by omega))]
      · rcases cls y i0 G hy hi0 hG with ⟨g1, y', g2, g3⟩ | ⟨g1, y4, i, G', g2, g3, g4, g5, g6, g7, g8, g9, g10⟩
        · exact ⟨y', g2, Or.inl ⟨by omega, g3⟩⟩
        · obtain ⟨y5, w1', w2'⟩ := q7' y4 (i + 1) G' g3 g6
          rcases w2' with ⟨w3', w4'⟩ | ⟨w3', i', G'', w4', w5', w6', w7', w8', w9'⟩
          · obtain ⟨y6, j1, j2⟩ := fail y4 (nI i) (i + 1) y5 g3.n8 w1' w4'
            exact ⟨y6, g2.tr j2 (by omega) (by omega) (Nat.le_refl _), Or.inl ⟨by omega, by rw [g10, j1]⟩⟩
          · obtain ⟨h1, h3, h4, h5, h6, h7, h8, h9, h10, h11, h12, h13, h14, h15⟩ := id w7'
            obtain ⟨y6, j1, j2, j3, j4, j5⟩ := lc_fNM (nb := b) (L := L) (by omega) g8 (M b) lc_FU y5 (by rw [hMl]; unfold lc_FU; omega) (by omega) (hMb b) h10 h9
            have cA6 : lc_acA tx n y6 o a'' (i' + 1) (b + 1 + B') L G'' u'' := ⟨⟨by rw [j5]; exact h1.1, by rw [j3 _ _ (by omega)]; exact h1.2.1, h1.2.2.1, fun j hj => by rw [j3 _ _ (by omega)]; exact h1.2.2.2 j hj⟩, by rw [j5]; exact h3, by rw [j3 _ _ (by omega)]; exact h4, by rw [j3 _ _ (by omega)]; exact h5, h6, by rw [j3 _ _ (by omega)]; exact h7, h8, j2, lc_nA_eq L (fun c k u v w => j3 c k (by omega)) (lc_nA_app _ h10), fun x hx => by have := g8 x hx; omega, by rw [j3 _ _ (by omega)]; exact h12, h13, by rw [j3 _ _ (by omega)]; exact h14, by omega⟩
            have ky56 : lc_ky o (i + 1) (b + 1) L.length y5 y6 := ⟨fun c k a1 a2 a3 a4 a5 => j3 c k (by omega), j4, j5, fun _ => cA6.n8⟩
            have ky46 : lc_ky o (i + 1) (b + 1) L.length y4 y6 := (show lc_ky o (i + 1) (b + 1) L.length y4 y5 from ⟨fun c k a1 a2 a3 a4 a5 => w1'.1 c k a1 (by omega) a3 a4 a5, w1'.2.1, w1'.2.2.1, w1'.2.2.2⟩).tr ky56 (Nat.le_refl _) (Nat.le_refl _) (Nat.le_refl _)
            obtain ⟨y7, y8, v1, v2, v3, v4, v5, v6, v7, v8, v9, v10, v11, v12, v13⟩ := lc_aFN K (nI i) (nI i') (-1) 0 (nI b) ho cA6.2.2.2.1 (by omega)
            have hnb : nb + (B + 1 + B') = b + 1 + B' := by omega
            refine ⟨y8, (g2.tr ky46 (by omega) (by omega) (Nat.le_refl _)).tr (lc_ky.aF (nb := nb) (m := L.length) ho v11 v12 v13) (by omega) (Nat.le_refl _) (Nat.le_refl _), Or.inr ⟨by omega, i' + 1, G'', ?_, by omega, by omega, by rw [hnb]; exact cA6.aF ho v4 (by omega) v11 v13, w8', ?_⟩⟩
            · rw [g10, fR_readBound, lc_bnd_eq w4', fR_forgetNames, lc_bnd_eq j1, if_neg (lc_nIm (by omega)), lc_bnr_eq cA6.2.1, lc_bnr_eq cA6.2.1, lc_chk_pos ho, lc_bnd_eq v1, lc_chk_pos ho, lc_bnd_eq v3]
            · rw [hnb]
              refine hmk y8 zm (b + 1 + B') i0 i hi i' hi' b (by omega) ?_ ?_ (by omega) g8 v5 v6 v7 v10 ?_ r2'.2.2.1 (by rw [r4' 84 p (by omega) (by omega) (by omega) (by omega), s2 _ _ (by omega) (by omega)]; exact r3) r3'
              · exact lc_Rb_eq (by omega) (fun b' hb' => by rw [v11 _ _ (by omega) (by omega), ky46.1 _ _ (by omega) (by omega) (by omega) (by omega) (by omega)]) _ _ _ _ _ _ (fun c k e1 e2 e3 e4 => by rw [v11 _ _ (by omega) (by omega), ky46.1 _ _ (by omega) (by omega) (by omega) (by omega) (by omega)]) (fun c j e1 e2 e3 e4 => by rw [Nat.zero_add]; exact r4' c j e1 e2 e4 (by omega)) g9
              · exact lc_Rb_eq (Nat.le_refl _) (fun b' _ => by rw [v11 _ _ (by omega) (by omega), j3 _ _ (by omega)]) _ _ _ _ _ _ (fun c k e1 e2 e3 e4 => by rw [v11 _ _ (by omega) (by omega), j3 _ _ (by omega)]) (fun c j _ _ _ _ => rfl) w9'
              · rw [v11 _ _ (by omega) (by omega), ky46.1 _ _ (by omega) (by omega) (by omega) (by omega) (by omega)]; exact g7
