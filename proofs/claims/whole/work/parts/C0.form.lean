/-! reading an expression: what is claimed -/
def lc_n8 (y : lc_S) : Prop := ∃ m, m ≤ 33 ∧ lcI y 4 8 = nI m
theorem lc_n8_eq {y y' : lc_S} (h : lcI y' 4 8 = lcI y 4 8) (g : lc_n8 y) : lc_n8 y' := ⟨g.choose, g.choose_spec.1, h.trans g.choose_spec.2⟩
def lc_ky (o i0 nb m : Nat) (y y' : lc_S) : Prop := (∀ c k, ¬ (c = 4 ∧ (k = 2 ∨ k = 4 ∨ k = 8)) → ¬ (5 ≤ c ∧ c ≤ 7 ∧ m ≤ k) → ¬ (c = o ∧ (k = 1 ∨ k = 11 ∨ k = 13)) → ¬ (o + 2 ≤ c ∧ c ≤ o + 7 ∧ i0 ≤ k) → ¬ (c = o + 8 ∧ nb ≤ k) → lcI y' c k = lcI y c k) ∧ (∀ c k, lcL y' c k = lcL y c k) ∧ (∀ c k, lcR y' c k = lcR y c k) ∧ (lc_n8 y → lc_n8 y')
theorem lc_ky.rf {o i0 nb m : Nat} {y : lc_S} : lc_ky o i0 nb m y y := ⟨fun _ _ _ _ _ _ _ => rfl, fun _ _ => rfl, fun _ _ => rfl, id⟩
theorem lc_ky.tr {o i0 nb m i1 nb1 m1 : Nat} {x y z : lc_S} (h : lc_ky o i0 nb m x y) (g : lc_ky o i1 nb1 m1 y z) (hi : i0 ≤ i1) (hn : nb ≤ nb1) (hm : m ≤ m1) : lc_ky o i0 nb m x z := ⟨fun c k a1 a2 a3 a4 a5 => (g.1 c k a1 (by omega) a3 (by omega) (by omega)).trans (h.1 c k a1 a2 a3 a4 a5), fun c k => (g.2.1 c k).trans (h.2.1 c k), fun c k => (g.2.2.1 c k).trans (h.2.2.1 c k), fun q => g.2.2.2 (h.2.2.2 q)⟩
theorem lc_kp4.y {o i0 nb m : Nat} {x y : lc_S} (h : lc_kp4 x y) : lc_ky o i0 nb m x y := ⟨fun c k a1 _ _ _ _ => h.1 c k (by omega), h.2.1, h.2.2, lc_n8_eq (h.1 _ _ (by omega))⟩
theorem lc_txAy {y y' : lc_S} {tx : Nat → Int32} {n o i0 nb m : Nat} (ho : lc_sh o = (0, 1, 0)) (k : lc_ky o i0 nb m y y') (h : lc_txA y tx n) : lc_txA y' tx n := by
  have ho' := lc_o ho
  exact ⟨by rw [k.2.2.1]; exact h.1, by rw [k.1 _ _ (by omega) (by omega) (by omega) (by omega) (by omega)]; exact h.2.1, h.2.2.1, fun j hj => by rw [k.1 _ _ (by omega) (by omega) (by omega) (by omega) (by omega)]; exact h.2.2.2 j hj⟩
theorem lc_nAy {y y' : lc_S} {L : List lc_nm} {o i0 nb : Nat} (ho : lc_sh o = (0, 1, 0)) (k : lc_ky o i0 nb L.length y y') (h : lc_nA y L) : lc_nA y' L := by
  have ho' := lc_o ho
  exact lc_nA_eq L (fun c j u v w => k.1 c j (by omega) (by omega) (by omega) (by omega) (by omega)) h
/-- the class, about to read an expression: text from a on, the next expression i0, the next binder nb, the names L, callees G, u: some variable was not bound -/
def lc_acA (tx : Nat → Int32) (n : Nat) (y : lc_S) (o a i0 nb : Nat) (L : List lc_nm) (G : Nat) (u : Int32) : Prop := lc_txA y tx n ∧ lcR y 4 3 = some o ∧ lcI y 4 2 = nI a ∧ lcI y o 11 = nI i0 ∧ i0 ≤ a ∧ lcI y o 13 = nI nb ∧ nb ≤ 24 ∧ lcI y 4 8 = nI L.length ∧ lc_nA y L ∧ (∀ x ∈ L, x.2.1 < nb) ∧ lcI y o 1 = nI G ∧ G < 16 ∧ lcI y 4 4 = u ∧ L.length ≤ 33
theorem lc_acA.n8 {tx : Nat → Int32} {n : Nat} {y : lc_S} {o a i0 nb : Nat} {L : List lc_nm} {G : Nat} {u : Int32} (h : lc_acA tx n y o a i0 nb L G u) : lc_n8 y := ⟨L.length, h.2.2.2.2.2.2.2.2.2.2.2.2.2, h.2.2.2.2.2.2.2.1⟩
theorem lc_acA.k4 {tx : Nat → Int32} {n : Nat} {y y' : lc_S} {o a a' i0 nb : Nat} {L : List lc_nm} {G : Nat} {u : Int32} (ho : lc_sh o = (0, 1, 0)) (h : lc_acA tx n y o a i0 nb L G u) (k : lc_kp4 y y') (h2 : lcI y' 4 2 = nI a') (ha : a ≤ a') : lc_acA tx n y' o a' i0 nb L G u := by
  have ho' := lc_o ho
  obtain ⟨h1, h3, h4, h5, h6, h7, h8, h9, h10, h11, h12, h13, h14, h15⟩ := h
  exact ⟨lc_txA4 k h1, by rw [k.2.2]; exact h3, h2, by rw [k.1 _ _ (by omega)]; exact h5, by omega, by rw [k.1 _ _ (by omega)]; exact h7, h8, by rw [k.1 _ _ (by omega)]; exact h9, lc_nAy ho (k.y (o := o) (i0 := 0) (nb := 0)) h10, h11, by rw [k.1 _ _ (by omega)]; exact h12, h13, by rw [k.1 _ _ (by omega)]; exact h14, h15⟩
def lc_clQ (z : lc_S) (p G : Nat) : Prop := ∀ c, c < 4 → (G.testBit c = true ↔ ∃ q, q < p ∧ lcI z 82 q = 64 ∧ lcI z 83 q = nI c)
theorem lc_clQ_eq {z z' : lc_S} {p G : Nat} (h : ∀ q, q < p → lcI z' 82 q = lcI z 82 q ∧ lcI z' 83 q = lcI z 83 q) (g : lc_clQ z p G) : lc_clQ z' p G := fun c hc => (g c hc).trans ⟨fun ⟨q, a, b, e⟩ => ⟨q, a, by rw [(h q a).1]; exact b, by rw [(h q a).2]; exact e⟩, fun ⟨q, a, b, e⟩ => ⟨q, a, by rw [← (h q a).1]; exact b, by rw [← (h q a).2]; exact e⟩⟩
theorem lc_clQ_1 {z z' : lc_S} {p G : Nat} (h : ∀ q, q < p → lcI z' 82 q = lcI z 82 q ∧ lcI z' 83 q = lcI z 83 q) (hK : lcI z' 82 p ≠ 64) (g : lc_clQ z p G) : lc_clQ z' (p + 1) G := fun c hc => (lc_clQ_eq h g c hc).trans ⟨fun ⟨q, a, b⟩ => ⟨q, by omega, b⟩, fun ⟨q, a, b, e⟩ => by
  rcases Nat.lt_or_ge q p with hq | hq
  · exact ⟨q, hq, b, e⟩
  · have : q = p := by omega
    subst this
    exact absurd b hK⟩
def lc_xB (tx : Nat → Int32) (n f d a p o nb : Nat) (L : List lc_nm) (u : Int32) (z z' : lc_S) : Prop := lc_oX p d L z z' ∧ (∃ s, s ≤ 2 * (n - a) + 2 ∧ ∀ F, fQ_read_119 (F + s) (-1) z = fQ_read_157 z') ∧ ∀ y i0 G, lc_acA tx n y o a i0 nb L G u → lc_clQ z p G → ∃ y', fR_readExpression f (nI d) y = some (-1, y') ∧ lc_ky o i0 nb L.length y y'
def lc_xG (tx : Nat → Int32) (n f D d a p o nb : Nat) (L : List lc_nm) (u : Int32) (z z' : lc_S) : Prop := lc_kx p d L.length z z' ∧ ∃ a' hi B s u', a + 5 * B + 1 ≤ a' ∧ p < hi ∧ hi + a ≤ p + a' ∧ s ≤ 2 * (a' - a) ∧ lc_cQ tx n z' a' hi d L u' ∧ (∀ F, fQ_read_119 (F + s) (-1) z = fQ_read_119 F (nI p) z') ∧
  ∀ y i0 G, lc_acA tx n y o a i0 nb L G u → lc_clQ z p G → ∃ y', lc_ky o i0 nb L.length y y' ∧ ((24 < nb + B ∧ fR_readExpression f (nI d) y = some (-1, y')) ∨ (nb + B ≤ 24 ∧ ∃ i G', fR_readExpression f (nI d) y = some (nI i, y') ∧ i0 ≤ i ∧ i + 1 + a ≤ i0 + a' ∧ lc_acA tx n y' o a' (i + 1) (nb + B) L G' u' ∧ lc_clQ z' hi G' ∧ lc_Rb y' z' o 0 (nb + B) D i0 i p hi (lc_ev L)))
/-- the reference ahead of a form's closing bracket -/
def lc_cR (tx : Nat → Int32) (n : Nat) (z : lc_S) (a p d w : Nat) (L : List lc_nm) (u : Int32) : Prop := lc_txQ z tx n ∧ lcI z 80 13 = nI a ∧ a ≤ n ∧ p ≤ a ∧ lcI z 80 14 = 0 ∧ lcI z 80 16 = nI (d + 1) ∧ lcI z 89 0 = nI p ∧ lcI z 80 19 = nI (L.length + w) ∧ lc_nQ z L ∧ lc_b8 z ∧ lcI z 80 15 = u ∧ (u = 0 ∨ u = 1)
def lc_wdt (K : Int32) : Nat := if K = 58 then 1 else if K = 47 then 2 else 0
/-- a form behind bracket and sign, ahead of its closing bracket -/
def lc_bF (tx : Nat → Int32) (n f d a a7 p o nb : Nat) (K : Int32) (L : List lc_nm) (u : Int32) (z z1 : lc_S) : Prop := lc_oX p d L z z1 ∧ (∃ s, s ≤ 2 * (n - a) + 2 ∧ ∀ F, fQ_read_119 (F + s) (-1) z = fQ_read_157 z1) ∧ ∀ y i0 G, lc_acA tx n y o a7 i0 nb L G u → i0 ≤ a → lc_clQ z p G → ∃ y', fR_readForm (fR_readExpression f) K (nI (d + 1)) y = some (-1, y') ∧ lc_ky o i0 nb L.length y y'
def lc_gF (tx : Nat → Int32) (n f D d a a7 p o nb : Nat) (K : Int32) (L : List lc_nm) (u : Int32) (z z1 : lc_S) : Prop := lc_kx p d L.length z z1 ∧ lcI z1 93 d = nI (lc_ar K) ∧ ∃ a1 hi B s u1, a + 5 * B ≤ a1 ∧ a < a1 ∧ p < hi ∧ hi + a ≤ p + a1 ∧ s ≤ 2 * (a1 - a) ∧ lc_cR tx n z1 a1 hi d (lc_wdt K) L u1 ∧ (∀ F, fQ_read_119 (F + s) (-1) z = lc_bnd (fQ_attach_140 (nI p) K z1) (fun r z => fQ_read_119 F r z)) ∧
  ∀ y i0 G, lc_acA tx n y o a7 i0 nb L G u → i0 ≤ a → lc_clQ z p G → ∃ y', lc_ky o i0 nb L.length y y' ∧ ((24 < nb + B ∧ fR_readForm (fR_readExpression f) K (nI (d + 1)) y = some (-1, y')) ∨ (nb + B ≤ 24 ∧ ∃ i G', fR_readForm (fR_readExpression f) K (nI (d + 1)) y = some (nI i, y') ∧ i0 ≤ i ∧ i + 1 + a ≤ i0 + a1 ∧ lc_acA tx n y' o a1 (i + 1) (nb + B) L G' u1 ∧ lc_clQ z1 hi G' ∧ lc_Rb y' z1 o 0 (nb + B) (D + 1) i0 i p hi (lc_ev L)))
theorem lc_cP {tx : Nat → Int32} {n d o a i0 nb : Nat} {y : lc_S} {L : List lc_nm} {G : Nat} {u : Int32} (hd : d ≤ 16) (ha : a ≤ n) (h : lc_acA tx n y o a i0 nb L G u) (h40 : lc_sg tx n a = 40) : ∃ y2, lc_kp4 y y2 ∧ lcI y2 4 2 = nI (lc_nx tx n (lc_at tx n a + 1)) ∧ ∀ f, fR_readExpression (f + 1) (nI d) y = lc_bnd (fR_readForm (fR_readExpression f) (lc_sg tx n (lc_at tx n a + 1)) (nI (d + 1)) y2) (fun r76 z76 => if r76 = -1 then some (-1, z76) else lc_bnd (fR_nextSign z76) (fun r86 z86 => if r86 = 41 then some (r76, z86) else some (-1, z86))) := by
  obtain ⟨y1, e1, e2, e3⟩ := lc_nsA h.1 h.2.2.1 ha
  have hlt : lc_at tx n a < n := lc_sg_lt (by rw [h40]; decide)
  rw [lc_nx_lt hlt] at e2
  obtain ⟨y2, g1, g2, g3⟩ := lc_nsA (lc_txA4 e3 h.1) e2 (by omega)
  refine ⟨y2, e3.tr g3, g2, fun f => ?_⟩
  rw [fR_readExpression, fR_readExpressionB, if_pos (show nI d ≤ 16 from nI_le (b := 16) hd (by decide)), lc_bnd_eq e1, h40, lc_bnd_eq (lc_ilA 40 y1), if_pos (by decide), lc_bnd_eq (lc_igA 40 y1), if_pos (by decide), if_pos rfl, lc_bnd_eq g1, nI_1]
  rfl
theorem lc_xK {tx : Nat → Int32} {n f D d a a7 p o nb : Nat} {L : List lc_nm} {u : Int32} {z z1 : lc_S} {K : Int32} (ho : lc_sh o = (0, 1, 0)) (hd : d ≤ 16) (h : lc_cQ tx n z a p d L u) (h40 : lc_sg tx n a = 40) (hK : K = lc_sg tx n (lc_at tx n a + 1)) (h7 : a7 = lc_nx tx n (lc_at tx n a + 1)) (hF : lc_bF tx n f d a a7 p o nb K L u z z1 ∨ lc_gF tx n f D d a a7 p o nb K L u z z1) : ∃ z', lc_xB tx n (f + 1) d a p o nb L u z z' ∨ lc_xG tx n (f + 1) (D + 1) d a p o nb L u z z' := by
  have ho' := lc_o ho
  have ha := h.2.2.1
  have hlt : lc_at tx n a < n := lc_sg_lt (by rw [h40]; decide)
  have hat := lc_at_le tx n a
  have h7n : a ≤ a7 := by
    rw [h7]; unfold lc_nx
    have := lc_at_le tx n (lc_at tx n a + 1)
    split <;> omega
  have cls : ∀ y i0 G, lc_acA tx n y o a i0 nb L G u → ∃ y2, lc_kp4 y y2 ∧ lc_acA tx n y2 o a7 i0 nb L G u ∧ i0 ≤ a ∧ fR_readExpression (f + 1) (nI d) y = lc_bnd (fR_readForm (fR_readExpression f) K (nI (d + 1)) y2) (fun r76 z76 => if r76 = -1 then some (-1, z76) else lc_bnd (fR_nextSign z76) (fun r86 z86 => if r86 = 41 then some (r76, z86) else some (-1, z86))) := fun y i0 G hy => by
    obtain ⟨y2, e1, e2, e3⟩ := lc_cP hd ha hy h40
    exact ⟨y2, e1, hy.k4 ho e1 (by rw [h7]; exact e2) h7n, hy.2.2.2.2.1, by rw [hK]; exact e3 f⟩
  rcases hF with ⟨b1, b2, b3⟩ | ⟨g1, g2, a1, hi, B, s, u1, q1, q2, q3, q4, q5, q6, q7, q8⟩
  · refine ⟨z1, Or.inl ⟨b1, b2, fun y i0 G hy hG => ?_⟩⟩
    obtain ⟨y2, e1, e2, e3, e4⟩ := cls y i0 G hy
    obtain ⟨y', w1, w2⟩ := b3 y2 i0 G e2 e3 hG
    exact ⟨y', by rw [e4, lc_bnd_eq w1, if_pos rfl], e1.y.tr w2 (Nat.le_refl _) (Nat.le_refl _) (Nat.le_refl _)⟩
  · obtain ⟨r1, r2, r3, r4, r5, r6, r7, r8, r9, r10, r11, r12⟩ := id q6
    have hn := r1.2.1
    obtain ⟨z2, m1, m2, m3, m4, m5, m6, m7, m8⟩ := lc_att9 (m := L.length) (w := lc_wdt K) (x2 := nI p) (K := K) rfl r1 r2 (by omega) r5 r6 (by omega) g2 (Nat.le_refl _) (by have := lc_ar3 K; omega) r8
    have k12 : lc_kx p d L.length z z2 := g1.tr (p' := p) (d' := d) (m' := L.length) ⟨fun c k a1 a2 a3 a4 a5 => m6 c k (by omega), m7, m8⟩ (Nat.le_refl _) (Nat.le_refl _) (Nat.le_refl _)
    have b2 : lc_b8 z2 := lc_b8_eq (fun j => m6 _ _ (by omega)) r10
    have path : ∀ F, fQ_read_119 (F + s) (-1) z = fQ_read_119 F (nI p) z2 := fun F => by rw [q7, lc_bnd_eq m1]
    by_cases k41 : lc_sg tx n a1 = 41
    · have hlt1 : lc_at tx n a1 < n := lc_sg_lt (by rw [k41]; decide)
      have hat1 := lc_at_le tx n a1
      rw [if_pos k41] at m3
      refine ⟨z2, Or.inr ⟨k12, lc_at tx n a1 + 1, hi, B, s, u1, by omega, q3, by omega, by omega, ?_, path, fun y i0 G hy hG => ?_⟩⟩
      · exact ⟨⟨by rw [m6 _ _ (by omega)]; exact r1.1, hn, fun j hj => by rw [m6 _ _ (by omega)]; exact r1.2.2 j hj⟩, m2, by omega, by omega, m3, m4, by rw [m6 _ _ (by omega)]; exact r7, m5, lc_nQ_eq L (fun c k u v w => m6 c k (by omega)) r9, lc_ne_le h.2.2.2.2.2.2.2.2.2.1 (by omega), h.2.2.2.2.2.2.2.2.2.2.1, b2, by rw [m6 _ _ (by omega)]; exact r11, r12⟩
      · obtain ⟨y2, e1, e2, e3, e4⟩ := cls y i0 G hy
        obtain ⟨y3, w1, w2⟩ := q8 y2 i0 G e2 e3 hG
        rcases w2 with ⟨w3, w4⟩ | ⟨w3, i, G', w4, w5, w6, w7, w8, w9⟩
        · exact ⟨y3, e1.y.tr w1 (Nat.le_refl _) (Nat.le_refl _) (Nat.le_refl _), Or.inl ⟨w3, by rw [e4, lc_bnd_eq w4, if_pos rfl]⟩⟩
        · obtain ⟨y4, v1, v2, v3⟩ := lc_nsA w7.1 w7.2.2.1 (by omega)
          rw [lc_nx_lt hlt1] at v2
          have hi' := (lc_Rb_lt w9).1
          refine ⟨y4, (e1.y.tr w1 (Nat.le_refl _) (Nat.le_refl _) (Nat.le_refl _)).tr (v3.y (o := o) (i0 := i0) (nb := nb) (m := L.length)) (Nat.le_refl _) (Nat.le_refl _) (Nat.le_refl _), Or.inr ⟨w3, i, G', by rw [e4, lc_bnd_eq w4, if_neg (lc_nIm (by omega)), lc_bnd_eq v1, if_pos k41], w5, by omega, w7.k4 ho v3 v2 (by omega), lc_clQ_eq (fun q _ => ⟨m6 _ _ (by omega), m6 _ _ (by omega)⟩) w8, ?_⟩⟩
          exact lc_Rb_eq (Nat.le_refl _) (fun b _ => v3.1 _ _ (by omega)) _ _ _ _ _ _ (fun c k u v _ _ => v3.1 _ _ (by omega)) (fun c j u v _ _ => m6 _ _ (by omega)) w9
    · rw [if_neg k41] at m3
      refine ⟨z2, Or.inl ⟨⟨k12, m3, b2⟩, ⟨s + 1, by omega, fun F => ?_⟩, fun y i0 G hy hG => ?_⟩⟩
      · rw [show F + (s + 1) = F + 1 + s by omega, path, lc_lpB F m3]
      · obtain ⟨y2, e1, e2, e3, e4⟩ := cls y i0 G hy
        obtain ⟨y3, w1, w2⟩ := q8 y2 i0 G e2 e3 hG
        rcases w2 with ⟨w3, w4⟩ | ⟨w3, i, G', w4, w5, w6, w7, w8, w9⟩
        · exact ⟨y3, by rw [e4, lc_bnd_eq w4, if_pos rfl], e1.y.tr w1 (Nat.le_refl _) (Nat.le_refl _) (Nat.le_refl _)⟩
        · obtain ⟨y4, v1, v2, v3⟩ := lc_nsA w7.1 w7.2.2.1 (by omega)
          have hi' := (lc_Rb_lt w9).1
          exact ⟨y4, by rw [e4, lc_bnd_eq w4, if_neg (lc_nIm (by omega)), lc_bnd_eq v1, if_neg k41], (e1.y.tr w1 (Nat.le_refl _) (Nat.le_refl _) (Nat.le_refl _)).tr (v3.y (o := o) (i0 := i0) (nb := nb) (m := L.length)) (Nat.le_refl _) (Nat.le_refl _) (Nat.le_refl _)⟩
