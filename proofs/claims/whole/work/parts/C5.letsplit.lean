/-! reading : and / -/
theorem lc_mk4 {y z : lc_S} {o nb' D lo e p h1 a2 h2 b : Nat} {L : List lc_nm} {s : Int32} (hi : a2 + 1 < 120) (hR : lc_Rb y z o 0 nb' D lo e (p + 1) h1 (lc_ev L)) (hR2 : lc_Rb y z o 0 nb' D (e + 1) a2 h1 h2 (lc_ev ([(s, (b, 0, nI p, 0))] ++ L))) (hb : b < nb') (hL : ∀ x ∈ L, x.2.1 < b) (r2 : lcI y (o + 2) (a2 + 1) = 58) (r3 : lcI y (o + 3) (a2 + 1) = nI e) (r4 : lcI y (o + 4) (a2 + 1) = nI a2) (r7 : lcI y (o + 7) (a2 + 1) = nI b) (r8 : lcI y (o + 8) b = nI e) (z82 : lcI z 82 p = 58) (z84 : lcI z 84 p = nI (p + 1)) (z85 : lcI z 85 p = nI h1) : lc_Rb y z o 0 nb' (D + 1) lo (a2 + 1) p h2 (lc_ev L) := by
  have l := lc_Rb_lt hR
  have l2 := lc_Rb_lt hR2
  have hev : ∀ x ∈ lc_ev L, x.1 < b := fun x hx => by
    obtain ⟨w, hw, ew⟩ := List.mem_map.mp hx
    rw [← ew]; exact hL w hw
  rw [lc_Rb]
  refine ⟨hi, by omega, by omega, by omega, Or.inr (Or.inr ⟨e, h1, r3, ?_, ?_, hR, Or.inr (Or.inr ⟨a2, h2, r4, ?_, Or.inr (Or.inl ⟨r2, rfl, rfl, b, hb, hev, r7, r8, hR2⟩)⟩)⟩)⟩
  · rw [Nat.zero_add]; exact z84
  · rw [Nat.zero_add, z82, r2]
  · rw [Nat.zero_add]; exact z85
theorem lc_mk5 {y z : lc_S} {o nb' D lo e p h1 a2 h2 b : Nat} {L : List lc_nm} {s t : Int32} (hi : a2 + 1 < 120) (hR : lc_Rb y z o 0 nb' D lo e (p + 1) h1 (lc_ev L)) (hR2 : lc_Rb y z o 0 nb' D (e + 1) a2 h1 h2 (lc_ev ([(t, (b, 2, nI p, 1)), (s, (b, 1, nI p, 0))] ++ L))) (hb : b < nb') (hL : ∀ x ∈ L, x.2.1 < b) (r2 : lcI y (o + 2) (a2 + 1) = 47) (r3 : lcI y (o + 3) (a2 + 1) = nI e) (r4 : lcI y (o + 4) (a2 + 1) = nI a2) (r7 : lcI y (o + 7) (a2 + 1) = nI b) (r8 : lcI y (o + 8) b = nI e) (z82 : lcI z 82 p = 47) (z84 : lcI z 84 p = nI (p + 1)) (z85 : lcI z 85 p = nI h1) : lc_Rb y z o 0 nb' (D + 1) lo (a2 + 1) p h2 (lc_ev L) := by
  have l := lc_Rb_lt hR
  have l2 := lc_Rb_lt hR2
  have hev : ∀ x ∈ lc_ev L, x.1 < b := fun x hx => by
    obtain ⟨w, hw, ew⟩ := List.mem_map.mp hx
    rw [← ew]; exact hL w hw
  rw [lc_Rb]
  refine ⟨hi, by omega, by omega, by omega, Or.inr (Or.inr ⟨e, h1, r3, ?_, ?_, hR, Or.inr (Or.inr ⟨a2, h2, r4, ?_, Or.inr (Or.inr (Or.inl ⟨r2, rfl, rfl, b, hb, hev, r7, r8, hR2⟩))⟩)⟩)⟩
  · rw [Nat.zero_add]; exact z84
  · rw [Nat.zero_add, z82, r2]
  · rw [Nat.zero_add]; exact z85
theorem lc_aM2 {y : lc_S} {L : List lc_nm} (s : Int32) (b pt : Nat) (by' ot : Int32) (h8 : lcI y 4 8 = nI L.length) (hm : L.length < 33) (hA : lc_nA y L) : ∃ y', fR_addName s (nI b) (nI pt) y = some ((), y') ∧ lcI y' 4 8 = nI (L.length + 1) ∧ lc_nA y' ((s, (b, pt, by', ot)) :: L) ∧ (∀ c k, ¬ (c = 4 ∧ k = 8) → ¬ (5 ≤ c ∧ c ≤ 7 ∧ L.length ≤ k) → lcI y' c k = lcI y c k) ∧ (∀ c k, lcL y' c k = lcL y c k) ∧ ∀ c k, lcR y' c k = lcR y c k := by
  refine ⟨_, lc_aM s (nI b) (nI pt) h8 hm, by simp only [lcI_UI, lcI_UL, lcI_UR, lcL_UI, lcL_UL, lcL_UR, lcR_UI, lcR_UL, lcR_UR, false_and, and_false, true_and, and_true, and_self, ↓reduceIte, Nat.reduceEqDiff, lc_let_eq], ⟨?_, ?_, ?_, ?_⟩, fun c k g1 g2 => ?_, fun _ _ => rfl, fun _ _ => rfl⟩
  · rw [lcI_UI, if_neg (by omega), lcI_UI, if_neg (by omega), lcI_UI, if_neg (by omega), lcI_UI, if_pos ⟨rfl, rfl⟩]
  · rw [lcI_UI, if_neg (by omega), lcI_UI, if_neg (by omega), lcI_UI, if_pos ⟨rfl, rfl⟩]
  · rw [lcI_UI, if_neg (by omega), lcI_UI, if_pos ⟨rfl, rfl⟩]
  · exact lc_nA_eq L (fun c k u v w => by rw [lcI_UI, if_neg (by omega), lcI_UI, if_neg (by omega), lcI_UI, if_neg (by omega), lcI_UI, if_neg (by omega)]) hA
  · rw [lcI_UI, if_neg (by omega), lcI_UI, if_neg (by omega), lcI_UI, if_neg (by omega), lcI_UI, if_neg (by omega)]
theorem lc_bd2 {z : lc_S} {L : List lc_nm} (s : Int32) (b pt p : Nat) (ot : Int32) (h19 : lcI z 80 19 = nI L.length) (hm : L.length < 64) (hot : ot = 0 ∨ ot = 1) (hQ : lc_nQ z L) : ∃ z', fQ_bind s (nI p) ot z = some ((), z') ∧ lcI z' 80 19 = nI (L.length + 1) ∧ lc_nQ z' ((s, (b, pt, nI p, ot)) :: L) ∧ (∀ c k, ¬ (c = 80 ∧ k = 19) → ¬ (94 ≤ c ∧ c ≤ 96 ∧ L.length ≤ k) → lcI z' c k = lcI z c k) ∧ (∀ c k, lcL z' c k = lcL z c k) ∧ ∀ c k, lcR z' c k = lcR z c k := by
  refine ⟨_, lc_bdQ s (nI p) ot h19 hm hot, by simp only [lcI_UI, lcI_UL, lcI_UR, lcL_UI, lcL_UL, lcL_UR, lcR_UI, lcR_UL, lcR_UR, false_and, and_false, true_and, and_true, and_self, ↓reduceIte, Nat.reduceEqDiff, lc_let_eq], ⟨?_, ?_, ?_, hot, ?_⟩, fun c k g1 g2 => ?_, fun _ _ => rfl, fun _ _ => rfl⟩
  · rw [lcI_UI, if_neg (by omega), lcI_UI, if_neg (by omega), lcI_UI, if_neg (by omega), lcI_UI, if_pos ⟨rfl, rfl⟩]
  · rw [lcI_UI, if_neg (by omega), lcI_UI, if_neg (by omega), lcI_UI, if_pos ⟨rfl, rfl⟩]
  · rw [lcI_UI, if_neg (by omega), lcI_UI, if_pos ⟨rfl, rfl⟩]
  · exact lc_nQ_eq L (fun c k u v w => by rw [lcI_UI, if_neg (by omega), lcI_UI, if_neg (by omega), lcI_UI, if_neg (by omega), lcI_UI, if_neg (by omega)]) hQ
  · rw [lcI_UI, if_neg (by omega), lcI_UI, if_neg (by omega), lcI_UI, if_neg (by omega), lcI_UI, if_neg (by omega)]
/-- names pushed: the reference stays as it is -/
theorem lc_cQ.b {tx : Nat → Int32} {n : Nat} {zn zb : lc_S} {a hi d : Nat} {L L' : List lc_nm} {u : Int32} (h : lc_cQ tx n zn a hi d L u) (hf : ∀ c q, ¬ (c = 80 ∧ q = 19) → ¬ (94 ≤ c ∧ c ≤ 96 ∧ L.length ≤ q) → lcI zb c q = lcI zn c q) (h19 : lcI zb 80 19 = nI L'.length) (hQ : lc_nQ zb L') (hne : lc_ne hi L') (hl : L'.length ≤ 1 + 2 * d) : lc_cQ tx n zb a hi d L' u := by
  obtain ⟨c1, c2, c3, c4, c5, c6, c7, c8, c9, c10, c11, c12, c13, c14⟩ := h
  exact ⟨⟨by rw [hf _ _ (by omega) (by omega)]; exact c1.1, c1.2.1, fun j hj => by rw [hf _ _ (by omega) (by omega)]; exact c1.2.2 j hj⟩, by rw [hf _ _ (by omega) (by omega)]; exact c2, c3, c4, by rw [hf _ _ (by omega) (by omega)]; exact c5, by rw [hf _ _ (by omega) (by omega)]; exact c6, by rw [hf _ _ (by omega) (by omega)]; exact c7, h19, hQ, hne, hl, lc_b8_eq (fun j => hf _ _ (by omega) (by omega)) c12, by rw [hf _ _ (by omega) (by omega)]; exact c13, c14⟩
theorem lc_m256 {v : Nat} (h : v < 256) : nI v - nI v / 256 * 256 = nI v := by
  have := pk_rem (a := v) (d := 256) (by omega) (by omega) (by omega)
  rw [Nat.mod_eq_of_lt h] at this
  exact this
theorem lc_v2m {v w : Nat} (hv : v < 256) (hw : w < 256) : lc_v2 (nI v) (nI w) - lc_v2 (nI v) (nI w) / 256 * 256 = nI v ∧ lc_v2 (nI v) (nI w) / 256 = nI w := by
  have e : lc_v2 (nI v) (nI w) = nI (v + 256 * w) := by
    unfold lc_v2
    rw [show (256 : Int32) = nI 256 from rfl, pk_mul, nI_add]
  rw [e]
  have h1 := pk_rem (a := v + 256 * w) (d := 256) (by omega) (by omega) (by omega)
  have h2 := pk_div (a := v + 256 * w) (d := 256) (by omega) (by omega) (by omega)
  rw [show (v + 256 * w) % 256 = v by omega] at h1
  rw [show (v + 256 * w) / 256 = w by omega] at h2
  exact ⟨h1, h2⟩
theorem lc_xF4 {tx : Nat → Int32} {n f D d a a7 p o nb : Nat} {L : List lc_nm} {u : Int32} {z z7 : lc_S} {V : Int32} (ho : lc_sh o = (0, 1, 0)) (ht : lc_tk tx n) (hd : d + D = 16) (h : lc_cQ tx n z a p d L u) (ha7 : a + 2 ≤ a7) (op : lc_oQ tx n z z7 a7 p d 58 V L u) (bg : fQ_begin z = fQ_begin_170 58 (nI p) z7)
    (IH : ∀ nb a p L u z, lc_cQ tx n z a p (d + 1) L u → ∃ z', lc_xB tx n f (d + 1) a p o nb L u z z' ∨ lc_xG tx n f D (d + 1) a p o nb L u z z') : ∃ z1, lc_bF tx n f d a a7 p o nb 58 L u z z1 ∨ lc_gF tx n f D d a a7 p o nb 58 L u z z1 := by
  have ho' := lc_o ho
  have hn := h.1.2.1
  have hpa := h.2.2.2.1
  have hLl := h.2.2.2.2.2.2.2.2.2.2.1
  have ha7n := op.2.1.2.2.1
  obtain ⟨z9, b1, b2, b3⟩ := lc_bgL op (by omega)
  rw [b1] at bg
  obtain ⟨s, hs⟩ : ∃ s, s = lc_sg tx n a7 := ⟨_, rfl⟩
  rw [← hs] at b2 b3
  have pre : ∀ y i0 G, lc_acA tx n y o a7 i0 nb L G u → ∃ y1, lc_kp4 y y1 ∧ lcI y1 4 2 = nI (lc_nx tx n a7) ∧ fR_nextSign y = some (s, y1) := fun y i0 G hy => by
    obtain ⟨y1, e1, e2, e3⟩ := lc_nsA hy.1 hy.2.2.1 ha7n
    exact ⟨y1, e3, e2, by rw [hs]; exact e1⟩
  by_cases hl : lc_il s = 0
  · have hx := b2 hl
    refine ⟨z9, Or.inl ⟨hx, ⟨2, by omega, fun F => by rw [show F + 2 = F + 1 + 1 by omega, lc_lp0 _ h.2.2.2.2.1 bg, lc_lpB F hx.2.1]⟩, fun y i0 G hy hi hG => ?_⟩⟩
    obtain ⟨y1, e1, e2, e3⟩ := pre y i0 G hy
    exact ⟨y1, by rw [lc_rf4, fR_readLet, lc_bnd_eq e3, lc_bnd_eq (lc_ilA _ y1), if_pos hl], e1.y⟩
  · have op9 := b3 hl
    obtain ⟨-, hlt, -, v, hv, ev⟩ := lc_il_ig ht (by rw [← hs]; exact hl : lc_il (lc_sg tx n a7) ≠ 0)
    have hat := lc_at_le tx n a7
    rw [← hs] at ev
    refine lc_xFb (w := 1) (fun b => [(s, (b, 0, nI p, 0))]) (fun r z => fR_addName s r 0 z) ho hd (Or.inl rfl) (by decide) (by decide) (by omega) (fun b => rfl) (fun b x hx => by rcases List.mem_singleton.mp hx with rfl; rfl) h (by omega : a + 3 ≤ lc_at tx n a7 + 1) op9 bg ?_ ?_ ?_ (fun y z nb' lo e h1 a2 h2 b x1 x2 x3 x4 x5 x6 x7 x8 x9 x10 x11 x12 x13 => lc_mk4 x1 x2 x3 x4 x5 x6 x7 x8 x9 x10 x11 x12 x13) IH
    · intro zn a' hi u' b q5 r2 hp
      have ci : lc_in (nI p) 600 := nI_in (by omega) (by decide)
      have di : (nI p).toNatClampNeg = p := nI_clamp (by omega)
      obtain ⟨zb, g1, g2, g3, g4, g5, g6⟩ := lc_bd2 s b 0 p 0 q5.2.2.2.2.2.2.2.1 (by omega) (Or.inl rfl) q5.2.2.2.2.2.2.2.2.1
      have hc := q5.b (L' := (s, (b, 0, nI p, 0)) :: L) g4 g2 g3 (lc_ne_le (lc_ne_fresh h.2.2.2.2.2.2.2.2.2.1 (Nat.le_refl _) (by omega)) (by omega)) (by have : ((s, (b, 0, nI p, 0)) :: L : List lc_nm).length = L.length + 1 := rfl; omega)
      refine ⟨zb, ?_, g4, g5, g6, hc⟩
      rw [fQ_attach_101]
      simp only [lc_chk_pos ci, di, r2.2.2.2]
      have hq : s - s / 256 * 256 = s := by rw [ev]; exact lc_m256 hv
      rw [hq, lc_bnd_eq g1, if_neg (by decide), lc_att0 hc.2.2.2.2.2.1 (by omega) (by rw [g4 _ _ (by omega) (by omega)]; exact r2.2.1) (by decide)]
    · intro y i0 G hy
      obtain ⟨y1, e1, e2, e3⟩ := pre y i0 G hy
      rw [lc_nx_lt hlt] at e2
      refine ⟨y1, e1, hy.k4 ho e1 e2 (by omega), fun rc => ?_⟩
      rw [lc_rf4, fR_readLet, lc_bnd_eq e3, lc_bnd_eq (lc_ilA _ y1), if_neg hl]
      simp only [fR_readLet_37, ↓reduceIte, lc_bnd_ret]
    · intro y b h8 hm hA
      obtain ⟨y', e1, e2, e3, e4, e5, e6⟩ := lc_aM2 s b 0 (nI p) 0 h8 (by omega) hA
      exact ⟨y', e1, e2, e3, e4, e5, e6⟩
theorem lc_xF5 {tx : Nat → Int32} {n f D d a a7 p o nb : Nat} {L : List lc_nm} {u : Int32} {z z7 : lc_S} {V : Int32} (ho : lc_sh o = (0, 1, 0)) (ht : lc_tk tx n) (hd : d + D = 16) (h : lc_cQ tx n z a p d L u) (ha7 : a + 2 ≤ a7) (op : lc_oQ tx n z z7 a7 p d 47 V L u) (bg : fQ_begin z = fQ_begin_170 47 (nI p) z7)
    (IH : ∀ nb a p L u z, lc_cQ tx n z a p (d + 1) L u → ∃ z', lc_xB tx n f (d + 1) a p o nb L u z z' ∨ lc_xG tx n f D (d + 1) a p o nb L u z z') : ∃ z1, lc_bF tx n f d a a7 p o nb 47 L u z z1 ∨ lc_gF tx n f D d a a7 p o nb 47 L u z z1 := by
  have ho' := lc_o ho
  have hn := h.1.2.1
  have hpa := h.2.2.2.1
  have hLl := h.2.2.2.2.2.2.2.2.2.2.1
  have ha7n := op.2.1.2.2.1
  have hnx := lc_nx_n (tx := tx) ha7n
  obtain ⟨z9, b1, b2, b3⟩ := lc_bgS op (by omega)
  rw [b1] at bg
  obtain ⟨s, hs⟩ : ∃ s, s = lc_sg tx n a7 := ⟨_, rfl⟩
  obtain ⟨t, hht⟩ : ∃ t, t = lc_sg tx n (lc_at tx n a7 + 1) := ⟨_, rfl⟩
  rw [← hs, ← hht] at b2 b3
  have pre : ∀ y i0 G, lc_acA tx n y o a7 i0 nb L G u → ∃ y1 y2, lc_kp4 y y1 ∧ lc_kp4 y1 y2 ∧ lcI y2 4 2 = nI (lc_nx tx n (lc_nx tx n a7)) ∧ fR_nextSign y = some (s, y1) ∧ fR_nextSign y1 = some (lc_sg tx n (lc_nx tx n a7), y2) := fun y i0 G hy => by
    obtain ⟨y1, e1, e2, e3⟩ := lc_nsA hy.1 hy.2.2.1 ha7n
    obtain ⟨y2, g1, g2, g3⟩ := lc_nsA (lc_txA4 e3 hy.1) e2 hnx
    exact ⟨y1, y2, e3, g3, g2, by rw [hs]; exact e1, g1⟩
  have hnxl : lc_il s ≠ 0 → lc_nx tx n a7 = lc_at tx n a7 + 1 := fun hl => lc_nx_lt (lc_sg_lt (fun e => hl (by rw [hs, e]; decide)))
  by_cases good : lc_il s ≠ 0 ∧ lc_il t ≠ 0 ∧ s ≠ t
  · obtain ⟨q1, q2, q3⟩ := good
    have op9 := b3 q1 q2 q3
    obtain ⟨-, hlt, -, v, hv, ev⟩ := lc_il_ig ht (by rw [← hs]; exact q1 : lc_il (lc_sg tx n a7) ≠ 0)
    obtain ⟨-, hlt2, -, w, hw, ew⟩ := lc_il_ig ht (by rw [← hht]; exact q2 : lc_il (lc_sg tx n (lc_at tx n a7 + 1)) ≠ 0)
    have hat := lc_at_le tx n a7
    have hat2 := lc_at_le tx n (lc_at tx n a7 + 1)
    rw [← hs] at ev
    rw [← hht] at ew
    refine lc_xFb (w := 2) (fun b => [(t, (b, 2, nI p, 1)), (s, (b, 1, nI p, 0))]) (fun r z => lc_bnd (fR_addName s r 1 z) (fun _ z72 => fR_addName t r 2 z72)) ho hd (Or.inr rfl) (by decide) (by decide) (by omega) (fun b => rfl) (fun b x hx => by rcases List.mem_cons.mp hx with rfl | hx; rfl; rcases List.mem_singleton.mp hx with rfl; rfl) h (by omega : a + 3 ≤ lc_at tx n (lc_at tx n a7 + 1) + 1) op9 bg ?_ ?_ ?_ (fun y z nb' lo e h1 a2 h2 b x1 x2 x3 x4 x5 x6 x7 x8 x9 x10 x11 x12 x13 => lc_mk5 x1 x2 x3 x4 x5 x6 x7 x8 x9 x10 x11 x12 x13) IH
    · intro zn a' hi u' b q5 r2 hp
      have ci : lc_in (nI p) 600 := nI_in (by omega) (by decide)
      have di : (nI p).toNatClampNeg = p := nI_clamp (by omega)
      obtain ⟨z1, g1, g2, g3, g4, g5, g6⟩ := lc_bd2 s b 1 p 0 q5.2.2.2.2.2.2.2.1 (by omega) (Or.inl rfl) q5.2.2.2.2.2.2.2.2.1
      obtain ⟨zb, k1, k2, k3, k4, k5, k6⟩ := lc_bd2 (L := (s, (b, 1, nI p, 0)) :: L) t b 2 p 1 g2 (by have : ((s, (b, 1, nI p, 0)) :: L : List lc_nm).length = L.length + 1 := rfl; omega) (Or.inr rfl) g3
      have kk : ∀ c q, ¬ (c = 80 ∧ q = 19) → ¬ (94 ≤ c ∧ c ≤ 96 ∧ L.length ≤ q) → lcI zb c q = lcI zn c q := fun c q x1 x2 => by
        rw [k4 c q x1 (by have : ((s, (b, 1, nI p, 0)) :: L : List lc_nm).length = L.length + 1 := rfl; omega), g4 c q x1 x2]
      have hc := q5.b (L' := (t, (b, 2, nI p, 1)) :: (s, (b, 1, nI p, 0)) :: L) kk k2 k3 (lc_ne_le (lc_ne_fresh2 h.2.2.2.2.2.2.2.2.2.1 (Nat.le_refl _) (by omega)) (by omega)) (by have : ((t, (b, 2, nI p, 1)) :: (s, (b, 1, nI p, 0)) :: L : List lc_nm).length = L.length + 2 := rfl; omega)
      refine ⟨zb, ?_, kk, fun c k => by rw [k5, g5], fun c k => by rw [k6, g6], hc⟩
      obtain ⟨m1, m2⟩ := lc_v2m hv hw
      rw [← ev, ← ew] at m1 m2
      have e83 : lcI z1 83 p = lc_v2 s t := by rw [g4 _ _ (by omega) (by omega), r2.2.2.2, hs, hht]
      have r83 : lcI zn 83 p = lc_v2 s t := by rw [r2.2.2.2, hs, hht]
      rw [fQ_attach_101]
      simp only [lc_chk_pos ci, di, r83]
      rw [m1, lc_bnd_eq g1, if_pos trivial]
      simp only [e83]
      rw [m2, lc_bnd_eq k1, lc_att0 hc.2.2.2.2.2.1 (by omega) (by rw [kk _ _ (by omega) (by omega)]; exact r2.2.1) (by decide)]
    · intro y i0 G hy
      obtain ⟨y1, y2, e1, e2, e3, e4, e5⟩ := pre y i0 G hy
      rw [hnxl q1] at e3 e5
      rw [lc_nx_lt hlt2] at e3
      rw [← hht] at e5
      refine ⟨y2, e1.tr e2, hy.k4 ho (e1.tr e2) e3 (by omega), fun rc => ?_⟩
      rw [lc_rf5, fR_readSplit, lc_bnd_eq e4, lc_bnd_eq e5, lc_bnd_eq (lc_ilA _ y2), if_neg q1, lc_bnd_eq (lc_ilA _ y2), if_neg q2, if_neg q3]
      have asc : ∀ (X : Option (Unit × lc_S)) (F : Unit → lc_S → Option (Unit × lc_S)) (H : Unit → lc_S → Option (Int32 × lc_S)), lc_bnd (lc_bnd X F) H = lc_bnd X (fun r z => lc_bnd (F r z) H) := fun X F H => by
        cases X with
        | none => rfl
        | some x => rfl
      simp only [fR_readSplit_57, ↓reduceIte, lc_bnd_ret, asc]
    · intro y b h8 hm hA
      obtain ⟨y1, e1, e2, e3, e4, e5, e6⟩ := lc_aM2 s b 1 (nI p) 0 h8 (by omega) hA
      obtain ⟨y2, g1, g2, g3, g4, g5, g6⟩ := lc_aM2 (L := (s, (b, 1, nI p, 0)) :: L) t b 2 (nI p) 1 e2 (by have : ((s, (b, 1, nI p, 0)) :: L : List lc_nm).length = L.length + 1 := rfl; omega) e3
      refine ⟨y2, ?_, g2, g3, fun c k x1 x2 => by rw [g4 c k x1 (by have : ((s, (b, 1, nI p, 0)) :: L : List lc_nm).length = L.length + 1 := rfl; omega), e4 c k x1 x2], fun c k => by rw [g5, e5], fun c k => by rw [g6, e6]⟩
      exact (lc_bnd_eq e1).trans g1
  · have hx : lc_oX p d L z z9 := b2 (by
      by_cases q1 : lc_il s = 0
      · exact Or.inl q1
      · by_cases q2 : lc_il t = 0
        · exact Or.inr (Or.inl q2)
        · by_cases q3 : s = t
          · exact Or.inr (Or.inr q3)
          · exact absurd ⟨q1, q2, q3⟩ good)
    refine ⟨z9, Or.inl ⟨hx, ⟨2, by omega, fun F => by rw [show F + 2 = F + 1 + 1 by omega, lc_lp0 _ h.2.2.2.2.1 bg, lc_lpB F hx.2.1]⟩, fun y i0 G hy hi hG => ?_⟩⟩
    obtain ⟨y1, y2, e1, e2, e3, e4, e5⟩ := pre y i0 G hy
    refine ⟨y2, ?_, (e1.tr e2).y⟩
    rw [lc_rf5, fR_readSplit, lc_bnd_eq e4, lc_bnd_eq e5, lc_bnd_eq (lc_ilA _ y2)]
    by_cases q1 : lc_il s = 0
    · rw [if_pos q1]; rfl
    · rw [hnxl q1] at e5 ⊢
      rw [← hht] at e5 ⊢
      rw [if_neg q1, lc_bnd_eq (lc_ilA _ y2)]
      by_cases q2 : lc_il t = 0
      · rw [if_pos q2]; rfl
      · rw [if_neg q2]
        by_cases q3 : s = t
        · rw [if_pos q3]; rfl
        · exact absurd ⟨q1, q2, q3⟩ good
