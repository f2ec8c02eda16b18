/-! reading: the reference begins forms with letters or a number; a part is attached -/
theorem lc_oQ.mv {tx : Nat → Int32} {n : Nat} {z z7 z8 : lc_S} {a7 a8 p d : Nat} {K V : Int32} {L : List lc_nm} {u : Int32} (h : lc_oQ tx n z z7 a7 p d K V L u) (W : Int32) (k : lc_kp9 z7 z8) (hp : p < 120) (h13 : lcI z8 80 13 = nI a8) (h14 : lcI z8 80 14 = 0) (ha : a8 ≤ n) (hl : a7 ≤ a8) : lc_oQ tx n z (lcUI z8 83 p W) a8 p d K W L u := by
  obtain ⟨h1, h2, h3, h4, h5, h6⟩ := h
  have k8 : lc_kx p d L.length z7 (lcUI z8 83 p W) := (k.x (p := p) (d := d) (m := L.length)).t _ (by omega)
  have kq : lc_kx (p + 1) (d + 1) L.length z7 z8 := k.x
  obtain ⟨c1, c2, c3, c4, c5, c6, c7, c8, c9, c10, c11, c12, c13, c14⟩ := id h2
  have o : ∀ c j, c ≠ 83 → ¬ (c = 80 ∧ (j = 13 ∨ j = 14)) → lcI (lcUI z8 83 p W) c j = lcI z7 c j := fun c j q1 q2 => by rw [lcI_UI, if_neg (fun e => q1 e.1), k.1 _ _ q2]
  refine ⟨h1.tr k8 (Nat.le_refl _) (Nat.le_refl _) (Nat.le_refl _), ⟨lc_txQx k8 c1, by rw [lcI_UI, if_neg (by omega)]; exact h13, ha, by omega, by rw [lcI_UI, if_neg (by omega)]; exact h14, by rw [o _ _ (by decide) (by omega)]; exact c6, by rw [o _ _ (by decide) (by omega)]; exact c7, by rw [o _ _ (by decide) (by omega)]; exact c8, lc_nQx k8 c9, c10, c11, lc_b8_o (by decide) (lc_b8_9 k c12), by rw [o _ _ (by decide) (by omega)]; exact c13, c14⟩, by rw [o _ _ (by decide) (by omega)]; exact h3, by rw [o _ _ (by decide) (by omega)]; exact h4, by rw [o _ _ (by decide) (by omega)]; exact h5, by rw [lcI_UI, if_pos ⟨rfl, rfl⟩]⟩
theorem lc_oQ.x {tx : Nat → Int32} {n : Nat} {z z7 z8 : lc_S} {a7 p d : Nat} {K V : Int32} {L : List lc_nm} {u : Int32} (h : lc_oQ tx n z z7 a7 p d K V L u) (W : Int32) (k : lc_kp9 z7 z8) (hp : p < 120) (h14 : lcI z8 80 14 = 1) : lc_oX p d L z (lcUI z8 83 p W) := by
  obtain ⟨h1, h2, h3, h4, h5, h6⟩ := h
  have k8 : lc_kx p d L.length z7 (lcUI z8 83 p W) := (k.x (p := p) (d := d) (m := L.length)).t _ (by omega)
  exact ⟨h1.tr k8 (Nat.le_refl _) (Nat.le_refl _) (Nat.le_refl _), by rw [lcI_UI, if_neg (by omega)]; exact h14, lc_b8_o (by decide) (lc_b8_9 k h2.2.2.2.2.2.2.2.2.2.2.2.1)⟩
theorem lc_oX.t {p d : Nat} {L : List lc_nm} {z z' : lc_S} (h : lc_oX p d L z z') {c k : Nat} (v : Int32) (hc : (c = 80 ∧ k = 14 ∧ v = 1) ∨ (82 ≤ c ∧ c ≤ 87 ∧ p ≤ k ∧ k < 120)) : lc_oX p d L z (lcUI z' c k v) := by
  refine ⟨h.1.t v (by omega), ?_, lc_b8_o (by omega) h.2.2⟩
  rw [lcI_UI]
  split
  · rcases hc with g | g
    · exact g.2.2
    · omega
  · exact h.2.1
theorem lc_bg234 {x3 : Int32} {K : Int32} {z : lc_S} (h : K ≠ 64) : fQ_begin_234 K x3 z = some (-1, z) := by
  rw [fQ_begin_234, if_neg h]; rfl
theorem lc_bgP {x3 : Int32} {K : Int32} {z : lc_S} (h : K ≠ 64) (h' : K ≠ 47) : fQ_begin_180 K x3 z = some (-1, z) := by
  rw [fQ_begin_180, if_neg h', lc_bg234 h]
theorem lc_bgL {tx : Nat → Int32} {n : Nat} {z z7 : lc_S} {a7 p d : Nat} {V : Int32} {L : List lc_nm} {u : Int32} (h : lc_oQ tx n z z7 a7 p d 58 V L u) (hp : p < 120) : ∃ z9, fQ_begin_170 58 (nI p) z7 = some (-1, z9) ∧ (lc_il (lc_sg tx n a7) = 0 → lc_oX p d L z z9) ∧ (lc_il (lc_sg tx n a7) ≠ 0 → lc_oQ tx n z z9 (lc_at tx n a7 + 1) p d 58 (lc_sg tx n a7) L u) := by
  obtain ⟨c1, c2, c3, c4, c5, c6, c7, c8, c9, c10, c11, c12, c13, c14⟩ := id h.2.1
  have hn := c1.2.1
  have hat := lc_at_le tx n a7
  obtain ⟨z8, e1, e2, e3, e4⟩ := lc_ltQ c1 c2 (by omega) (Or.inl c5)
  have ci : lc_in (nI p) 600 := nI_in (by omega) (by decide)
  have di : (nI p).toNatClampNeg = p := nI_clamp (by omega)
  refine ⟨lcUI z8 83 p (lc_sg tx n a7), ?_, fun hl => ?_, fun hl => ?_⟩
  · rw [fQ_begin_170, lc_bnd_eq e1, lc_chk_pos ci, di, lc_bgP (by decide) (by decide)]
  · exact h.x _ e2 hp (by rw [e4, if_neg (fun e => e.2 hl)])
  · have hlt : lc_at tx n a7 < n := lc_sg_lt (fun e => hl (by rw [e]; decide))
    exact h.mv _ e2 hp e3 (by rw [e4, if_pos ⟨c5, hl⟩]) (by omega) (by omega)
/-- both letters of a / -/
def lc_v2 (s t : Int32) : Int32 := s + 256 * t
theorem lc_bgS {tx : Nat → Int32} {n : Nat} {z z7 : lc_S} {a7 p d : Nat} {V : Int32} {L : List lc_nm} {u : Int32} (h : lc_oQ tx n z z7 a7 p d 47 V L u) (hp : p < 120) : ∃ z9, fQ_begin_170 47 (nI p) z7 = some (-1, z9) ∧
    (lc_il (lc_sg tx n a7) = 0 ∨ lc_il (lc_sg tx n (lc_at tx n a7 + 1)) = 0 ∨ lc_sg tx n a7 = lc_sg tx n (lc_at tx n a7 + 1) → lc_oX p d L z z9) ∧ (lc_il (lc_sg tx n a7) ≠ 0 → lc_il (lc_sg tx n (lc_at tx n a7 + 1)) ≠ 0 → lc_sg tx n a7 ≠ lc_sg tx n (lc_at tx n a7 + 1) → lc_oQ tx n z z9 (lc_at tx n (lc_at tx n a7 + 1) + 1) p d 47 (lc_v2 (lc_sg tx n a7) (lc_sg tx n (lc_at tx n a7 + 1))) L u) := by
  obtain ⟨c1, c2, c3, c4, c5, c6, c7, c8, c9, c10, c11, c12, c13, c14⟩ := id h.2.1
  have hn := c1.2.1
  have hat := lc_at_le tx n a7
  have hatn := lc_at_n (tx := tx) c3
  obtain ⟨z8, e1, e2, e3, e4⟩ := lc_ltQ c1 c2 (by omega) (Or.inl c5)
  have ci : lc_in (nI p) 600 := nI_in (by omega) (by decide)
  have di : (nI p).toNatClampNeg = p := nI_clamp (by omega)
  obtain ⟨s, hs⟩ : ∃ s, s = lc_sg tx n a7 := ⟨_, rfl⟩
  obtain ⟨z9, ez9⟩ : ∃ x, x = lcUI z8 83 p s := ⟨_, rfl⟩
  have t9 : lc_txQ z9 tx n := by rw [ez9]; exact lc_txQx ((e2.x (p := p) (d := d) (m := 0)).t _ (by omega)) c1
  have z9a : lcI z9 80 13 = nI (lc_at tx n a7 + 1) := by rw [ez9, lcI_UI, if_neg (by omega)]; exact e3
  have z9b : lcI z9 80 14 = (if lcI z7 80 14 = 0 ∧ lc_il (lc_sg tx n a7) ≠ 0 then 0 else 1) := by rw [ez9, lcI_UI, if_neg (by omega)]; exact e4
  obtain ⟨z10, f1, f2, f3, f4⟩ := lc_ltQ t9 z9a (by omega) (by rw [z9b]; split; exact Or.inl rfl; exact Or.inr rfl)
  have v10 : lcI z10 83 p = s := by rw [f2.1 _ _ (by omega), ez9]; simp only [lcI_UI, lcI_UL, lcI_UR, lcL_UI, lcL_UL, lcL_UR, lcR_UI, lcR_UL, lcR_UR, false_and, and_false, true_and, and_true, and_self, ↓reduceIte, Nat.reduceEqDiff, lc_let_eq]
  have st : fQ_begin_170 47 (nI p) z7 = if lcI z10 80 14 = 0 then (if lc_sg tx n (lc_at tx n a7 + 1) = s then fQ_begin_211 47 (nI p) (lc_sg tx n (lc_at tx n a7 + 1)) z10 else fQ_begin_216 47 (nI p) (lc_sg tx n (lc_at tx n a7 + 1)) 0 z10) else fQ_begin_211 47 (nI p) (lc_sg tx n (lc_at tx n a7 + 1)) z10 := by
    rw [fQ_begin_170, lc_bnd_eq e1, lc_chk_pos ci, di, ← hs, ← ez9, fQ_begin_180, if_pos rfl, lc_bnd_eq f1]
    simp only [lc_chk_pos ci, di, v10]
  have s216 : ∀ t : Int32, (t = 0 ∨ t = 1) → fQ_begin_216 47 (nI p) (lc_sg tx n (lc_at tx n a7 + 1)) t z10 = some (-1, lcUI (lcUI z10 80 14 t) 83 p (lc_v2 s (lc_sg tx n (lc_at tx n a7 + 1)))) := fun t ht => by
    have : lcI (lcUI z10 80 14 t) 83 p = s := by rw [lcI_UI, if_neg (by omega)]; exact v10
    rw [fQ_begin_216, lc_chk_pos ht]
    simp only [lc_chk_pos ci, di, this]
    rw [lc_bg234 (by decide)]; rfl
  by_cases good : lc_il s ≠ 0 ∧ lc_il (lc_sg tx n (lc_at tx n a7 + 1)) ≠ 0 ∧ s ≠ lc_sg tx n (lc_at tx n a7 + 1)
  · obtain ⟨q1, q2, q3⟩ := good
    have hlt : lc_at tx n a7 < n := lc_sg_lt (fun e => q1 (by rw [hs, e]; decide))
    have hlt2 : lc_at tx n (lc_at tx n a7 + 1) < n := lc_sg_lt (fun e => q2 (by rw [e]; decide))
    have hat2 := lc_at_le tx n (lc_at tx n a7 + 1)
    have b9 : lcI z9 80 14 = 0 := by rw [z9b, if_pos ⟨c5, by rw [← hs]; exact q1⟩]
    have b10 : lcI z10 80 14 = 0 := by rw [f4, if_pos ⟨b9, q2⟩]
    rw [if_pos b10, if_neg (fun e => q3 e.symm), s216 0 (Or.inl rfl)] at st
    refine ⟨_, st, fun hx => ?_, fun _ _ _ => ?_⟩
    · rw [← hs] at hx
      rcases hx with hx | hx | hx
      · exact absurd hx q1
      · exact absurd hx q2
      · exact absurd hx q3
    · have m9 : lc_oQ tx n z z9 (lc_at tx n a7 + 1) p d 47 s L u := by
        rw [ez9]
        exact h.mv s e2 hp e3 (by rw [e4, if_pos ⟨c5, by rw [← hs]; exact q1⟩]) (by omega) (by omega)
      rw [← hs]
      exact m9.mv _ (f2.tr (lc_kp9.u 0)) hp (by rw [lcI_UI, if_neg (by omega)]; exact f3) (by simp only [lcI_UI, lcI_UL, lcI_UR, lcL_UI, lcL_UL, lcL_UR, lcR_UI, lcR_UL, lcR_UR, false_and, and_false, true_and, and_true, and_self, ↓reduceIte, Nat.reduceEqDiff, lc_let_eq]) (by omega) (by omega)
  · have hz8 : lc_kx p d L.length z z10 := (h.1.tr ((e2.x (p := p) (d := d) (m := L.length)).t (c := 83) (k := p) s (by omega)) (Nat.le_refl _) (Nat.le_refl _) (Nat.le_refl _)).tr (by rw [← ez9]; exact f2.x (p := p) (d := d) (m := L.length)) (Nat.le_refl _) (Nat.le_refl _) (Nat.le_refl _)
    have b10 : lc_b8 z10 := lc_b8_9 f2 (by rw [ez9]; exact lc_b8_o (by decide) (lc_b8_9 e2 c12))
    have stx : fQ_begin_170 47 (nI p) z7 = some (-1, lcUI (lcUI z10 80 14 1) 83 p (lc_v2 s (lc_sg tx n (lc_at tx n a7 + 1)))) := by
      rw [st]
      by_cases g : lcI z10 80 14 = 0
      · by_cases g2 : lc_sg tx n (lc_at tx n a7 + 1) = s
        · rw [if_pos g, if_pos g2, fQ_begin_211, s216 1 (Or.inr rfl)]
        · exfalso
          rw [f4] at g
          by_cases g3 : lcI z9 80 14 = 0 ∧ lc_il (lc_sg tx n (lc_at tx n a7 + 1)) ≠ 0
          · have g4 := g3.1
            rw [z9b] at g4
            by_cases g5 : lcI z7 80 14 = 0 ∧ lc_il (lc_sg tx n a7) ≠ 0
            · exact good ⟨by rw [hs]; exact g5.2, g3.2, fun e => g2 e.symm⟩
            · rw [if_neg g5] at g4; exact absurd g4 (by decide)
          · rw [if_neg g3] at g; exact absurd g (by decide)
      · rw [if_neg g, fQ_begin_211, s216 1 (Or.inr rfl)]
    refine ⟨_, stx, fun _ => ⟨(hz8.t _ (by omega)).t _ (by omega), by rw [lcI_UI, if_neg (by omega)]; simp only [lcI_UI, lcI_UL, lcI_UR, lcL_UI, lcL_UL, lcL_UR, lcR_UI, lcR_UL, lcR_UR, false_and, and_false, true_and, and_true, and_self, ↓reduceIte, Nat.reduceEqDiff, lc_let_eq], lc_b8_o (by decide) (lc_b8_o (by decide) b10)⟩, fun g1 g2 g3 => absurd ⟨by rw [hs]; exact g1, g2, by rw [hs]; exact g3⟩ good⟩
/-- a call and its number -/
theorem lc_bgC {tx : Nat → Int32} {n : Nat} {z z7 : lc_S} {a7 p d : Nat} {V : Int32} {L : List lc_nm} {u : Int32} (ht : lc_tk tx n) (h : lc_oQ tx n z z7 a7 p d 64 V L u) (hp : p < 120) : ∃ z9, fQ_begin_180 64 (nI p) z7 = some (-1, z9) ∧
    ((lc_ig (lc_sg tx n a7) = 0 ∧ lc_oX p d L z z9) ∨
     (lc_ig (lc_sg tx n a7) ≠ 0 ∧ ((lc_oX p d L z z9 ∧ ∀ y, lc_txA y tx n → lcI y 4 2 = nI (lc_at tx n a7 + 1) → ∃ y' v, lc_kp4 y y' ∧ (v = -1 ∨ ∃ j, 4 ≤ j ∧ j < 10000 ∧ v = nI j) ∧ fR_readNumber (lc_sg tx n a7) y = some (v, y')) ∨
      ∃ v a', v < 4 ∧ a7 < a' ∧ lc_oQ tx n z z9 a' p d 64 (nI v) L u ∧ ∀ y, lc_txA y tx n → lcI y 4 2 = nI (lc_at tx n a7 + 1) → ∃ y', lc_kp4 y y' ∧ lcI y' 4 2 = nI a' ∧ fR_readNumber (lc_sg tx n a7) y = some (nI v, y')))) := by
  obtain ⟨c1, c2, c3, c4, c5, c6, c7, c8, c9, c10, c11, c12, c13, c14⟩ := id h.2.1
  have hn := c1.2.1
  have hat := lc_at_le tx n a7
  have hatn := lc_at_n (tx := tx) c3
  have ci : lc_in (nI p) 600 := nI_in (by omega) (by decide)
  have di : (nI p).toNatClampNeg = p := nI_clamp (by omega)
  have st : ∀ x z8, fQ_number z7 = some (x, z8) → fQ_begin_180 64 (nI p) z7 = if lcI z8 80 14 = 0 then (if x ≤ 3 then some (-1, lcUI (lcUI z8 83 p x) 80 14 0) else some (-1, lcUI (lcUI z8 83 p x) 80 14 1)) else some (-1, lcUI (lcUI z8 83 p x) 80 14 1) := fun x z8 hx => by
    have q1 : lcI (lcUI z8 83 p x) 80 14 = lcI z8 80 14 := by rw [lcI_UI, if_neg (by omega)]
    have q2 : lcI (lcUI z8 83 p x) 83 p = x := by rw [lcI_UI, if_pos ⟨rfl, rfl⟩]
    have q3 : ∀ zz, fQ_begin_268 zz = some (-1, lcUI zz 80 14 1) := fun zz => by rw [fQ_begin_268, fQ_begin_273, lc_chk_pos (Or.inr rfl)]; rfl
    have q4 : ∀ zz, fQ_begin_273 0 zz = some (-1, lcUI zz 80 14 0) := fun zz => by rw [fQ_begin_273, lc_chk_pos (Or.inl rfl)]; rfl
    rw [fQ_begin_180, if_neg (by decide), fQ_begin_234, if_pos rfl, lc_bnd_eq hx]
    simp only [lc_chk_pos ci, di, q1, q2, q3, q4]
  by_cases hg : lc_ig (lc_sg tx n a7) = 0
  · obtain ⟨x, z8, g1, g2, g3⟩ := lc_numX z7 c1 c5 c2 c3 hg
    have s1 := st x z8 g1
    rw [if_neg (by rw [g3]; decide)] at s1
    exact ⟨_, s1, Or.inl ⟨hg, (h.x x g2 hp g3).t 1 (Or.inl ⟨rfl, rfl, rfl⟩)⟩⟩
  · have hlt := lc_ig_lt hg
    obtain ⟨z8, k8, q⟩ := lc_number2 ht z7 c1 c5 hlt c2 c3 hg
    rcases q with ⟨v, a', q1, q2, q3, q4, q5, q6, q7⟩ | ⟨x, q1, q2, q3⟩
    · have s1 := st (nI v) z8 q6
      rw [if_pos q5] at s1
      by_cases h3 : v ≤ 3
      · rw [if_pos (show nI v ≤ 3 from nI_le (b := 3) h3 (by decide))] at s1
        refine ⟨_, s1, Or.inr ⟨hg, Or.inr ⟨v, a', by omega, by omega, ?_, q7⟩⟩⟩
        have e : lcUI (lcUI z8 83 p (nI v)) 80 14 0 = lcUI (lcUI z8 80 14 0) 83 p (nI v) := by
          refine Prod.ext ?_ (Prod.ext rfl rfl)
          funext c k
          show lcI (lcUI (lcUI z8 83 p (nI v)) 80 14 0) c k = lcI (lcUI (lcUI z8 80 14 0) 83 p (nI v)) c k
          rw [lcI_UI, lcI_UI, lcI_UI, lcI_UI]
          by_cases g1 : c = 80 ∧ k = 14
          · rw [if_pos g1, if_neg (by omega), if_pos g1]
          · rw [if_neg g1, if_neg g1]
        rw [e]
        exact h.mv _ (k8.tr (lc_kp9.u 0)) hp (by rw [lcI_UI, if_neg (by omega)]; exact q4) (by simp only [lcI_UI, lcI_UL, lcI_UR, lcL_UI, lcL_UL, lcL_UR, lcR_UI, lcR_UL, lcR_UR, false_and, and_false, true_and, and_true, and_self, ↓reduceIte, Nat.reduceEqDiff, lc_let_eq]) q3 (by omega)
      · rw [if_neg (show ¬ nI v ≤ 3 from nI_ge (a := 3) (by omega) (by omega))] at s1
        refine ⟨_, s1, Or.inr ⟨hg, Or.inl ⟨⟨((h.1.tr (k8.x (p := p) (d := d) (m := L.length)) (Nat.le_refl _) (Nat.le_refl _) (Nat.le_refl _)).t _ (by omega)).t _ (by omega), by simp only [lcI_UI, lcI_UL, lcI_UR, lcL_UI, lcL_UL, lcL_UR, lcR_UI, lcR_UL, lcR_UR, false_and, and_false, true_and, and_true, and_self, ↓reduceIte, Nat.reduceEqDiff, lc_let_eq], lc_b8_o (by decide) (lc_b8_o (by decide) (lc_b8_9 k8 c12))⟩, fun y hy h2 => ?_⟩⟩⟩
        obtain ⟨y', w1, w2, w3⟩ := q7 y hy h2
        exact ⟨y', nI v, w1, Or.inr ⟨v, by omega, q1, rfl⟩, w3⟩
    · have s1 := st x z8 q1
      rw [if_neg (by rw [q2]; decide)] at s1
      refine ⟨_, s1, Or.inr ⟨hg, Or.inl ⟨(h.x x k8 hp q2).t 1 (Or.inl ⟨rfl, rfl, rfl⟩), fun y hy h2 => ?_⟩⟩⟩
      obtain ⟨y', w1, w2⟩ := q3 y hy h2
      exact ⟨y', -1, w1, Or.inl rfl, w2⟩
/-! the loop -/
theorem lc_lp0 {z : lc_S} (F : Nat) (hb : lcI z 80 14 = 0) {r : Int32} {z' : lc_S} (h : fQ_begin z = some (r, z')) : fQ_read_119 (F + 1) (-1) z = fQ_read_119 F r z' := by
  rw [fQ_read_119, if_pos hb, if_pos (by decide), fQ_read_137, if_neg (by decide), lc_bnd_eq h]
  rfl
theorem lc_lp1 {z : lc_S} {d q : Nat} (F : Nat) (hb : lcI z 80 14 = 0) (ho : lcI z 80 16 = nI (d + 1)) (hd : d < 100) (hq : q < 1000) {r : Int32} {z' : lc_S} (h : fQ_attach (nI q) z = some (r, z')) : fQ_read_119 (F + 1) (nI q) z = fQ_read_119 F r z' := by
  rw [fQ_read_119, if_pos hb, if_neg (nI_pos (by omega)), ho, if_neg (nI_nle (by omega) (by omega)), fQ_read_137, if_pos (nI_pos' (by omega)), lc_bnd_eq h]
  rfl
theorem lc_lpB {z : lc_S} {x : Int32} (F : Nat) (hb : lcI z 80 14 = 1) : fQ_read_119 (F + 1) x z = fQ_read_157 z := by
  rw [fQ_read_119, if_neg (by rw [hb]; decide)]
theorem lc_bdQ {z : lc_S} {m : Nat} (s b ot : Int32) (h : lcI z 80 19 = nI m) (hm : m < 64) (ho : ot = 0 ∨ ot = 1) : fQ_bind s b ot z = some ((), lcUI (lcUI (lcUI (lcUI z 94 m s) 95 m b) 96 m ot) 80 19 (nI (m + 1))) := by
  have c1 : lc_in (nI m) 64 := nI_in hm (by decide)
  have d1 : (nI m).toNatClampNeg = m := nI_clamp (by omega)
  have vn : vp_nar .boolean ot = ot := by rcases ho with g | g <;> rw [g] <;> decide
  rw [fQ_bind]
  simp only [h, d1, lc_chk_pos c1, lc_chk_pos vn, nI_1, lcI_UI, show ¬ (80 : Nat) = 94 by omega, show ¬ (80 : Nat) = 95 by omega, show ¬ (80 : Nat) = 96 by omega, false_and, ↓reduceIte]
/-- a part is attached: the part's place is noted -/
theorem lc_att {z : lc_S} {d p t q : Nat} {K : Int32} (ho : lcI z 80 16 = nI (d + 1)) (hd : d < 24) (h92 : lcI z 92 d = nI p) (hp : p < 600) (h93 : lcI z 93 d = nI t) (ht : t < 3) (hK : lcI z 82 p = K) : fQ_attach (nI q) z = if t = 0 ∧ (K = 58 ∨ K = 47) then fQ_attach_101 (nI p) K (lcUI (lcUI z (84 + t) p (nI q)) 93 d (nI (t + 1))) else fQ_attach_140 (nI p) K (lcUI (lcUI z (84 + t) p (nI q)) 93 d (nI (t + 1))) := by
  have ci : lc_in (nI p) 600 := nI_in (by omega) (by decide)
  have di : (nI p).toNatClampNeg = p := nI_clamp (by omega)
  have cd : lc_in (nI d) 24 := nI_in hd (by decide)
  have dd : (nI d).toNatClampNeg = d := nI_clamp (by omega)
  have e68 : ∀ c, 84 ≤ c → c ≤ 86 → fQ_attach_68 (nI p) (nI t) K (lcUI z c p (nI q)) = if t = 0 ∧ (K = 58 ∨ K = 47) then fQ_attach_101 (nI p) K (lcUI (lcUI z c p (nI q)) 93 d (nI (t + 1))) else fQ_attach_140 (nI p) K (lcUI (lcUI z c p (nI q)) 93 d (nI (t + 1))) := fun c h1 h2 => by
    have q1 : lcI (lcUI z c p (nI q)) 80 16 = nI (d + 1) := by rw [lcI_UI, if_neg (by omega)]; exact ho
    have q2 : lcI (lcUI z c p (nI q)) 93 d = nI t := by rw [lcI_UI, if_neg (by omega)]; exact h93
    have e0 : (nI t = 0) = (t = 0) := lc_eqn (b := 0) (by omega) (by decide)
    rw [fQ_attach_68]
    simp only [q1, nI_pred, lc_chk_pos cd, dd, q2, nI_1, e0]
    by_cases t0 : t = 0
    · by_cases k1 : K = 58
      · rw [if_pos t0, if_pos k1, if_pos ⟨t0, Or.inl k1⟩]
      · by_cases k2 : K = 47
        · rw [if_pos t0, if_neg k1, if_pos k2, if_pos ⟨t0, Or.inr k2⟩]
        · rw [if_pos t0, if_neg k1, if_neg k2, if_neg (fun g => by rcases g.2 with g | g; exact k1 g; exact k2 g)]
    · rw [if_neg t0, if_neg (fun g => t0 g.1)]
  have e0 : (nI t = 0) = (t = 0) := lc_eqn (b := 0) (by omega) (by decide)
  have e1 : (nI t = 1) = (t = 1) := lc_eqn (b := 1) (by omega) (by decide)
  rw [fQ_attach, ho]
  simp only [nI_pred, lc_chk_pos cd, dd, lc_let_eq, h92, h93, lc_chk_pos ci, di, hK, e0, e1]
  have ht3 : t = 0 ∨ t = 1 ∨ t = 2 := by omega
  rcases ht3 with g | g | g
  · rw [if_pos g, e68 84 (by omega) (by omega)]; subst g; rfl
  · rw [if_neg (by omega), if_pos g, e68 85 (by omega) (by omega)]; subst g; rfl
  · rw [if_neg (by omega), if_neg (by omega), e68 86 (by omega) (by omega)]; subst g; rfl
theorem lc_att0 {z : lc_S} {d t : Nat} {x2 : Int32} {K : Int32} (ho : lcI z 80 16 = nI (d + 1)) (hd : d < 24) (h93 : lcI z 93 d = nI t) (ht : t < lc_ar K) : fQ_attach_140 x2 K z = some (-1, z) := by
  have cd : lc_in (nI d) 24 := nI_in hd (by decide)
  have dd : (nI d).toNatClampNeg = d := nI_clamp (by omega)
  have har := lc_ar3 K
  rw [fQ_attach_140, ho]
  simp only [nI_pred, lc_chk_pos cd, dd]
  rw [lc_bnd_eq (lc_poQ K z), h93, if_neg (nI_ge ht (by omega))]
/-- the last part: names go, the bracket closes -/
theorem lc_att9 {tx : Nat → Int32} {n : Nat} {z : lc_S} {a d t m w : Nat} {x2 : Int32} {K : Int32} (hw : w = if K = 58 then 1 else if K = 47 then 2 else 0) (h1 : lc_txQ z tx n) (h2 : lcI z 80 13 = nI a) (ha : a < 1000) (hb : lcI z 80 14 = 0) (ho : lcI z 80 16 = nI (d + 1)) (hd : d < 24) (h93 : lcI z 93 d = nI t) (ht : lc_ar K ≤ t) (ht' : t < 100) (h19 : lcI z 80 19 = nI (m + w)) : ∃ z', fQ_attach_140 x2 K z = some (x2, z') ∧ lcI z' 80 13 = nI (lc_at tx n a + 1) ∧ lcI z' 80 14 = (if lc_sg tx n a = 41 then 0 else 1) ∧ lcI z' 80 16 = nI d ∧ lcI z' 80 19 = nI m ∧ (∀ c k, ¬ (c = 80 ∧ (k = 13 ∨ k = 14 ∨ k = 16 ∨ k = 19)) → lcI z' c k = lcI z c k) ∧ (∀ c k, lcL z' c k = lcL z c k) ∧ ∀ c k, lcR z' c k = lcR z c k := by
  have cd : lc_in (nI d) 24 := nI_in hd (by decide)
  have dd : (nI d).toNatClampNeg = d := nI_clamp (by omega)
  have e140 : fQ_attach_140 x2 K z = fQ_attach_189 x2 (nI (m + w)) (nI w) z := by
    rw [fQ_attach_140, ho]
    simp only [nI_pred, lc_chk_pos cd, dd]
    rw [lc_bnd_eq (lc_poQ K z), h93, if_pos (nI_le ht (by omega)), h19]
    by_cases k1 : K = 58
    · rw [if_pos k1] at hw ⊢; subst hw; rfl
    · rw [if_neg k1] at hw ⊢
      by_cases k2 : K = 47
      · rw [if_pos k2] at hw ⊢; subst hw; rfl
      · rw [if_neg k2] at hw ⊢; subst hw; rfl
  have esub : nI (m + w) - nI w = nI m := by rw [pk_sub (by omega), Nat.add_sub_cancel]
  obtain ⟨z1, ez1⟩ : ∃ x, x = lcUI z 80 19 (nI m) := ⟨_, rfl⟩
  have t1 : lc_txQ z1 tx n := by rw [ez1]; exact lc_txQx ((lc_kx.rf (p := 0) (d := 0) (m := 0)).t _ (by omega)) h1
  obtain ⟨z2, g1, g2, g3, g4⟩ := lc_ntQ t1 (by rw [ez1, lcI_UI, if_neg (by omega)]; exact h2) ha
  have b1 : lcI z1 80 14 = 0 := by rw [ez1, lcI_UI, if_neg (by omega)]; exact hb
  have he : fQ_expect 41 z1 = some ((), lcUI z2 80 14 (if lc_sg tx n a = 41 then 0 else 1)) := by
    rw [fQ_expect, if_pos b1, lc_bnd_eq g1]
    by_cases h : lc_sg tx n a = 41
    · rw [if_pos h, if_pos h, fQ_expect_21, lc_chk_pos (Or.inl rfl)]
    · rw [if_neg h, if_neg h, fQ_expect_16, fQ_expect_21, lc_chk_pos (Or.inr rfl)]
  have o16 : lcI (lcUI z2 80 14 (if lc_sg tx n a = 41 then 0 else 1)) 80 16 = nI (d + 1) := by rw [lcI_UI, if_neg (by omega), g3.1 _ _ (by omega), ez1, lcI_UI, if_neg (by omega)]; exact ho
  refine ⟨lcUI (lcUI z2 80 14 (if lc_sg tx n a = 41 then 0 else 1)) 80 16 (nI d), ?_, ?_, ?_, ?_, ?_, fun c k u => ?_, fun c k => ?_, fun c k => ?_⟩
  · rw [e140, fQ_attach_189, esub, ← ez1, lc_bnd_eq he, o16, nI_pred]
  · rw [lcI_UI, if_neg (by omega), lcI_UI, if_neg (by omega)]; exact g2
  · rw [lcI_UI, if_neg (by omega), lcI_UI, if_pos ⟨rfl, rfl⟩]
  · rw [lcI_UI, if_pos ⟨rfl, rfl⟩]
  · rw [lcI_UI, if_neg (by omega), lcI_UI, if_neg (by omega), g3.1 _ _ (by omega), ez1]; simp only [lcI_UI, lcI_UL, lcI_UR, lcL_UI, lcL_UL, lcL_UR, lcR_UI, lcR_UL, lcR_UR, false_and, and_false, true_and, and_true, and_self, ↓reduceIte, Nat.reduceEqDiff, lc_let_eq]
  · rw [lcI_UI, if_neg (by omega), lcI_UI, if_neg (by omega), g3.1 _ _ (by omega), ez1, lcI_UI, if_neg (by omega)]
  · show lcL z2 c k = _; rw [g3.2.1, ez1]; rfl
  · show lcR z2 c k = _; rw [g3.2.2, ez1]; rfl
