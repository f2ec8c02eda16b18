/-! reading a text: signs, for class and reference -/
def lc_sk (tx : Nat → Int32) (n : Nat) : Nat → Nat → Nat
  | 0, a => a
  | f + 1, a => if a < n ∧ tx a = 32 then lc_sk tx n f (a + 1) else a
theorem lc_sk_le (tx : Nat → Int32) (n : Nat) : ∀ f a, a ≤ lc_sk tx n f a
  | 0, a => Nat.le_refl _
  | f + 1, a => by
    rw [lc_sk]
    split
    · have := lc_sk_le tx n f (a + 1); omega
    · exact Nat.le_refl _
theorem lc_sk_n (tx : Nat → Int32) (n : Nat) : ∀ f a, a ≤ n → lc_sk tx n f a ≤ n
  | 0, a, h => h
  | f + 1, a, h => by
    rw [lc_sk]
    split
    · exact lc_sk_n tx n f (a + 1) (by omega)
    · exact h
/-- the text as class and reference have it: n signs -/
def lc_txA (y : lc_S) (tx : Nat → Int32) (n : Nat) : Prop := lcR y 4 0 = some 2 ∧ lcI y 4 1 = nI n ∧ n ≤ 120 ∧ ∀ j, j < n → lcI y 2 j = tx j
def lc_txQ (z : lc_S) (tx : Nat → Int32) (n : Nat) : Prop := lcI z 80 1 = nI n ∧ n ≤ 120 ∧ ∀ j, j < n → lcI z 81 j = tx j
/-- the sign that comes, and where it stands -/
def lc_at (tx : Nat → Int32) (n a : Nat) : Nat := lc_sk tx n 121 a
def lc_sg (tx : Nat → Int32) (n a : Nat) : Int32 := if lc_at tx n a < n then tx (lc_at tx n a) else 0
theorem lc_at_le (tx : Nat → Int32) (n a : Nat) : a ≤ lc_at tx n a := lc_sk_le tx n 121 a
theorem lc_at_n {tx : Nat → Int32} {n a : Nat} (h : a ≤ n) : lc_at tx n a ≤ n := lc_sk_n tx n 121 a h
theorem lc_skA {tx : Nat → Int32} {n : Nat} : ∀ (m a f F : Nat) (y : lc_S), lc_txA y tx n → a + m = n → m < f → m ≤ F → lcI y 4 2 = nI a → fR_nextSign_0 f y = fR_nextSign_38 (lcUI y 4 2 (nI (lc_sk tx n F a))) ∨ (lc_sk tx n F a = a ∧ fR_nextSign_0 f y = fR_nextSign_38 y)
  | 0, a, f + 1, F, y, hy, ha, _, _, h2 => by
    right
    have : a = n := by omega
    subst this
    refine ⟨?_, ?_⟩
    · cases F with
      | zero => rfl
      | succ F => rw [lc_sk, if_neg (fun h => by omega)]
    · rw [fR_nextSign_0, hy.2.1, h2, if_pos (nI_le (Nat.le_refl _) (by have := hy.2.2.1; omega))]
  | m + 1, a, f + 1, F + 1, y, hy, ha, hf, hF, h2 => by
    have hn := hy.2.2.1
    have c1 : lc_in (nI a) 120 := nI_in (by omega) (by decide)
    have d1 : (nI a).toNatClampNeg = a := nI_clamp (by omega)
    have s2 : lc_sh 2 = (1, 2, 120) := by decide +kernel
    have st : fR_nextSign_0 (f + 1) y = if tx a = 32 then fR_nextSign_0 f (lcUI y 4 2 (nI (a + 1))) else fR_nextSign_38 y := by
      rw [fR_nextSign_0, hy.2.1, h2, if_neg (nI_ge (by omega) (by omega)), lc_bnr_eq hy.1, lc_chk_pos s2, lc_chk_pos c1, d1, hy.2.2.2 a (by omega), nI_1]
    rw [st, lc_sk]
    by_cases h32 : tx a = 32
    · rw [if_pos h32, if_pos ⟨by omega, h32⟩]
      have hy' : lc_txA (lcUI y 4 2 (nI (a + 1))) tx n := ⟨hy.1, by rw [lcI_UI, if_neg (by omega)]; exact hy.2.1, hn, fun j hj => by rw [lcI_UI, if_neg (by omega)]; exact hy.2.2.2 j hj⟩
      left
      rcases lc_skA m (a + 1) f F (lcUI y 4 2 (nI (a + 1))) hy' (by omega) (by omega) (by omega) (by simp only [lcI_UI, lcI_UL, lcI_UR, lcL_UI, lcL_UL, lcL_UR, lcR_UI, lcR_UL, lcR_UR, false_and, and_false, true_and, and_true, and_self, ↓reduceIte, Nat.reduceEqDiff, lc_let_eq]) with h | ⟨h1, h⟩
      · rw [h]
        congr 1
        show (fun c' k' => _, _, _) = (fun c' k' => _, _, _)
        congr 1
        funext c' k'
        show (if c' = 4 ∧ k' = 2 then _ else (if c' = 4 ∧ k' = 2 then _ else _)) = (if c' = 4 ∧ k' = 2 then _ else _)
        by_cases hc : c' = 4 ∧ k' = 2
        · rw [if_pos hc, if_pos hc]
        · rw [if_neg hc, if_neg hc, if_neg hc]
      · rw [h, h1]
    · rw [if_neg h32, if_neg (fun h => h32 h.2)]
      exact Or.inr ⟨rfl, rfl⟩
def lc_nx (tx : Nat → Int32) (n a : Nat) : Nat := if lc_at tx n a < n then lc_at tx n a + 1 else n
def lc_kp4 (y y' : lc_S) : Prop := (∀ c k, ¬ (c = 4 ∧ k = 2) → lcI y' c k = lcI y c k) ∧ (∀ c k, lcL y' c k = lcL y c k) ∧ ∀ c k, lcR y' c k = lcR y c k
def lc_kp8 (z z' : lc_S) : Prop := (∀ c k, ¬ (c = 80 ∧ k = 13) → lcI z' c k = lcI z c k) ∧ (∀ c k, lcL z' c k = lcL z c k) ∧ ∀ c k, lcR z' c k = lcR z c k
theorem lc_kp4.rf {y : lc_S} : lc_kp4 y y := ⟨fun _ _ _ => rfl, fun _ _ => rfl, fun _ _ => rfl⟩
theorem lc_kp8.rf {y : lc_S} : lc_kp8 y y := ⟨fun _ _ _ => rfl, fun _ _ => rfl, fun _ _ => rfl⟩
theorem lc_kp4.tr {x y z : lc_S} (h : lc_kp4 x y) (g : lc_kp4 y z) : lc_kp4 x z := ⟨fun c k a => (g.1 c k a).trans (h.1 c k a), fun c k => (g.2.1 c k).trans (h.2.1 c k), fun c k => (g.2.2 c k).trans (h.2.2 c k)⟩
theorem lc_kp8.tr {x y z : lc_S} (h : lc_kp8 x y) (g : lc_kp8 y z) : lc_kp8 x z := ⟨fun c k a => (g.1 c k a).trans (h.1 c k a), fun c k => (g.2.1 c k).trans (h.2.1 c k), fun c k => (g.2.2 c k).trans (h.2.2 c k)⟩
theorem lc_kp4.u {y : lc_S} (v : Int32) : lc_kp4 y (lcUI y 4 2 v) := ⟨fun c' k' a => by rw [lcI_UI, if_neg a], fun _ _ => rfl, fun _ _ => rfl⟩
theorem lc_kp8.u {y : lc_S} (v : Int32) : lc_kp8 y (lcUI y 80 13 v) := ⟨fun c' k' a => by rw [lcI_UI, if_neg a], fun _ _ => rfl, fun _ _ => rfl⟩
theorem lc_nsA {y : lc_S} {tx : Nat → Int32} {n a : Nat} (hy : lc_txA y tx n) (h2 : lcI y 4 2 = nI a) (ha : a ≤ n) : ∃ y', fR_nextSign y = some (lc_sg tx n a, y') ∧ lcI y' 4 2 = nI (lc_nx tx n a) ∧ lc_kp4 y y' := by
  have hn := hy.2.2.1
  have s2 : lc_sh 2 = (1, 2, 120) := by decide +kernel
  have hle := lc_at_n (tx := tx) ha
  have fin : ∀ y1 : lc_S, lc_kp4 y y1 → lcI y1 4 2 = nI (lc_at tx n a) → ∃ y', fR_nextSign_38 y1 = some (lc_sg tx n a, y') ∧ lcI y' 4 2 = nI (lc_nx tx n a) ∧ lc_kp4 y y' := fun y1 k1 h1 => by
    have l1 : lcI y1 4 1 = nI n := by rw [k1.1 _ _ (by omega)]; exact hy.2.1
    have r1 : lcR y1 4 0 = some 2 := by rw [k1.2.2]; exact hy.1
    by_cases hlt : lc_at tx n a < n
    · have c1 : lc_in (nI (lc_at tx n a)) 120 := nI_in (by omega) (by decide)
      have d1 : (nI (lc_at tx n a)).toNatClampNeg = lc_at tx n a := nI_clamp (by omega)
      refine ⟨lcUI y1 4 2 (nI (lc_at tx n a + 1)), ?_, ?_, k1.tr (lc_kp4.u _)⟩
      · rw [fR_nextSign_38, h1, l1, if_pos (nI_lt hlt (by omega)), nI_1, lc_bnr_eq (show lcR (lcUI y1 4 2 (nI (lc_at tx n a + 1))) 4 0 = some 2 from r1), lc_chk_pos s2]
        simp only [nI_pred, lc_chk_pos c1, d1, lcI_UI, lcI_UL, lcI_UR, lcL_UI, lcL_UL, lcL_UR, lcR_UI, lcR_UL, lcR_UR, false_and, and_false, true_and, and_true, and_self, ↓reduceIte, Nat.reduceEqDiff, lc_let_eq]
        rw [k1.1 _ _ (by omega), hy.2.2.2 _ hlt]
        unfold lc_sg
        rw [if_pos hlt]
      · unfold lc_nx; rw [if_pos hlt]; simp only [lcI_UI, lcI_UL, lcI_UR, lcL_UI, lcL_UL, lcL_UR, lcR_UI, lcR_UL, lcR_UR, false_and, and_false, true_and, and_true, and_self, ↓reduceIte, Nat.reduceEqDiff, lc_let_eq]
    · refine ⟨y1, ?_, ?_, k1⟩
      · rw [fR_nextSign_38, h1, l1, if_neg (nI_nlt (by omega) (by omega))]
        unfold lc_sg; rw [if_neg hlt]
      · unfold lc_nx; rw [if_neg hlt, h1]; congr 1; omega
  rcases lc_skA (tx := tx) (n := n) (n - a) a lc_FU 121 y hy (by omega) (by unfold lc_FU; omega) (by omega) h2 with h | ⟨h1, h⟩
  · rw [fR_nextSign, h]
    exact fin _ (lc_kp4.u _) (by simp only [lcI_UI, lcI_UL, lcI_UR, lcL_UI, lcL_UL, lcL_UR, lcR_UI, lcR_UL, lcR_UR, false_and, and_false, true_and, and_true, and_self, ↓reduceIte, Nat.reduceEqDiff, lc_let_eq]; rfl)
  · rw [fR_nextSign, h]
    exact fin y lc_kp4.rf (by rw [h2]; congr 1; exact h1.symm)
theorem lc_skQ {tx : Nat → Int32} {n : Nat} : ∀ (m a f F : Nat) (z : lc_S), lc_txQ z tx n → n ≤ a + m → m < f → m ≤ F → a < 1000 → lcI z 80 13 = nI a → ∃ z', fQ_peek_0 f z = fQ_peek_38 z' ∧ lcI z' 80 13 = nI (lc_sk tx n F a) ∧ lc_kp8 z z'
  | m, a, 0, F, z, _, _, h, _, _, _ => absurd h (by omega)
  | m, a, f + 1, F, z, hz, ha, hf, hF, ha', h2 => by
    have hn := hz.2.1
    by_cases hlt : a < n
    · obtain ⟨m, rfl⟩ : ∃ k, m = k + 1 := ⟨m - 1, by omega⟩
      obtain ⟨F, rfl⟩ : ∃ k, F = k + 1 := ⟨F - 1, by omega⟩
      have c1 : lc_in (nI a) 120 := nI_in (by omega) (by decide)
      have d1 : (nI a).toNatClampNeg = a := nI_clamp (by omega)
      have st : fQ_peek_0 (f + 1) z = if tx a = 32 then fQ_peek_0 f (lcUI z 80 13 (nI (a + 1))) else fQ_peek_38 z := by
        rw [fQ_peek_0, hz.1, h2, if_neg (nI_ge hlt (by omega)), lc_chk_pos c1, d1, hz.2.2 a hlt, nI_1]
      rw [st, lc_sk]
      by_cases h32 : tx a = 32
      · rw [if_pos h32, if_pos ⟨hlt, h32⟩]
        obtain ⟨z', e1, e2, e3⟩ := lc_skQ (tx := tx) (n := n) m (a + 1) f F (lcUI z 80 13 (nI (a + 1))) ⟨by rw [lcI_UI, if_neg (by omega)]; exact hz.1, hn, fun j hj => by rw [lcI_UI, if_neg (by omega)]; exact hz.2.2 j hj⟩ (by omega) (by omega) (by omega) (by omega) (by simp only [lcI_UI, lcI_UL, lcI_UR, lcL_UI, lcL_UL, lcL_UR, lcR_UI, lcR_UL, lcR_UR, false_and, and_false, true_and, and_true, and_self, ↓reduceIte, Nat.reduceEqDiff, lc_let_eq])
        exact ⟨z', e1, e2, (lc_kp8.u _).tr e3⟩
      · rw [if_neg h32, if_neg (fun h => h32 h.2)]
        exact ⟨z, rfl, h2, lc_kp8.rf⟩
    · refine ⟨z, ?_, ?_, lc_kp8.rf⟩
      · rw [fQ_peek_0, hz.1, h2, if_pos (nI_le (by omega) (by omega))]
      · rw [h2]; congr 1
        cases F with
        | zero => rfl
        | succ F => rw [lc_sk, if_neg (fun h => hlt h.1)]
theorem lc_pkQ {z : lc_S} {tx : Nat → Int32} {n a : Nat} (hz : lc_txQ z tx n) (h2 : lcI z 80 13 = nI a) (ha : a < 1000) : ∃ z', fQ_peek z = some (lc_sg tx n a, z') ∧ lcI z' 80 13 = nI (lc_at tx n a) ∧ lc_kp8 z z' ∧ lc_at tx n a < 1001 := by
  have hn := hz.2.1
  obtain ⟨z', e1, e2, e3⟩ := lc_skQ (tx := tx) (n := n) (n - a) a lc_FU 121 z hz (by omega) (by unfold lc_FU; omega) (by omega) ha h2
  have hb : lc_at tx n a ≤ max a n := by
    by_cases h : a ≤ n
    · have := lc_at_n (tx := tx) h; omega
    · have : lc_at tx n a = a := by unfold lc_at; rw [lc_sk, if_neg (fun h' => by omega)]
      omega
  refine ⟨z', ?_, e2, e3, by omega⟩
  rw [fQ_peek, e1, fQ_peek_38, e2, e3.1 _ _ (by omega), hz.1]
  unfold lc_sg
  have e2' : lcI z' 80 13 = nI (lc_at tx n a) := e2
  by_cases hlt : lc_at tx n a < n
  · have hlt' : lc_sk tx n 121 a < n := hlt
    rw [if_neg (nI_ge hlt' (by omega)), lc_chk_pos (nI_in (show lc_sk tx n 121 a < 120 by omega) (by decide)), nI_clamp (by omega), e3.1 _ _ (by omega), hz.2.2 _ hlt', if_pos hlt]; rfl
  · have hlt' : ¬ lc_sk tx n 121 a < n := hlt
    rw [if_pos (nI_le (by omega) (by have : lc_sk tx n 121 a = lc_at tx n a := rfl; omega)), if_neg hlt]
theorem lc_ntQ {z : lc_S} {tx : Nat → Int32} {n a : Nat} (hz : lc_txQ z tx n) (h2 : lcI z 80 13 = nI a) (ha : a < 1000) : ∃ z', fQ_next z = some (lc_sg tx n a, z') ∧ lcI z' 80 13 = nI (lc_at tx n a + 1) ∧ lc_kp8 z z' ∧ lc_at tx n a < 1001 := by
  obtain ⟨z1, e1, e2, e3, e4⟩ := lc_pkQ hz h2 ha
  refine ⟨lcUI z1 80 13 (nI (lc_at tx n a + 1)), ?_, by simp only [lcI_UI, lcI_UL, lcI_UR, lcL_UI, lcL_UL, lcL_UR, lcR_UI, lcR_UL, lcR_UR, false_and, and_false, true_and, and_true, and_self, ↓reduceIte, Nat.reduceEqDiff, lc_let_eq], e3.tr (lc_kp8.u _), e4⟩
  rw [fQ_next, lc_bnd_eq e1, e2, nI_1]
