theorem lc_cm {a b : Nat} (ha : a < 2 ^ 31) (hb : b < 2 ^ 31) : lg_cmp (lN a) (lN b) = if b < a then 1 else if a = b then 0 else -1 := by
  unfold lg_cmp
  simp only [gt_iff_lt, lN_lt hb ha, lN_eq ha hb]
def lc_qa (x : Int64) : Nat → Nat → Nat → Nat × Nat
  | 0, i, g => (i, g)
  | m + 1, i, g => if lc_by x i = 0 then (i, g) else lc_qa x m (i + 1) (if g = 0 then 0 else if lc_by x i < 32 then 0 else if 126 < lc_by x i then 0 else 1)
theorem lc_qa0 (x : Int64) : ∀ (m i : Nat), (lc_qa x m i 0).2 = 0
  | 0, _ => rfl
  | m + 1, i => by
    rw [lc_qa]
    split
    · rfl
    · rw [if_pos rfl]; exact lc_qa0 x m (i + 1)
theorem lc_rel (x : Int64) : ∀ (m i : Nat), i + m = 8 → (lc_ca x m i = 0 ∧ ((lc_qa x m i 1).1 = 0 ∨ (lc_qa x m i 1).2 = 0)) ∨ (lc_ca x m i ≠ 0 ∧ lc_qa x m i 1 = (lc_ca x m i, 1))
  | 0, i, h => by
    right
    have : i = 8 := by omega
    subst this
    exact ⟨(show (8 : Nat) ≠ 0 by decide), rfl⟩
  | m + 1, i, h => by
    rw [lc_ca, lc_qa]
    by_cases h0 : lc_by x i = 0
    · rw [if_pos h0, if_pos h0]
      by_cases hi : i = 0
      · left; exact ⟨hi, Or.inl hi⟩
      · right; exact ⟨hi, rfl⟩
    · rw [if_neg h0, if_neg h0, if_neg (show ¬ (1 : Nat) = 0 by decide)]
      by_cases h1 : lc_by x i < 32
      · rw [if_pos h1, if_pos h1]
        left; exact ⟨rfl, Or.inr (lc_qa0 x m (i + 1))⟩
      · rw [if_neg h1, if_neg h1]
        by_cases h2 : lc_by x i ≤ 126
        · rw [if_pos h2, if_neg (by omega)]
          exact lc_rel x m (i + 1) (by omega)
        · rw [if_neg h2, if_pos (by omega)]
          left; exact ⟨rfl, Or.inr (lc_qa0 x m (i + 1))⟩
theorem lc_qaQ (x : Int64) (z : lc_S) : ∀ (m i g f : Nat), i + m = 8 → m < f → g ≤ 1 → fQ_draft_10 f x (nI i) (nI g) z = fQ_draft_79 x (nI (lc_qa x m i g).1) (nI (lc_qa x m i g).2) z
  | 0, i, g, f + 1, h, _, _ => by
    have hi : i = 8 := by omega
    subst hi
    rw [fQ_draft_10, if_pos (by decide)]
    rfl
  | m + 1, i, g, f + 1, h, hf, hg => by
    have hi : i < 8 := by omega
    have hb := lc_by_lt x i
    have hc0 : lg_cmp (lN (lc_by x i)) 0 = if 0 < lc_by x i then 1 else if lc_by x i = 0 then 0 else -1 := lc_cm (b := 0) (by omega) (by decide)
    have hc1 : lg_cmp (lN (lc_by x i)) 32 = if 32 < lc_by x i then 1 else if lc_by x i = 32 then 0 else -1 := lc_cm (b := 32) (by omega) (by decide)
    have hc2 : lg_cmp (lN (lc_by x i)) 126 = if 126 < lc_by x i then 1 else if lc_by x i = 126 then 0 else -1 := lc_cm (b := 126) (by omega) (by decide)
    have go0 : fQ_draft_70 (fQ_draft_10 f) x (nI i) z = fQ_draft_10 f x (nI (i + 1)) (nI 0) z := by
      show fQ_draft_10 f x (nI i + 1) 0 z = _
      rw [nI_1]; rfl
    have go1 : fQ_draft_71 (fQ_draft_10 f) x (nI i) 1 z = fQ_draft_10 f x (nI (i + 1)) (nI 1) z := by
      show fQ_draft_10 f x (nI i + 1) 1 z = _
      rw [nI_1]; rfl
    rw [fQ_draft_10, if_neg (show ¬ (8 : Int32) ≤ nI i from nI_ge (b := 8) hi (by decide)), lc_byQ x hi, lc_qa, hc0]
    by_cases h0 : lc_by x i = 0
    · rw [if_pos (by rw [h0]; rfl), if_pos h0]
    · rw [if_neg (by rw [if_pos (by omega)]; decide), if_neg h0]
      show (if nI g = 0 then fQ_draft_70 (fQ_draft_10 f) x (nI i) z else if lg_cmp (lN (lc_by x i)) 32 < 0 then fQ_draft_70 (fQ_draft_10 f) x (nI i) z else if 0 < lg_cmp (lN (lc_by x i)) 126 then fQ_draft_70 (fQ_draft_10 f) x (nI i) z else fQ_draft_71 (fQ_draft_10 f) x (nI i) 1 z) = _
      rw [go0, go1, hc1, hc2]
      by_cases hg0 : g = 0
      · subst hg0
        rw [if_pos (show nI 0 = 0 from rfl), if_pos rfl]
        exact lc_qaQ x z m (i + 1) 0 f (by omega) (by omega) (by omega)
      · have hg1 : g = 1 := by omega
        subst hg1
        rw [if_neg (show ¬ nI 1 = 0 by decide), if_neg (show ¬ (1 : Nat) = 0 by decide)]
        by_cases h1 : lc_by x i < 32
        · rw [if_pos (show (if 32 < lc_by x i then (1 : Int32) else if lc_by x i = 32 then 0 else -1) < 0 by rw [if_neg (by omega), if_neg (by omega)]; decide), if_pos h1]
          exact lc_qaQ x z m (i + 1) 0 f (by omega) (by omega) (by omega)
        · rw [if_neg (show ¬ (if 32 < lc_by x i then (1 : Int32) else if lc_by x i = 32 then 0 else -1) < 0 by
            by_cases h3 : 32 < lc_by x i
            · rw [if_pos h3]; decide
            · rw [if_neg h3, if_pos (by omega)]; decide), if_neg h1]
          by_cases h2 : 126 < lc_by x i
          · rw [if_pos (show 0 < (if 126 < lc_by x i then (1 : Int32) else if lc_by x i = 126 then 0 else -1) by rw [if_pos h2]; decide), if_pos h2]
            exact lc_qaQ x z m (i + 1) 0 f (by omega) (by omega) (by omega)
          · rw [if_neg (show ¬ 0 < (if 126 < lc_by x i then (1 : Int32) else if lc_by x i = 126 then 0 else -1) by
              rw [if_neg h2]
              by_cases h4 : lc_by x i = 126
              · rw [if_pos h4]; decide
              · rw [if_neg h4]; decide), if_neg h2]
            exact lc_qaQ x z m (i + 1) 1 f (by omega) (by omega) (by omega)
theorem lc_cpQ (x : Int64) {d n : Nat} (hn : n ≤ 8) (hd : d + n ≤ 120) : ∀ (m j f : Nat) (z : lc_S), j + m = n → m < f → lcI z 80 1 = nI d →
    ∃ z', fQ_draft_104 f x (nI n) (nI j) z = some (1, z') ∧ lcI z' 80 1 = nI (d + n) ∧ (∀ i, lcI z' 81 i = if d + j ≤ i ∧ i < d + n then nI (lc_by x (i - d)) else lcI z 81 i) ∧ (∀ c k, c ≠ 81 → ¬ (c = 80 ∧ k = 1) → lcI z' c k = lcI z c k) ∧ (∀ c k, lcL z' c k = lcL z c k) ∧ ∀ c k, lcR z' c k = lcR z c k
  | 0, j, f + 1, z, h, _, hz => by
    have hj : j = n := by omega
    subst hj
    refine ⟨lcUI z 80 1 (lcI z 80 1 + nI j), by rw [fQ_draft_104, if_pos (nI_le (Nat.le_refl _) (by omega))], ?_, fun i => ?_, fun c k h1 h2 => ?_, fun c k => rfl, fun c k => rfl⟩
    · rw [lcI_UI, if_pos ⟨rfl, rfl⟩, hz, nI_add]
    · rw [lcI_UI, if_neg (by omega), if_neg (by omega)]
    · rw [lcI_UI, if_neg h2]
  | m + 1, j, f + 1, z, h, hf, hz => by
    have hj : j < 8 := by omega
    have hb := lc_by_lt x j
    obtain ⟨z', g1, g2, g3, g4, g5, g6⟩ := lc_cpQ x hn hd m (j + 1) f (lcUI z 81 (d + j) (nI (lc_by x j))) (by omega) (by omega) (by rw [lcI_UI, if_neg (by omega)]; exact hz)
    refine ⟨z', ?_, g2, fun i => ?_, fun c k h1 h2 => ?_, fun c k => by rw [g5, lcL_UI], fun c k => by rw [g6, lcR_UI]⟩
    · rw [fQ_draft_104, if_neg (nI_ge (show j < n by omega) (by omega)), hz, nI_add, lc_byQ x hj, lN_i, lc_chk_pos (nI_in (show d + j < 120 by omega) (by decide)), nI_clamp (by omega)]
      show fQ_draft_104 f x (nI n) (nI j + 1) _ = _
      rw [nI_1]
      exact g1
    · rw [g3]
      by_cases h1 : d + (j + 1) ≤ i ∧ i < d + n
      · rw [if_pos h1, if_pos (by omega)]
      · rw [if_neg h1, lcI_UI]
        by_cases h2 : i = d + j
        · subst h2
          rw [if_pos ⟨rfl, rfl⟩, if_pos (by omega), show d + j - d = j by omega]
        · rw [if_neg (by omega), if_neg (by omega)]
    · rw [g4 c k h1 h2, lcI_UI, if_neg (by omega)]
theorem lc_draftQ (x : Int64) {d : Nat} (hd : d ≤ 120) (z : lc_S) (hz : lcI z 80 1 = nI d) :
    (¬ (lc_ca x 8 0 = 0 ∨ 120 < d + lc_ca x 8 0) → ∃ z', fQ_draft x z = some (1, z') ∧ lcI z' 80 1 = nI (d + lc_ca x 8 0) ∧ (∀ i, lcI z' 81 i = if d ≤ i ∧ i < d + lc_ca x 8 0 then nI (lc_by x (i - d)) else lcI z 81 i) ∧ (∀ c k, c ≠ 81 → c ≠ 80 ∨ (k ≠ 0 ∧ k ≠ 1) → lcI z' c k = lcI z c k) ∧ (∀ c k, lcL z' c k = lcL z c k) ∧ ∀ c k, lcR z' c k = lcR z c k) ∧
    (lc_ca x 8 0 = 0 ∨ 120 < d + lc_ca x 8 0 → fQ_draft x z = some (0, lcUI z 80 0 0)) := by
  have h8 := lc_ca_le x 8 0 rfl
  have h1 : fQ_draft x z = fQ_draft_79 x (nI (lc_qa x 8 0 1).1) (nI (lc_qa x 8 0 1).2) (lcUI z 80 0 0) := lc_qaQ x (lcUI z 80 0 0) 8 0 1 lc_FU rfl (by decide) (by decide)
  have hz' : lcI (lcUI z 80 0 0) 80 1 = nI d := by rw [lcI_UI, if_neg (by omega)]; exact hz
  have hr := lc_rel x 8 0 rfl
  refine ⟨fun h => ?_, fun h => ?_⟩
  · rcases hr with ⟨h0, -⟩ | ⟨h0, hq⟩
    · exact absurd (Or.inl h0) h
    · rw [hq] at h1
      obtain ⟨z', g1, g2, g3, g4, g5, g6⟩ := lc_cpQ x (d := d) h8 (by omega) (lc_ca x 8 0) 0 lc_FU (lcUI z 80 0 0) (by omega) (by unfold lc_FU; omega) hz'
      refine ⟨z', ?_, g2, fun i => ?_, fun c k a1 a2 => ?_, fun c k => by rw [g5, lcL_UI], fun c k => by rw [g6, lcR_UI]⟩
      · rw [h1, fQ_draft_79, if_neg (nI_ne0 (by omega) (by omega)), if_neg (show ¬ nI 1 = 0 by decide), hz', nI_add, if_pos (show nI _ ≤ (120 : Int32) from nI_le (b := 120) (by omega) (by decide))]
        exact g1
      · have := g3 i
        rw [lcI_UI, if_neg (show ¬ ((81 : Nat) = 80 ∧ i = 0) by omega)] at this
        simpa using this
      · rw [g4 c k a1 (by omega), lcI_UI, if_neg (by omega)]
  · rw [h1]
    rcases hr with ⟨h0, hq | hq⟩ | ⟨h0, hq⟩
    · rw [fQ_draft_79, hq, if_pos (show nI 0 = 0 from rfl)]; rfl
    · rw [fQ_draft_79, hq]
      by_cases h3 : nI (lc_qa x 8 0 1).1 = 0
      · rw [if_pos h3]; rfl
      · rw [if_neg h3, if_pos (show nI 0 = 0 from rfl)]; rfl
    · have h2 : 120 < d + lc_ca x 8 0 := h.resolve_left h0
      rw [fQ_draft_79, hq, if_neg (nI_ne0 (by omega) (by omega)), if_neg (show ¬ nI 1 = 0 by decide), hz', nI_add, if_neg (show ¬ nI _ ≤ (120 : Int32) from nI_ge (a := 120) h2 (by omega))]
      rfl
