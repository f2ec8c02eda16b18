/-! what the calls show of the heap: class and reference -/
/-- quiet: only the reference's code and the row of the law's answer change -/
def lc_q (z z' : lc_S) : Prop := (∀ c k, ¬ (c = 80 ∧ k = 0) → lcI z' c k = lcI z c k) ∧ (∀ c k, c ≠ 0 → lcL z' c k = lcL z c k) ∧ ∀ c k, lcR z' c k = lcR z c k
theorem lc_q_out (k : Nat) (v t : Int32) (z : lc_S) : lc_q z (lcUI (lc_out k v z) 80 0 t) := by
  unfold lc_out
  by_cases h : k = 0
  · rw [if_pos h]
    refine ⟨fun c k h => by rw [lcI_UI, if_neg h, lcI_UL], fun c k h => by rw [lcL_UI, lcL_UL, if_neg (fun h' => h h'.1)], fun c k => rfl⟩
  · rw [if_neg h]
    exact ⟨fun c k h => by rw [lcI_UI, if_neg h], fun c k h => rfl, fun c k => rfl⟩
theorem lc_out_I (k : Nat) (v : Int32) (z : lc_S) (c j : Nat) : lcI (lc_out k v z) c j = lcI z c j := by
  unfold lc_out
  split
  · rw [lcI_UL]
  · rfl
theorem lc_out_L (v t : Int32) (z : lc_S) : lcL (lcUI (lc_out 0 v z) 80 0 t) 0 (0 : Int32).toNatClampNeg = v.toInt64 := by
  unfold lc_out
  rw [if_pos rfl, lcL_UI, lcL_UL, if_pos ⟨rfl, rfl⟩]
/-- how many of the reference's first n places are full -/
def lc_nf (z : lc_S) : Nat → Nat
  | 0 => 0
  | n + 1 => lc_nf z n + if lcI z 115 n = 0 then 0 else 1
theorem lc_nf_le (z : lc_S) : ∀ n, lc_nf z n ≤ n
  | 0 => Nat.le_refl _
  | n + 1 => by
    have := lc_nf_le z n
    rw [lc_nf]
    split <;> omega
theorem lc_nf_eq {z z' : lc_S} (h : ∀ j, lcI z' 115 j = lcI z 115 j) : ∀ n, lc_nf z' n = lc_nf z n
  | 0 => rfl
  | n + 1 => by rw [lc_nf, lc_nf, lc_nf_eq h n, h]
def lc_mem (z : lc_S) : Prop :=
  (∀ j, j < 12 → lcI z 21 j = lcI z 115 j ∧ (lcI z 115 j ≠ 0 → lcI z 22 j = lcI z 116 j)) ∧ lcI z 20 2 = lcI z 80 49 ∧ lcI z 20 3 = lcI z 80 50 ∧ lcI z 20 10 = lcI z 80 53 ∧ lcI z 19 2 = lcI z 80 48 ∧ lcI z 20 2 - lcI z 20 3 = nI (lc_nf z 12)
theorem lc_mem_q {z z' : lc_S} (hq : lc_q z z') (h : lc_mem z) : lc_mem z' := by
  obtain ⟨h1, h2, h3, h4, h5, h6⟩ := h
  obtain ⟨q, -, -⟩ := hq
  refine ⟨fun j hj => ?_, ?_, ?_, ?_, ?_, ?_⟩
  · rw [q 21 j (by omega), q 115 j (by omega), q 22 j (by omega), q 116 j (by omega)]; exact h1 j hj
  · rw [q _ _ (by omega), q _ _ (by omega)]; exact h2
  · rw [q _ _ (by omega), q _ _ (by omega)]; exact h3
  · rw [q _ _ (by omega), q _ _ (by omega)]; exact h4
  · rw [q _ _ (by omega), q _ _ (by omega)]; exact h5
  · rw [q _ _ (by omega), q _ _ (by omega), lc_nf_eq (fun j => q 115 j (by omega))]; exact h6
theorem lc_nI12 {b : Int32} (h0 : ¬ b < 0) (h : ¬ (12 : Int32) ≤ b) : ∃ j, j < 12 ∧ b = nI j := by
  obtain ⟨j, hj, rfl⟩ := nI_of h0
  refine ⟨j, ?_, rfl⟩
  apply Nat.lt_of_not_le
  intro hc
  exact h (nI_le (a := 12) hc hj)
theorem lc_free (z : lc_S) (b : Int32) : (∃ j, j < 12 ∧ b = nI j ∧ lcI z 21 j ≠ 0 ∧ fY_isFree b z = some (0, z)) ∨ ((b < 0 ∨ 12 ≤ b ∨ ∃ j, j < 12 ∧ b = nI j ∧ lcI z 21 j = 0) ∧ fY_isFree b z = some (1, z)) := by
  by_cases h0 : b < 0
  · right
    exact ⟨Or.inl h0, by rw [fY_isFree, if_pos h0]; rfl⟩
  · by_cases h1 : (12 : Int32) ≤ b
    · right
      exact ⟨Or.inr (Or.inl h1), by rw [fY_isFree, if_neg h0, if_pos h1]; rfl⟩
    · obtain ⟨j, hj, rfl⟩ := lc_nI12 h0 h1
      by_cases h2 : lcI z 21 j = 0
      · right
        refine ⟨Or.inr (Or.inr ⟨j, hj, rfl, h2⟩), ?_⟩
        rw [fY_isFree, if_neg h0, if_neg h1, lc_chk_pos (nI_in hj (by decide)), nI_clamp (by omega), if_pos h2]; rfl
      · left
        refine ⟨j, hj, rfl, h2, ?_⟩
        rw [fY_isFree, if_neg h0, if_neg h1, lc_chk_pos (nI_in hj (by decide)), nI_clamp (by omega), if_neg h2]
theorem lc_cellT (z : lc_S) (b : Int32) (h : lc_mem z) : ∃ z', lc_tX (fA_cell b) (fQ_cell b) (fun k => k = 0 ∨ k = 4) z z' ∧ lc_q z z' := by
  obtain ⟨h1, -⟩ := h
  rcases lc_free z b with ⟨j, hj, rfl, h2, hf⟩ | ⟨h2, hf⟩
  · have h3 := h1 j hj
    have h4 : lcI z 115 j ≠ 0 := by rw [← h3.1]; exact h2
    refine ⟨lcUI (lc_out 0 (lcI z 22 j) z) 80 0 0, ⟨0, lcI z 22 j, z, lcI z 22 j, lcUI (lc_out 0 (lcI z 22 j) z) 80 0 0, ?_, Or.inl rfl, ?_, rfl, fun _ => lc_out_L _ _ _⟩, lc_q_out _ _ _ _⟩
    · rw [fA_cell, lc_bnd_eq (show fM_memory z = some (20, z) from rfl), lc_chk_pos rfl, lc_bnd_eq hf, if_pos rfl, lc_bnd_eq (show fM_memory z = some (20, z) from rfl), lc_chk_pos rfl, fY_numberAt, lc_bnd_eq hf, if_pos rfl, lc_chk_pos (nI_in hj (by decide)), nI_clamp (by omega)]
      rfl
    · rw [fQ_cell, if_neg (nI_pos (by omega)), if_neg (show ¬ (11 : Int32) < nI j from nI_nlt (a := 11) (by omega) (by decide)), lc_chk_pos (nI_in hj (by decide)), nI_clamp (by omega), lc_out_I, if_neg h4, fQ_cell_25, if_pos (show lcI (lcUI (lc_out 0 (lcI z 22 j) z) 80 0 0) 80 0 ≤ 0 by rw [lcI_UI, if_pos ⟨rfl, rfl⟩]; decide), lc_chk_pos (nI_in hj (by decide)), nI_clamp (by omega), lcI_UI, if_neg (by omega), lc_out_I, h3.2 h4]
  · refine ⟨lcUI (lc_out 4 0 z) 80 0 1, ⟨4, 0, z, 0, lcUI (lc_out 4 0 z) 80 0 1, ?_, Or.inr rfl, ?_, rfl, fun h => by cases h⟩, lc_q_out _ _ _ _⟩
    · rw [fA_cell, lc_bnd_eq (show fM_memory z = some (20, z) from rfl), lc_chk_pos rfl, lc_bnd_eq hf]
      rfl
    · have hq : fQ_cell_20 b (lc_out 4 0 z) = some (0, lcUI (lc_out 4 0 z) 80 0 1) := rfl
      rw [fQ_cell]
      rcases h2 with h2 | h2 | ⟨j, hj, rfl, h2⟩
      · rw [if_pos h2]; exact hq
      · by_cases h0 : b < 0
        · rw [if_pos h0]; exact hq
        · obtain ⟨j, hj, rfl⟩ := nI_of h0
          have h3 : (11 : Int32) < nI j := nI_lt (a := 11) (by have := (nI_leI (a := 12) (by decide) hj).mp h2; omega) hj
          rw [if_neg h0, if_pos h3]; exact hq
      · rw [if_neg (nI_pos (by omega)), if_neg (show ¬ (11 : Int32) < nI j from nI_nlt (a := 11) (by omega) (by decide)), lc_chk_pos (nI_in hj (by decide)), nI_clamp (by omega), lc_out_I, if_pos (by rw [← (h1 j hj).1]; exact h2)]
        exact hq
