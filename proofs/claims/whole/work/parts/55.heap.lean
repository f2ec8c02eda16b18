/-! heap: class and reference -/
def lc_hv (x : Int32) (z : lc_S) : Int32 := if x = 0 then nI (lc_nf z 12) else if x = 1 then lcI z 80 49 else if x = 2 then lcI z 80 50 else if x = 3 then lcI z 80 53 else lcI z 80 48
theorem lc_heapL (x : Int32) (z : lc_S) : ∀ (m j f : Nat), j + m = 12 → m < f → fQ_heap_31 f x (nI (lc_nf z j)) (nI j) z = some (lc_hv x z, z)
  | 0, j, f + 1, h, _ => by
    have hj : j = 12 := by omega
    subst hj
    rw [fQ_heap_31, if_pos (by decide)]
    unfold lc_hv
    by_cases h0 : x = 0
    · rw [if_pos h0, if_pos h0]
    · rw [if_neg h0, if_neg h0]
      by_cases h1 : x = 1
      · rw [if_pos h1, if_pos h1]
      · rw [if_neg h1, if_neg h1]
        by_cases h2 : x = 2
        · rw [if_pos h2, if_pos h2]
        · rw [if_neg h2, if_neg h2]
          by_cases h3 : x = 3
          · rw [if_pos h3, if_pos h3]
          · rw [if_neg h3, if_neg h3]
  | m + 1, j, f + 1, h, hf => by
    have ih := lc_heapL x z m (j + 1) f (by omega) (by omega)
    rw [fQ_heap_31, if_neg (show ¬ (12 : Int32) ≤ nI j from nI_ge (b := 12) (by omega) (by decide)), lc_chk_pos (nI_in (show j < 12 by omega) (by decide)), nI_clamp (by omega)]
    rw [lc_nf] at ih
    by_cases h0 : lcI z 115 j = 0
    · rw [if_pos h0] at ih
      rw [if_pos h0]
      show fQ_heap_31 f x (nI (lc_nf z j) + nI 0) (nI j + 1) z = _
      rw [nI_1, nI_add]
      exact ih
    · rw [if_neg h0] at ih
      rw [if_neg h0]
      show fQ_heap_31 f x (nI (lc_nf z j) + nI 1) (nI j + 1) z = _
      rw [nI_1, nI_add]
      exact ih
theorem lc_heapQ (x : Int32) (z : lc_S) (h0 : ¬ x < 0) (h4 : x ≤ 4) : fQ_heap x z = some (lc_hv x (lcUI z 80 0 0), lcUI z 80 0 0) := by
  rw [fQ_heap, if_neg h0, if_pos h4, fQ_heap_15, if_pos (show lcI (lcUI z 80 0 0) 80 0 ≤ 0 by rw [lcI_UI, if_pos ⟨rfl, rfl⟩]; decide)]
  exact lc_heapL x (lcUI z 80 0 0) 12 0 lc_FU rfl (by decide)
theorem lc_heapT (z : lc_S) (b : Int32) (h : lc_mem z) : ∃ z', lc_tX (fA_heap b) (fQ_heap b) (fun k => k = 0 ∨ k = 1) z z' ∧ lc_q z z' := by
  by_cases hb : b = 0 ∨ b = 1 ∨ b = 2 ∨ b = 3 ∨ b = 4
  · have hA : fA_heap b z = some ((0, lc_hv b z), z) := by
      obtain ⟨-, h2, h3, h4, h5, h6⟩ := h
      rcases hb with rfl | rfl | rfl | rfl | rfl
      · show some ((0, lcI z 20 2 - lcI z 20 3), z) = some ((0, nI (lc_nf z 12)), z)
        rw [h6]
      · show some ((0, lcI z 20 2), z) = some ((0, lcI z 80 49), z)
        rw [h2]
      · show some ((0, lcI z 20 3), z) = some ((0, lcI z 80 50), z)
        rw [h3]
      · show some ((0, lcI z 20 10), z) = some ((0, lcI z 80 53), z)
        rw [h4]
      · show some ((0, lcI z 19 2), z) = some ((0, lcI z 80 48), z)
        rw [h5]
    have hv : lc_hv b (lcUI (lc_out 0 (lc_hv b z) z) 80 0 0) = lc_hv b z := by
      have hq := (lc_q_out 0 (lc_hv b z) 0 z).1
      generalize lcUI (lc_out 0 (lc_hv b z) z) 80 0 0 = y at hq
      unfold lc_hv
      rw [hq 80 49 (by omega), hq 80 50 (by omega), hq 80 53 (by omega), hq 80 48 (by omega), lc_nf_eq (fun j => hq 115 j (by omega))]
    refine ⟨lcUI (lc_out 0 (lc_hv b z) z) 80 0 0, ⟨0, lc_hv b z, z, lc_hv b z, lcUI (lc_out 0 (lc_hv b z) z) 80 0 0, hA, Or.inl rfl, ?_, rfl, fun _ => lc_out_L _ _ _⟩, lc_q_out _ _ _ _⟩
    rw [lc_heapQ b _ (by rcases hb with rfl | rfl | rfl | rfl | rfl <;> decide) (by rcases hb with rfl | rfl | rfl | rfl | rfl <;> decide), hv]
  · have hb0 : ¬ b = 0 := fun h => hb (Or.inl h)
    have hb1 : ¬ b = 1 := fun h => hb (Or.inr (Or.inl h))
    have hb2 : ¬ b = 2 := fun h => hb (Or.inr (Or.inr (Or.inl h)))
    have hb3 : ¬ b = 3 := fun h => hb (Or.inr (Or.inr (Or.inr (Or.inl h))))
    have hb4 : ¬ b = 4 := fun h => hb (Or.inr (Or.inr (Or.inr (Or.inr h))))
    refine ⟨lcUI (lc_out 1 0 z) 80 0 1, ⟨1, 0, z, 0, lcUI (lc_out 1 0 z) 80 0 1, ?_, Or.inr rfl, ?_, rfl, fun h => by cases h⟩, lc_q_out _ _ _ _⟩
    · rw [fA_heap, if_neg hb0, if_neg hb1, if_neg hb2, if_neg hb3, if_neg hb4]
    · have hq : fQ_heap_10 b (lc_out 1 0 z) = some (0, lcUI (lc_out 1 0 z) 80 0 1) := rfl
      rw [fQ_heap]
      by_cases h0 : b < 0
      · rw [if_pos h0]; exact hq
      · rw [if_neg h0, if_neg (fun h4 => ?_)]
        · exact hq
        · obtain ⟨j, hj, rfl⟩ := nI_of2 (n := 4) rfl h0 h4
          have : j = 0 ∨ j = 1 ∨ j = 2 ∨ j = 3 ∨ j = 4 := by omega
          rcases this with rfl | rfl | rfl | rfl | rfl
          · exact hb0 rfl
          · exact hb1 rfl
          · exact hb2 rfl
          · exact hb3 rfl
          · exact hb4 rfl
