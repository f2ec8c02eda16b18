/-! a turn of draft -/
def lc_dr (z : lc_S) : Prop := ∃ d, d ≤ 120 ∧ lcI z 1 1 = nI d ∧ lcI z 80 1 = nI d ∧ ∀ j, j < d → lcI z 2 j = lcI z 81 j ∧ ∃ v, 32 ≤ v ∧ v ≤ 126 ∧ lcI z 81 j = nI v
/-- all but the drafts and the code stay -/
def lc_qd (z z' : lc_S) : Prop := (∀ c k, c ≠ 2 → c ≠ 81 → ¬ (c = 1 ∧ k = 1) → ¬ (c = 80 ∧ k ≤ 1) → lcI z' c k = lcI z c k) ∧ (∀ c k, c ≠ 0 → lcL z' c k = lcL z c k) ∧ ∀ c k, lcR z' c k = lcR z c k
theorem lc_ca_by (x : Int64) : ∀ (m i j : Nat), i + m = 8 → i ≤ j → j < lc_ca x m i → 32 ≤ lc_by x j ∧ lc_by x j ≤ 126
  | 0, i, j, h, h1, h2 => by
    rw [lc_ca] at h2
    omega
  | m + 1, i, j, h, h1, h2 => by
    rw [lc_ca] at h2
    by_cases a0 : lc_by x i = 0
    · rw [if_pos a0] at h2; omega
    · rw [if_neg a0] at h2
      by_cases a1 : lc_by x i < 32
      · rw [if_pos a1] at h2; omega
      · rw [if_neg a1] at h2
        by_cases a2 : lc_by x i ≤ 126
        · rw [if_pos a2] at h2
          by_cases hj : j = i
          · subst hj; omega
          · exact lc_ca_by x m (i + 1) j (by omega) (by omega) h2
        · rw [if_neg a2] at h2; omega
theorem lc_draftT (z : lc_S) (x : Int64) (h : lc_dr z) : ∃ z', lc_tB (fA_draft x) (fQ_draft x) z z' ∧ lc_dr z' ∧ lc_qd z z' := by
  obtain ⟨d, hd, h1, h2, h3⟩ := h
  rcases lc_draftA x hd z h1 with ⟨hn, z1, a1, a2, a3, a4, a5, a6⟩ | ⟨hn, a1⟩
  · obtain ⟨z2, b1, b2, b3, b4, b5, b6⟩ := (lc_draftQ x hd z1 (by rw [a4 80 1 (by omega) (by omega)]; exact h2)).1 hn
    have ha81 : ∀ j, lcI z1 81 j = lcI z 81 j := fun j => a4 81 j (by omega) (by omega)
    refine ⟨z2, ⟨1, z1, a1, b1⟩, ⟨d + lc_ca x 8 0, by omega, ?_, b2, fun j hj => ?_⟩, fun c k c1 c2 c3 c4 => ?_, fun c k _ => by rw [b5, a5], fun c k => by rw [b6, a6]⟩
    · rw [b4 1 1 (by omega) (by omega)]; exact a2
    · rw [b4 2 j (by omega) (by omega), a3, b3, ha81]
      by_cases hc : d ≤ j ∧ j < d + lc_ca x 8 0
      · rw [if_pos hc, if_pos hc]
        have := lc_ca_by x 8 0 (j - d) rfl (by omega) (by omega)
        exact ⟨rfl, lc_by x (j - d), this.1, this.2, rfl⟩
      · rw [if_neg hc, if_neg hc]
        exact h3 j (by omega)
    · rw [b4 c k c2 (by omega), a4 c k c1 c3]
  · have b1 := (lc_draftQ x hd z h2).2 hn
    refine ⟨lcUI z 80 0 0, ⟨0, z, a1, b1⟩, ⟨d, hd, ?_, ?_, fun j hj => ?_⟩, fun c k c1 c2 c3 c4 => ?_, fun c k _ => rfl, fun c k => rfl⟩
    · rw [lcI_UI, if_neg (by omega)]; exact h1
    · rw [lcI_UI, if_neg (by omega)]; exact h2
    · rw [lcI_UI, if_neg (by omega), lcI_UI, if_neg (by omega)]; exact h3 j hj
    · rw [lcI_UI, if_neg (by omega)]
theorem lc_dr_q {z z' : lc_S} (hq : lc_q z z') (h : lc_dr z) : lc_dr z' := by
  obtain ⟨d, hd, h1, h2, h3⟩ := h
  obtain ⟨q, -, -⟩ := hq
  refine ⟨d, hd, ?_, ?_, fun j hj => ?_⟩
  · rw [q _ _ (by omega)]; exact h1
  · rw [q _ _ (by omega)]; exact h2
  · rw [q 2 j (by omega), q 81 j (by omega)]; exact h3 j hj
theorem lc_mem_qd {z z' : lc_S} (hq : lc_qd z z') (h : lc_mem z) : lc_mem z' := by
  obtain ⟨h1, h2, h3, h4, h5, h6⟩ := h
  obtain ⟨q, -, -⟩ := hq
  refine ⟨fun j hj => ?_, ?_, ?_, ?_, ?_, ?_⟩
  · rw [q 21 j (by omega) (by omega) (by omega) (by omega), q 115 j (by omega) (by omega) (by omega) (by omega), q 22 j (by omega) (by omega) (by omega) (by omega), q 116 j (by omega) (by omega) (by omega) (by omega)]; exact h1 j hj
  · rw [q _ _ (by omega) (by omega) (by omega) (by omega), q _ _ (by omega) (by omega) (by omega) (by omega)]; exact h2
  · rw [q _ _ (by omega) (by omega) (by omega) (by omega), q _ _ (by omega) (by omega) (by omega) (by omega)]; exact h3
  · rw [q _ _ (by omega) (by omega) (by omega) (by omega), q _ _ (by omega) (by omega) (by omega) (by omega)]; exact h4
  · rw [q _ _ (by omega) (by omega) (by omega) (by omega), q _ _ (by omega) (by omega) (by omega) (by omega)]; exact h5
  · rw [q _ _ (by omega) (by omega) (by omega) (by omega), q _ _ (by omega) (by omega) (by omega) (by omega), lc_nf_eq (fun j => q 115 j (by omega) (by omega) (by omega) (by omega))]; exact h6
