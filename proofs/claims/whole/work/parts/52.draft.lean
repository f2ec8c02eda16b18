/-! draft: class and reference -/
def lc_ca (x : Int64) : Nat → Nat → Nat
  | 0, _ => 8
  | m + 1, i => if lc_by x i = 0 then i else if lc_by x i < 32 then 0 else if lc_by x i ≤ 126 then lc_ca x m (i + 1) else 0
theorem lc_caA (x : Int64) (z : lc_S) : ∀ (m i f : Nat), i + m = 8 → m < f → fA_charactersIn_2 f x (nI i) z = some (nI (lc_ca x m i), z)
  | 0, i, f + 1, h, _ => by
    have hi : i = 8 := by omega
    subst hi
    rw [fA_charactersIn_2, if_pos (by decide)]
    rfl
  | m + 1, i, f + 1, h, hf => by
    have hi : i < 8 := by omega
    have hb := lc_by_lt x i
    rw [fA_charactersIn_2, if_neg (show ¬ (8 : Int32) ≤ nI i from nI_ge (b := 8) hi (by decide)), lc_bnd_eq (lc_byA x hi z), lc_ca]
    by_cases h0 : lc_by x i = 0
    · rw [if_pos (by rw [h0]; rfl), if_pos h0]
    · rw [if_neg (nI_ne0 (by omega) (by omega)), if_neg h0]
      by_cases h1 : lc_by x i < 32
      · rw [if_pos (show nI _ < (32 : Int32) from nI_lt (b := 32) h1 (by decide)), if_pos h1]; rfl
      · rw [if_neg (show ¬ nI _ < (32 : Int32) from nI_nlt (b := 32) (by omega) (by omega)), if_neg h1]
        by_cases h2 : lc_by x i ≤ 126
        · rw [if_pos (show nI _ ≤ (126 : Int32) from nI_le (b := 126) h2 (by decide)), if_pos h2]
          show fA_charactersIn_2 f x (nI i + 1) z = _
          rw [nI_1]
          exact lc_caA x z m (i + 1) f (by omega) (by omega)
        · rw [if_neg (show ¬ nI _ ≤ (126 : Int32) from nI_ge (a := 126) (by omega) (by omega)), if_neg h2]; rfl
theorem lc_ca_le (x : Int64) : ∀ (m i : Nat), i + m = 8 → lc_ca x m i ≤ 8
  | 0, _, _ => Nat.le_refl _
  | m + 1, i, h => by
    rw [lc_ca]
    split
    · omega
    · split
      · omega
      · split
        · exact lc_ca_le x m (i + 1) (by omega)
        · omega
/-- the class copies the characters -/
theorem lc_cpA (x : Int64) {d n : Nat} (hn : n ≤ 8) (hd : d + n ≤ 120) : ∀ (m j f : Nat) (z : lc_S), j + m = n → m < f → lcI z 1 1 = nI d →
    ∃ z', fA_draft_25 f x (nI n) (nI j) z = some (1, z') ∧ lcI z' 1 1 = nI (d + n) ∧ (∀ i, lcI z' 2 i = if d + j ≤ i ∧ i < d + n then nI (lc_by x (i - d)) else lcI z 2 i) ∧ (∀ c k, c ≠ 2 → ¬ (c = 1 ∧ k = 1) → lcI z' c k = lcI z c k) ∧ (∀ c k, lcL z' c k = lcL z c k) ∧ ∀ c k, lcR z' c k = lcR z c k
  | 0, j, f + 1, z, h, _, hz => by
    have hj : j = n := by omega
    subst hj
    refine ⟨lcUI z 1 1 (lcI z 1 1 + nI j), by rw [fA_draft_25, if_pos (nI_le (Nat.le_refl _) (by omega))], ?_, fun i => ?_, fun c k h1 h2 => ?_, fun c k => rfl, fun c k => rfl⟩
    · rw [lcI_UI, if_pos ⟨rfl, rfl⟩, hz, nI_add]
    · rw [lcI_UI, if_neg (by omega), if_neg (by omega)]
    · rw [lcI_UI, if_neg h2]
  | m + 1, j, f + 1, z, h, hf, hz => by
    have hj : j < 8 := by omega
    have hb := lc_by_lt x j
    have hc : ((nI (lc_by x j)).toUInt32 % 65536).toInt32 = nI (lc_by x j) := by
      rw [pk_char, pk_tn (by omega), Nat.mod_eq_of_lt (by omega)]
    obtain ⟨z', g1, g2, g3, g4, g5, g6⟩ := lc_cpA x hn hd m (j + 1) f (lcUI z 2 (d + j) (nI (lc_by x j))) (by omega) (by omega) (by rw [lcI_UI, if_neg (by omega)]; exact hz)
    refine ⟨z', ?_, g2, fun i => ?_, fun c k h1 h2 => ?_, fun c k => by rw [g5, lcL_UI], fun c k => by rw [g6, lcR_UI]⟩
    · rw [fA_draft_25, if_neg (nI_ge (show j < n by omega) (by omega)), lc_bnd_eq (lc_byA x hj z), hz, nI_add, hc, lc_chk_pos (nI_in (show d + j < 120 by omega) (by decide)), lc_chk_pos (by rw [← hc]; exact pk_vc _), nI_clamp (by omega)]
      show fA_draft_25 f x (nI n) (nI j + 1) _ = _
      rw [nI_1]
      exact g1
    · rw [g3]
      by_cases h1 : d + (j + 1) ≤ i ∧ i < d + n
      · rw [if_pos h1, if_pos (by omega)]
      · rw [if_neg h1, lcI_UI]
        by_cases h2 : i = d + j
        · subst h2
          rw [if_pos ⟨rfl, rfl⟩, if_pos (by omega), show d + j - d = j by omega]
        · rw [if_neg (by omega), if_neg (by omega)]
    · rw [g4 c k h1 h2, lcI_UI, if_neg (by omega)]
theorem lc_draftA (x : Int64) {d : Nat} (hd : d ≤ 120) (z : lc_S) (hz : lcI z 1 1 = nI d) :
    (¬ (lc_ca x 8 0 = 0 ∨ 120 < d + lc_ca x 8 0) ∧ ∃ z', fA_draft x z = some (1, z') ∧ lcI z' 1 1 = nI (d + lc_ca x 8 0) ∧ (∀ i, lcI z' 2 i = if d ≤ i ∧ i < d + lc_ca x 8 0 then nI (lc_by x (i - d)) else lcI z 2 i) ∧ (∀ c k, c ≠ 2 → ¬ (c = 1 ∧ k = 1) → lcI z' c k = lcI z c k) ∧ (∀ c k, lcL z' c k = lcL z c k) ∧ ∀ c k, lcR z' c k = lcR z c k) ∨
    ((lc_ca x 8 0 = 0 ∨ 120 < d + lc_ca x 8 0) ∧ fA_draft x z = some (0, z)) := by
  have h8 := lc_ca_le x 8 0 rfl
  have h1 : fA_charactersIn x z = some (nI (lc_ca x 8 0), z) := lc_caA x z 8 0 lc_FU rfl (by decide)
  by_cases h0 : lc_ca x 8 0 = 0
  · right
    exact ⟨Or.inl h0, by rw [fA_draft, lc_bnd_eq h1, if_pos (by rw [h0]; rfl)]; rfl⟩
  · by_cases h2 : 120 < d + lc_ca x 8 0
    · right
      refine ⟨Or.inr h2, ?_⟩
      rw [fA_draft, lc_bnd_eq h1, if_neg (nI_ne0 (by omega) (by omega)), hz, nI_add, if_neg (show ¬ nI _ ≤ (120 : Int32) from nI_ge (a := 120) h2 (by omega))]
      rfl
    · left
      refine ⟨by omega, ?_⟩
      obtain ⟨z', g1, g2, g3, g4⟩ := lc_cpA x (d := d) h8 (by omega) (lc_ca x 8 0) 0 lc_FU z (by omega) (by unfold lc_FU; omega) hz
      refine ⟨z', ?_, g2, by simpa using g3, g4⟩
      rw [fA_draft, lc_bnd_eq h1, if_neg (nI_ne0 (by omega) (by omega)), hz, nI_add, if_pos (show nI _ ≤ (120 : Int32) from nI_le (b := 120) (by omega) (by decide))]
      exact g1
