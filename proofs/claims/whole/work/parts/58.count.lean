/-! what is in a value: class and reference -/
def lc_sm (z : lc_S) (row leaf k w : Nat) : Int32 := if k = 3 then lcI z row w else if k = leaf then 1 else 0
def lc_hb (z : lc_S) (k w : Nat) : Prop := (k = 3 ∧ lcI z 27 w ≠ 0) ∨ k = 1
def lc_fn (z : lc_S) (k w : Nat) : Int32 := if k = 3 then lcI z 28 w else if k = 1 then nI w else 0
/-- a value: its kind and word, a pair made before n -/
def lc_ok (n k w : Nat) : Prop := 0 < k ∧ k < 4 ∧ w < 4294967296 ∧ (k = 3 → w < n)
/-- pair i and what is summed up of it -/
def lc_pr (z : lc_S) (i : Nat) : Prop := ∃ k w k' w', lc_ok i k w ∧ lc_ok i k' w' ∧ lcL z 23 i = lc_cv k w ∧ lcL z 117 i = lc_mv k w ∧ lcL z 24 i = lc_cv k' w' ∧ lcL z 118 i = lc_mv k' w' ∧
  lcI z 25 i = lc_sm z 25 2 k w + lc_sm z 25 2 k' w' ∧ lcI z 26 i = lc_sm z 26 1 k w + lc_sm z 26 1 k' w' ∧ (lcI z 27 i = 1 ∨ lcI z 27 i = 0) ∧ (lcI z 27 i ≠ 0 ↔ lc_hb z k w ∨ lc_hb z k' w') ∧ (lc_hb z k w → lcI z 28 i = lc_fn z k w) ∧ (¬ lc_hb z k w → lcI z 28 i = lc_fn z k' w')
theorem lc_made {P w : Nat} (z : lc_S) (hP : lcI z 20 10 = nI P) (hP1 : P ≤ 120) (h : w < P) : fY_isMade (nI w) z = some (1, z) := by
  rw [fY_isMade, if_neg (nI_pos (by omega)), hP, if_neg (nI_ge h (by omega))]
theorem lc_cellsIn {P k w : Nat} (z : lc_S) (hP : lcI z 20 10 = nI P) (hP1 : P ≤ 120) (h : k < 4 ∧ w < 4294967296 ∧ (k = 3 → w < P)) : fY_cellsIn (lc_cv k w) z = some (lc_sm z 25 2 k w, z) := by
  obtain ⟨h4, hw, h3⟩ := h
  rw [fY_cellsIn, lc_bnd_eq (lc_wo k w z), lc_bnd_eq (lc_isP h4 hw z), lc_sm]
  by_cases hk : k = 3
  · rw [if_pos hk, if_neg (show ¬ (1 : Int32) = 0 by decide), if_pos hk, lc_bnd_eq (lc_made z hP hP1 (h3 hk)), if_neg (show ¬ (1 : Int32) = 0 by decide), lc_chk_pos (nI_in (show w < 120 by have := h3 hk; omega) (by decide)), nI_clamp (by have := h3 hk; omega)]
  · rw [if_neg hk, if_pos rfl, if_neg hk, fY_cellsIn_27, lc_bnd_eq (lc_isC h4 hw z)]
    by_cases h2 : k = 2
    · (rw [if_pos h2, if_neg (show ¬ (1 : Int32) = 0 by decide)] <;> rw [if_pos h2])
    · (rw [if_neg h2, if_pos rfl] <;> rw [if_neg h2])
theorem lc_numbersIn {P k w : Nat} (z : lc_S) (hP : lcI z 20 10 = nI P) (hP1 : P ≤ 120) (h : k < 4 ∧ w < 4294967296 ∧ (k = 3 → w < P)) : fY_numbersIn (lc_cv k w) z = some (lc_sm z 26 1 k w, z) := by
  obtain ⟨h4, hw, h3⟩ := h
  rw [fY_numbersIn, lc_bnd_eq (lc_wo k w z), lc_bnd_eq (lc_isP h4 hw z), lc_sm]
  by_cases hk : k = 3
  · rw [if_pos hk, if_neg (show ¬ (1 : Int32) = 0 by decide), if_pos hk, lc_bnd_eq (lc_made z hP hP1 (h3 hk)), if_neg (show ¬ (1 : Int32) = 0 by decide), lc_chk_pos (nI_in (show w < 120 by have := h3 hk; omega) (by decide)), nI_clamp (by have := h3 hk; omega)]
  · rw [if_neg hk, if_pos rfl, if_neg hk, fY_numbersIn_27, lc_bnd_eq (lc_isN h4 hw z)]
    by_cases h2 : k = 1
    · (rw [if_pos h2, if_neg (show ¬ (1 : Int32) = 0 by decide)] <;> rw [if_pos h2])
    · (rw [if_neg h2, if_pos rfl] <;> rw [if_neg h2])
theorem lc_firstIn {P k w : Nat} (z : lc_S) (hP : lcI z 20 10 = nI P) (hP1 : P ≤ 120) (h : k < 4 ∧ w < 4294967296 ∧ (k = 3 → w < P)) : fY_firstNumberIn (lc_cv k w) z = some (lc_fn z k w, z) := by
  obtain ⟨h4, hw, h3⟩ := h
  rw [fY_firstNumberIn, lc_bnd_eq (lc_wo k w z), lc_bnd_eq (lc_isP h4 hw z), lc_fn]
  by_cases hk : k = 3
  · rw [if_pos hk, if_neg (show ¬ (1 : Int32) = 0 by decide), if_pos hk, lc_bnd_eq (lc_made z hP hP1 (h3 hk)), if_neg (show ¬ (1 : Int32) = 0 by decide), lc_chk_pos (nI_in (show w < 120 by have := h3 hk; omega) (by decide)), nI_clamp (by have := h3 hk; omega)]
  · rw [if_neg hk, if_pos rfl, if_neg hk, fY_firstNumberIn_27, lc_bnd_eq (lc_isN h4 hw z)]
    by_cases h2 : k = 1
    · (rw [if_pos h2, if_neg (show ¬ (1 : Int32) = 0 by decide)] <;> rw [if_pos h2])
    · (rw [if_neg h2, if_pos rfl] <;> rw [if_neg h2])
theorem lc_mpair {w : Nat} (hw : w < 4294967296) : (lc_mv 3 w - 8589934592).toInt32 = nI w := by
  have h : lc_mv 3 w - 8589934592 = lN w := by
    apply uN_inj
    unfold lc_mv
    have h1 : lN ((3 - 1) * 4294967296 + w) - 8589934592 + 8589934592 = lN ((3 - 1) * 4294967296 + w) := Int64.sub_add_cancel _ _
    have h2 : lN w + 8589934592 = lN ((3 - 1) * 4294967296 + w) := by
      rw [show (8589934592 : Int64) = lN 8589934592 from rfl, lN_add, show w + 8589934592 = (3 - 1) * 4294967296 + w by omega]
    have h3 : lN ((3 - 1) * 4294967296 + w) - 8589934592 = lN w := by
      have := congrArg (fun t => t - (8589934592 : Int64)) (h1.trans h2.symm)
      simpa using this
    rw [h3]
  rw [h, lN_i]
theorem lc_inQ {P k w row leaf : Nat} {a : Int32} (z : lc_S) (hP1 : P ≤ 120) (h : lc_ok P k w) (ha : (a = 1 ∧ leaf = 2) ∨ (a = 0 ∧ leaf = 1)) (hr : ∀ j, j < P → lcI z 121 j = lcI z row j) : fQ_in (lc_mv k w) a z = some (lc_sm z row leaf k w, z) := by
  obtain ⟨h0, h4, hw, h3⟩ := h
  rw [fQ_in, lc_sm]
  by_cases hk : k = 3
  · subst hk
    rw [if_neg (fun h' => absurd ((lc_ltP h0 h4 hw).mp h') (by decide)), lc_mpair hw, lc_chk_pos (nI_in (show w < 340 by have := h3 rfl; omega) (by decide)), nI_clamp (by have := h3 rfl; omega), hr w (h3 rfl), if_pos rfl]
  · rw [if_pos ((lc_ltP h0 h4 hw).mpr (by omega)), lc_bnd_eq (lc_isNQ h0 h4 hw z), if_neg hk]
    rcases ha with ⟨rfl, rfl⟩ | ⟨rfl, rfl⟩
    · by_cases h1 : k = 1
      · rw [if_pos h1, if_pos rfl, if_neg (show ¬ k = 2 by omega)]
      · rw [if_neg h1, if_neg (show ¬ (0 : Int32) = 1 by decide), if_pos (show k = 2 by omega)]
    · by_cases h1 : k = 1
      · (rw [if_pos h1, if_neg (show ¬ (1 : Int32) = 0 by decide)] <;> rw [if_pos h1])
      · (rw [if_neg h1, if_pos rfl] <;> rw [if_neg h1])
