/-! the class sums up its pairs -/
def lc_C4 (c : Nat) : Prop := 25 ≤ c ∧ c ≤ 28
/-- the pairs of a class's state beside the reference's rows g -/
def lc_pp (g : Nat → Nat → Int64) (z : lc_S) (i : Nat) : Prop := ∃ k w k' w', lc_ok i k w ∧ lc_ok i k' w' ∧ lcL z 23 i = lc_cv k w ∧ g 117 i = lc_mv k w ∧ lcL z 24 i = lc_cv k' w' ∧ g 118 i = lc_mv k' w'
def lc_pg (g : Nat → Nat → Int64) (z : lc_S) (i : Nat) : Prop := ∃ k w k' w', lc_ok i k w ∧ lc_ok i k' w' ∧ lcL z 23 i = lc_cv k w ∧ g 117 i = lc_mv k w ∧ lcL z 24 i = lc_cv k' w' ∧ g 118 i = lc_mv k' w' ∧
  lcI z 25 i = lc_sm z 25 2 k w + lc_sm z 25 2 k' w' ∧ lcI z 26 i = lc_sm z 26 1 k w + lc_sm z 26 1 k' w' ∧ (lcI z 27 i = 1 ∨ lcI z 27 i = 0) ∧ (lcI z 27 i ≠ 0 ↔ lc_hb z k w ∨ lc_hb z k' w') ∧ (lc_hb z k w → lcI z 28 i = lc_fn z k w) ∧ (¬ lc_hb z k w → lcI z 28 i = lc_fn z k' w')
theorem lc_pg_pr {z : lc_S} {i : Nat} (h : lc_pg (lcL z) z i) : lc_pr z i := h
theorem lc_sm_lt {z z' : lc_S} {n r l k w : Nat} (hI : ∀ j, j < n → lcI z' r j = lcI z r j) (h : lc_ok n k w) : lc_sm z' r l k w = lc_sm z r l k w := by
  unfold lc_sm
  by_cases h3 : k = 3
  · rw [if_pos h3, if_pos h3, hI w (h.2.2.2 h3)]
  · rw [if_neg h3, if_neg h3]
theorem lc_h_lt {z z' : lc_S} {n k w : Nat} (hI : ∀ j, j < n → lcI z' 27 j = lcI z 27 j) (h : lc_ok n k w) : lc_h z' k w = lc_h z k w := by
  unfold lc_h
  by_cases h3 : k = 3
  · rw [if_pos h3, if_pos h3, hI w (h.2.2.2 h3)]
  · rw [if_neg h3, if_neg h3]
theorem lc_fn_lt {z z' : lc_S} {n k w : Nat} (hI : ∀ j, j < n → lcI z' 28 j = lcI z 28 j) (h : lc_ok n k w) : lc_fn z' k w = lc_fn z k w := by
  unfold lc_fn
  by_cases h3 : k = 3
  · rw [if_pos h3, if_pos h3, hI w (h.2.2.2 h3)]
  · rw [if_neg h3, if_neg h3]
theorem lc_hb_lt {z z' : lc_S} {n k w : Nat} (hI : ∀ j, j < n → lcI z' 27 j = lcI z 27 j) (h : lc_ok n k w) : lc_hb z' k w ↔ lc_hb z k w := by
  rw [← lc_h_iff, ← lc_h_iff, lc_h_lt hI h]
theorem lc_pr_lt {g : Nat → Nat → Int64} {z z' : lc_S} {n : Nat} (hI : ∀ c j, 25 ≤ c → c ≤ 28 → j < n → lcI z' c j = lcI z c j) (hL : ∀ c k, c ≠ 0 → lcL z' c k = lcL z c k) {i : Nat} (hi : i < n) (h : lc_pg g z i) : lc_pg g z' i := by
  obtain ⟨k, w, k', w', o1, o2, p1, p2, p3, p4, s1, s2, s3, s4, s5, s6⟩ := h
  have hJ : ∀ c, 25 ≤ c → c ≤ 28 → ∀ j, j < i → lcI z' c j = lcI z c j := fun c a b j hj => hI c j a b (by omega)
  refine ⟨k, w, k', w', o1, o2, ?_, ?_, ?_, ?_, ?_, ?_, ?_, ?_, fun h => ?_, fun h => ?_⟩
  · rw [hL _ _ (by decide)]; exact p1
  · exact p2
  · rw [hL _ _ (by decide)]; exact p3
  · exact p4
  · rw [hI _ _ (by decide) (by decide) hi, lc_sm_lt (hJ 25 (by decide) (by decide)) o1, lc_sm_lt (hJ 25 (by decide) (by decide)) o2]; exact s1
  · rw [hI _ _ (by decide) (by decide) hi, lc_sm_lt (hJ 26 (by decide) (by decide)) o1, lc_sm_lt (hJ 26 (by decide) (by decide)) o2]; exact s2
  · rw [hI _ _ (by decide) (by decide) hi]; exact s3
  · rw [hI _ _ (by decide) (by decide) hi, lc_hb_lt (hJ 27 (by decide) (by decide)) o1, lc_hb_lt (hJ 27 (by decide) (by decide)) o2]; exact s4
  · rw [hI _ _ (by decide) (by decide) hi, lc_fn_lt (hJ 28 (by decide) (by decide)) o1]; exact s5 ((lc_hb_lt (hJ 27 (by decide) (by decide)) o1).mp h)
  · rw [hI _ _ (by decide) (by decide) hi, lc_fn_lt (hJ 28 (by decide) (by decide)) o2]; exact s6 (fun h' => h ((lc_hb_lt (hJ 27 (by decide) (by decide)) o1).mpr h'))
theorem lc_hasNum {P k w : Nat} (z : lc_S) (hP : lcI z 20 10 = nI P) (hP1 : P ≤ 120) (h : lc_ok P k w) (hz : k = 3 → lc_zok (lcI z 27 w)) : fY_hasNumber (lc_cv k w) z = some (lc_h z k w, z) := by
  obtain ⟨h0, h4, hw, h3⟩ := h
  rw [fY_hasNumber, lc_bnd_eq (lc_wo k w z), lc_bnd_eq (lc_isP h4 hw z), lc_h]
  by_cases hk : k = 3
  · have hwP := h3 hk
    have hc : (nI w).toNatClampNeg = w := nI_clamp (by omega)
    rw [if_pos hk, if_neg (show ¬ (1 : Int32) = 0 by decide), if_pos hk, lc_bnd_eq (lc_made z hP hP1 hwP), if_neg (show ¬ (1 : Int32) = 0 by decide), lc_chk_pos (nI_in (show w < 120 by omega) (by decide)), lc_chk_pos (by rw [hc]; exact hz hk), hc]
  · rw [if_neg hk, if_pos rfl, if_neg hk, fY_hasNumber_27, lc_bnd_eq (lc_isN h4 hw z), lc_chk_pos (by split <;> decide)]
