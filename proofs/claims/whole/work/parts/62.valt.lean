/-! a turn of value -/
def lc_vl (z : lc_S) : Prop := ∃ P, lc_prs z P ∧ ((lcL z 19 4 = lc_cv 0 0 ∧ (lcI z 80 46 = 0 ∨ lcI z 80 45 ≠ 0)) ∨ (lcI z 80 46 ≠ 0 ∧ lcI z 80 45 = 0 ∧ ∃ k w, lc_ok P k w ∧ lcL z 19 4 = lc_cv k w ∧ lcL z 80 47 = lc_mv k w))
/-- quiet, but for two work rows of the reference -/
def lc_qw (z z' : lc_S) : Prop := (∀ c k, ¬ (c = 80 ∧ k = 0) → ¬ lc_N2 c → lcI z' c k = lcI z c k) ∧ (∀ c k, c ≠ 0 → lcL z' c k = lcL z c k) ∧ ∀ c k, lcR z' c k = lcR z c k
theorem lc_qw_of {z z1 z' : lc_S} (h : lc_q z z1) (h' : lc_on lc_N2 z1 z') : lc_qw z z' := ⟨fun c k a b => by rw [h'.1 c k b, h.1 c k a], fun c k a => by rw [h'.2.1, h.2.1 c k a], fun c k => by rw [h'.2.2, h.2.2]⟩
theorem lc_q_qw {z z' : lc_S} (h : lc_q z z') : lc_qw z z' := lc_qw_of h (lc_on_refl _ _)
theorem lc_prs_qw {z z' : lc_S} {P : Nat} (h : lc_qw z z') (hp : lc_prs z P) : lc_prs z' P := by
  obtain ⟨h1, h2, h3, h4⟩ := hp
  have hn : ∀ c, c < 120 → ¬ lc_N2 c := fun c hc h => by unfold lc_N2 at h; omega
  refine ⟨h1, ?_, ?_, fun i hi => lc_pr_eq (fun c k _ hc => h.1 c k (by omega) (hn c (by omega))) (fun c k hc => h.2.1 c k hc) (h4 i hi)⟩
  · rw [h.1 _ _ (by omega) (hn _ (by decide))]; exact h2
  · rw [h.1 _ _ (by omega) (hn _ (by decide))]; exact h3
theorem lc_vl_qw {z z' : lc_S} (h : lc_qw z z') (hv : lc_vl z) : lc_vl z' := by
  obtain ⟨P, hp, hv⟩ := hv
  have hn : ∀ c, c < 120 → ¬ lc_N2 c := fun c hc h => by unfold lc_N2 at h; omega
  refine ⟨P, lc_prs_qw h hp, ?_⟩
  rw [h.2.1 19 4 (by decide), h.2.1 80 47 (by decide), h.1 80 46 (by omega) (hn _ (by decide)), h.1 80 45 (by omega) (hn _ (by decide))]
  exact hv
/-- what the class answers -/
def lc_va (z : lc_S) (b : Int32) (k w : Nat) : Int32 := if b = 0 then nI k else if b = 1 then (if k = 2 then nI w else lc_fn z k w) else if b = 2 then lc_sm z 25 2 k w else lc_sm z 26 1 k w
theorem lc_valA {P k w : Nat} (z : lc_S) (b : Int32) (hb : b = 0 ∨ b = 1 ∨ b = 2 ∨ b = 3) (hp : lc_prs z P) (ho : k < 4 ∧ w < 4294967296 ∧ (k = 3 → w < P)) (hv : lcL z 19 4 = lc_cv k w) : fA_value b z = some ((0, lc_va z b k w), z) := by
  have hr : fM_result z = some (lc_cv k w, z) := by rw [fM_result, hv]
  have hm : fM_memory z = some (20, z) := rfl
  rcases hb with rfl | rfl | rfl | rfl
  · rw [fA_value, if_pos rfl, lc_bnd_eq hr, lc_bnd_eq (lc_kd ho.1 ho.2.1 z)]; rfl
  · have hl : fM_leadingNumber z = some (if k = 2 then nI w else lc_fn z k w, z) := by
      rw [fM_leadingNumber, hv, lc_bnd_eq (lc_isC ho.1 ho.2.1 z)]
      by_cases h2 : k = 2
      · rw [if_pos h2, if_neg (show ¬ (1 : Int32) = 0 by decide), if_pos h2, hv, lc_bnd_eq (lc_wo k w z)]
      · rw [if_neg h2, if_pos rfl, if_neg h2, hv, lc_bnd_eq (lc_firstIn z hp.2.1 hp.1 ho)]
    rw [fA_value, if_neg (by decide), if_pos rfl, lc_bnd_eq hl]; rfl
  · rw [fA_value, if_neg (by decide), if_neg (by decide), if_pos rfl, lc_bnd_eq hm, lc_chk_pos rfl, lc_bnd_eq hr, lc_bnd_eq (lc_cellsIn z hp.2.1 hp.1 ho)]; rfl
  · rw [fA_value, if_neg (by decide), if_neg (by decide), if_neg (by decide), if_pos rfl, lc_bnd_eq hm, lc_chk_pos rfl, lc_bnd_eq hr, lc_bnd_eq (lc_numbersIn z hp.2.1 hp.1 ho)]; rfl
theorem lc_valQ0 (z : lc_S) (b : Int32) (hb : b = 0 ∨ b = 1 ∨ b = 2 ∨ b = 3) (h : lcI z 80 46 = 0 ∨ lcI z 80 45 ≠ 0) : fQ_value b z = some (0, lcUI z 80 0 0) := by
  have hh : fQ_hasValue (lcUI z 80 0 0) = some (0, lcUI z 80 0 0) := by
    rw [fQ_hasValue, lcI_UI, if_neg (show ¬ ((80 : Nat) = 80 ∧ 46 = 0) by omega), lcI_UI, if_neg (show ¬ ((80 : Nat) = 80 ∧ 45 = 0) by omega)]
    by_cases h0 : lcI z 80 46 = 0
    · rw [if_pos h0]; rfl
    · rw [if_neg h0, if_neg (by rcases h with h | h; exact absurd h h0; exact h)]; rfl
  have h1 : fQ_value b z = fQ_value_15 b 0 z := by rcases hb with rfl | rfl | rfl | rfl <;> rfl
  rw [h1, fQ_value_15, if_neg (show ¬ 0 < lcI (lcUI z 80 0 0) 80 0 by rw [lcI_UI, if_pos ⟨rfl, rfl⟩]; decide), lc_bnd_eq hh, if_pos rfl]; rfl
theorem lc_valQ {P k w : Nat} (z : lc_S) (b : Int32) (hb : b = 0 ∨ b = 1 ∨ b = 2 ∨ b = 3) (h46 : lcI z 80 46 ≠ 0) (h45 : lcI z 80 45 = 0) (hp : lc_prs z P) (ho : lc_ok P k w) (hv : lcL z 80 47 = lc_mv k w) : ∃ z', fQ_value b z = some (lc_va z b k w, z') ∧ lc_on lc_N2 (lcUI z 80 0 0) z' := by
  have hh : fQ_hasValue (lcUI z 80 0 0) = some (1, lcUI z 80 0 0) := by
    rw [fQ_hasValue, lcI_UI, if_neg (show ¬ ((80 : Nat) = 80 ∧ 46 = 0) by omega), lcI_UI, if_neg (show ¬ ((80 : Nat) = 80 ∧ 45 = 0) by omega), if_neg h46, if_pos h45]
  have hq : lc_qw z (lcUI z 80 0 0) := ⟨fun c k h _ => by rw [lcI_UI, if_neg h], fun c k _ => rfl, fun c k => rfl⟩
  have hp' := lc_prs_qw hq hp
  have hv' : lcL (lcUI z 80 0 0) 80 47 = lc_mv k w := hv
  have h1 : fQ_value b z = fQ_value_15 b 0 z := by rcases hb with rfl | rfl | rfl | rfl <;> rfl
  have hn : ∀ c, c < 120 → ¬ lc_N2 c := fun c hc h => by unfold lc_N2 at h; omega
  rw [h1, fQ_value_15, if_neg (show ¬ 0 < lcI (lcUI z 80 0 0) 80 0 by rw [lcI_UI, if_pos ⟨rfl, rfl⟩]; decide), lc_bnd_eq hh, if_neg (show ¬ (1 : Int32) = 0 by decide), hv']
  have ef : ∀ k w, lc_fn (lcUI z 80 0 0) k w = lc_fn z k w := fun k w => rfl
  have es : ∀ r l k w, r < 80 → lc_sm (lcUI z 80 0 0) r l k w = lc_sm z r l k w := fun r l k w hr => by unfold lc_sm; rw [lcI_UI, if_neg (show ¬ (r = 80 ∧ w = 0) by omega)]
  generalize lcUI z 80 0 0 = y at *
  rcases hb with rfl | rfl | rfl | rfl
  · refine ⟨y, ?_, lc_on_refl _ _⟩
    rw [if_pos rfl, lc_bnd_eq (lc_isNQ ho.1 ho.2.1 ho.2.2.1 y), show lc_va z 0 k w = nI k from rfl]
    have h3 := ho.2.1
    have h0 := ho.1
    by_cases k1 : k = 1
    · subst k1; rfl
    · rw [if_neg k1, if_pos rfl, hv', lc_bnd_eq (lc_isCQ ho.1 ho.2.1 ho.2.2.1 y)]
      by_cases k2 : k = 2
      · subst k2; rfl
      · have : k = 3 := by omega
        subst this; rfl
  · rw [if_neg (by decide), if_pos rfl]
    by_cases k3 : k = 3
    · subst k3
      obtain ⟨z', g1, g2⟩ := lc_first y hp' ho hv'
      refine ⟨z', ?_, g2⟩
      rw [if_pos (lc_cmge.mpr (fun h' => absurd ((lc_ltP ho.1 ho.2.1 ho.2.2.1).mp h') (by decide))), lc_bnd_eq g1, ef]
      rfl
    · refine ⟨y, ?_, lc_on_refl _ _⟩
      rw [if_neg (fun h' => lc_cmge.mp h' ((lc_ltP ho.1 ho.2.1 ho.2.2.1).mpr (by have := ho.2.1; omega))), lc_mlo]
      show _ = some (if k = 2 then nI w else lc_fn z k w, y)
      have h3 := ho.2.1
      have h0 := ho.1
      by_cases k2 : k = 2
      · rw [if_pos k2]
      · rw [if_neg k2, lc_fn, if_neg k3, if_pos (by omega)]
  · obtain ⟨z', g1, g2⟩ := lc_count (Or.inl ⟨rfl, rfl, rfl⟩) y hp' ho hv'
    refine ⟨z', ?_, g2⟩
    rw [if_neg (by decide), if_neg (by decide), if_pos rfl, lc_bnd_eq g1, es _ _ _ _ (by decide)]
    rfl
  · obtain ⟨z', g1, g2⟩ := lc_count (Or.inr ⟨rfl, rfl, rfl⟩) y hp' ho hv'
    refine ⟨z', ?_, g2⟩
    rw [if_neg (by decide), if_neg (by decide), if_neg (by decide), lc_bnd_eq g1, es _ _ _ _ (by decide)]
    rfl
theorem lc_va_out (z : lc_S) (v b : Int32) (k w : Nat) : lc_va (lc_out 0 v z) b k w = lc_va z b k w := rfl
theorem lc_out_L1 (v : Int32) (z : lc_S) : lcL (lc_out 0 v z) 0 (0 : Int32).toNatClampNeg = v.toInt64 := by
  unfold lc_out
  rw [if_pos rfl, lcL_UL, if_pos ⟨rfl, rfl⟩]
theorem lc_qw_out (v : Int32) (z : lc_S) : lc_qw z (lc_out 0 v z) := by
  unfold lc_out
  rw [if_pos rfl]
  exact ⟨fun c k _ _ => rfl, fun c k h => by rw [lcL_UL, if_neg (fun h' => h h'.1)], fun c k => rfl⟩
theorem lc_valueT (z : lc_S) (b : Int32) (h : lc_vl z) : ∃ z', lc_tX (fA_value b) (fQ_value b) (fun k => k = 0 ∨ k = 1) z z' ∧ lc_qw z z' := by
  by_cases hb : b = 0 ∨ b = 1 ∨ b = 2 ∨ b = 3
  · obtain ⟨P, hp, h⟩ := h
    rcases h with ⟨h19, hno⟩ | ⟨h46, h45, k, w, ho, h19, h47⟩
    · have hA := lc_valA z b hb hp ⟨by decide, by decide, fun h => absurd h (by decide)⟩ h19
      have h0 : lc_va z b 0 0 = 0 := by rcases hb with rfl | rfl | rfl | rfl <;> rfl
      rw [h0] at hA
      have hQ := lc_valQ0 (lc_out 0 0 z) b hb (by rw [lc_out_I, lc_out_I]; exact hno)
      exact ⟨_, ⟨0, 0, z, 0, _, hA, Or.inl rfl, hQ, rfl, fun _ => lc_out_L _ _ _⟩, lc_q_qw (lc_q_out _ _ _ _)⟩
    · have hA := lc_valA z b hb hp ho.2 h19
      obtain ⟨z', g1, g2⟩ := lc_valQ (lc_out 0 (lc_va z b k w) z) b hb (by rw [lc_out_I]; exact h46) (by rw [lc_out_I]; exact h45) (lc_prs_qw (lc_qw_out _ _) hp) ho (by rw [(lc_qw_out _ _).2.1 80 47 (by decide)]; exact h47)
      rw [lc_va_out] at g1
      have hn : ¬ lc_N2 80 := fun h => by unfold lc_N2 at h; omega
      refine ⟨z', ⟨0, lc_va z b k w, z, lc_va z b k w, z', hA, Or.inl rfl, g1, ?_, fun _ => ?_⟩, lc_qw_of (lc_q_out 0 _ 0 z) g2⟩
      · rw [fQ_thrown, g2.1 80 0 hn, lcI_UI, if_pos ⟨rfl, rfl⟩]; rfl
      · rw [g2.2.1]; exact lc_out_L _ _ _
  · have hb0 : ¬ b = 0 := fun h => hb (Or.inl h)
    have hb1 : ¬ b = 1 := fun h => hb (Or.inr (Or.inl h))
    have hb2 : ¬ b = 2 := fun h => hb (Or.inr (Or.inr (Or.inl h)))
    have hb3 : ¬ b = 3 := fun h => hb (Or.inr (Or.inr (Or.inr h)))
    refine ⟨lcUI (lc_out 1 0 z) 80 0 1, ⟨1, 0, z, 0, lcUI (lc_out 1 0 z) 80 0 1, ?_, Or.inr rfl, ?_, rfl, fun h => by cases h⟩, lc_q_qw (lc_q_out _ _ _ _)⟩
    · rw [fA_value, if_neg hb0, if_neg hb1, if_neg hb2, if_neg hb3]
    · have hq : fQ_value_10 b (lc_out 1 0 z) = some (0, lcUI (lc_out 1 0 z) 80 0 1) := rfl
      rw [fQ_value]
      by_cases h0 : b < 0
      · rw [if_pos h0]; exact hq
      · rw [if_neg h0, if_neg (fun h4 => ?_)]
        · exact hq
        · obtain ⟨j, hj, rfl⟩ := nI_of2 (n := 3) rfl h0 h4
          have : j = 0 ∨ j = 1 ∨ j = 2 ∨ j = 3 := by omega
          rcases this with rfl | rfl | rfl | rfl
          · exact hb0 rfl
          · exact hb1 rfl
          · exact hb2 rfl
          · exact hb3 rfl
