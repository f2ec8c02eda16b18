/-! a run: its steps one after the other -/
theorem lc_X_77 {y z : lc_S} (h : lc_XT y z) (f : Nat) (x : Int32) : fM_trapOf_45 (f + 1) x y = fM_trapOf_77 y ∧ fQ_run_111 (f + 1) z = fQ_run_132 z := by
  obtain ⟨h1, h2, -⟩ := h
  refine ⟨?_, ?_⟩
  · rw [fM_trapOf_45]
    by_cases c1 : 6000 ≤ x
    · rw [if_pos c1]
    · rw [if_neg c1]
      by_cases c2 : lcI y 19 11 ≤ 0
      · rw [if_pos c2]
      · rw [if_neg c2, if_neg h1]
  · rw [fQ_run_111]
    by_cases c2 : lcI z 80 33 ≤ 0
    · rw [if_pos c2]
    · rw [if_neg c2, if_neg (by rw [h2]; exact h1)]
theorem lc_loopR : ∀ (m : Nat) (y z : lc_S) (t b N P st f f' : Nat), st + m = 6000 → m + 1 < f → m + 1 < f' → lc_J y z t b N P st → ∃ y' z', fM_trapOf_45 f (nI st) y = fM_trapOf_77 y' ∧ fQ_run_111 f' z = fQ_run_132 z' ∧ (lc_XT y' z' ∨ ∃ b N P st', lc_J y' z' 0 b N P st')
  | m, y, z, 0, b, N, P, st, f, f', hm, hf, hf', h => by
    obtain ⟨f, rfl⟩ : ∃ g, f = g + 1 := ⟨f - 1, by omega⟩
    obtain ⟨f', rfl⟩ : ∃ g, f' = g + 1 := ⟨f' - 1, by omega⟩
    obtain ⟨a1, a2, -⟩ := h.1
    refine ⟨y, z, ?_, ?_, Or.inr ⟨b, N, P, st, h⟩⟩
    · rw [fM_trapOf_45, a1, if_pos (show nI 0 ≤ 0 by decide)]
      by_cases c : 6000 ≤ nI st
      · rw [if_pos c]
      · rw [if_neg c]
    · rw [fQ_run_111, a2, if_pos (show nI 0 ≤ 0 by decide)]
  | 0, y, z, t + 1, b, N, P, st, f, f', hm, hf, hf', h => by
    exfalso
    obtain ⟨⟨a1, a2, a3, a4, a5, -⟩, ⟨dd, ee, e1, -⟩, h1, h3, -⟩ := h
    obtain ⟨o, k, D, lo, i, p, hi, s, g1, g2, g3, g4, g5, g6, g7, g8, g9, g10, g11, g12, g13, -⟩ := e1 t (by omega)
    rw [lc_c3, g3, nI_clamp (by omega)] at h3
    omega
  | m + 1, y, z, t + 1, b, N, P, st, f, f', hm, hf, hf', h => by
    obtain ⟨f, rfl⟩ : ∃ g, f = g + 1 := ⟨f - 1, by omega⟩
    obtain ⟨f', rfl⟩ : ∃ g, f' = g + 1 := ⟨f' - 1, by omega⟩
    obtain ⟨y1, z1, e1, e2, e3⟩ := lc_step h
    have ht : t + 1 < 2 ^ 31 := by
      obtain ⟨dd, ee, o, k, D, lo, i, p, hi, s, s2, ht, -⟩ := lc_J_T h
      omega
    obtain ⟨a1, a2, a3, a4, a5, a6, a7, -⟩ := h.1
    have hA : fM_trapOf_45 (f + 1) (nI st) y = fM_trapOf_45 f (nI (st + 1)) y1 := by
      rw [fM_trapOf_45, if_neg (show ¬ (6000 : Int32) ≤ nI st from nI_ge (b := 6000) (by omega) (by decide)), a1, if_neg (nI_nle (by omega) ht), if_pos a6, lc_bnd_eq e1, lc_let_eq, nI_1]
    have hQ : fQ_run_111 (f' + 1) z = fQ_run_111 f' z1 := by
      rw [fQ_run_111, a2, if_neg (nI_nle (by omega) ht), if_pos a7, lc_bnd_eq e2]
    rw [hA, hQ]
    rcases e3 with ⟨t', b', N', P', hJ⟩ | hX
    · exact lc_loopR m y1 z1 t' b' N' P' (st + 1) f f' (by omega) (by omega) (by omega) hJ
    · obtain ⟨f, rfl⟩ : ∃ g, f = g + 1 := ⟨f - 1, by omega⟩
      obtain ⟨f', rfl⟩ : ∃ g, f' = g + 1 := ⟨f' - 1, by omega⟩
      exact ⟨y1, z1, (lc_X_77 hX f _).1, (lc_X_77 hX f' 0).2, Or.inl hX⟩
/-- the end of a run: class and reference -/
def lc_F (y z : lc_S) : Prop := ∃ P, P ≤ 120 ∧ lcI y 20 10 = nI P ∧ lcI z 80 53 = nI P ∧ (∀ i, i < P → lc_pg (lcL z) y i) ∧
  ((lcL y 19 4 = lc_cv 0 0 ∧ lcI z 80 45 ≠ 0) ∨ (lcI z 80 45 = 0 ∧ ∃ k w, lc_ok P k w ∧ lcL y 19 4 = lc_cv k w ∧ lcL z 80 47 = lc_mv k w)) ∧
  (∀ j, j < 12 → lcI y 21 j = lcI z 115 j ∧ (lcI z 115 j ≠ 0 → lcI y 22 j = lcI z 116 j)) ∧ lcI y 20 2 = lcI z 80 49 ∧ lcI y 20 3 = lcI z 80 50 ∧ lcI y 19 2 = lcI z 80 48 ∧ lcI y 20 2 - lcI y 20 3 = nI (lc_nf z 12)
theorem lc_F_of {y z : lc_S} {P : Nat} (hM : lc_M2 y z P) (h2 : lcI y 19 2 = lcI z 80 48) (hv : (lcL y 19 4 = lc_cv 0 0 ∧ lcI z 80 45 ≠ 0) ∨ (lcI z 80 45 = 0 ∧ ∃ k w, lc_ok P k w ∧ lcL y 19 4 = lc_cv k w ∧ lcL z 80 47 = lc_mv k w)) : ∃ y', fM_trapOf_89 y = some (lcI y 19 3, y') ∧ lc_F y' z := by
  obtain ⟨m1, m2, m3, m4, m5, m6, m7, m8⟩ := hM
  obtain ⟨y', e1, e2, e3⟩ := lc_sum (g := lcL z) m6 y m4 (fun j hj => by
    obtain ⟨a, b, c, d, q1, q2, q3, q4, q5, q6⟩ := m8 j hj
    exact ⟨a, b, c, d, q1.1, q2.1, q3, q4, q5, q6⟩)
  have hI : ∀ c k, c < 25 → lcI y' c k = lcI y c k := fun c k hc => e2.1 c k (fun h => by unfold lc_C4 at h; omega)
  refine ⟨y', ?_, P, m6, by rw [hI _ _ (by omega)]; exact m4, m5, e3, ?_, fun j hj => ?_, ?_, ?_, ?_, ?_⟩
  · rw [fM_trapOf_89, lc_bnd_eq e1, hI _ _ (by omega)]
  · rw [e2.2.1]; exact hv
  · rw [hI _ _ (by omega), hI _ _ (by omega)]; exact m1 j hj
  · rw [hI _ _ (by omega)]; exact m2
  · rw [hI _ _ (by omega)]; exact m3
  · rw [hI _ _ (by omega)]; exact h2
  · rw [hI _ _ (by omega), hI _ _ (by omega)]; exact m7
theorem lc_loopF {y z : lc_S} {t b N P : Nat} (h : lc_J y z t b N P 0) : ∃ r y' z', fM_trapOf_45 lc_FU 0 y = some (r, y') ∧ fQ_run_111 lc_FU z = some (r, z') ∧ lc_F y' z' := by
  obtain ⟨y1, z1, e1, e2, e3⟩ := lc_loopR 6000 y z t b N P 0 lc_FU lc_FU rfl (by unfold lc_FU; omega) (by unfold lc_FU; omega) h
  rcases e3 with ⟨h1, h2, ⟨P', hM⟩, ⟨b', h3, h4⟩, -⟩ | ⟨b', N', P', st', hJ⟩
  · obtain ⟨y2, g1, g2⟩ := lc_F_of (y := lcUL y1 19 4 0) (z := z1) (P := P') (lc_M2_eq (fun c k _ _ => rfl) (fun c k hc => by rw [lcL_UL, if_neg (by omega)]) (fun c k _ _ => rfl) rfl rfl rfl (fun c k _ => rfl) hM) (by rw [lcI_UL, h3, h4]) (Or.inl ⟨by rw [lcL_UL, if_pos ⟨rfl, rfl⟩]; rfl, by rw [h2]; exact h1⟩)
    refine ⟨lcI y1 19 3, y2, z1, ?_, ?_, g2⟩
    · rw [show (0 : Int32) = nI 0 from rfl, e1, fM_trapOf_77, if_neg h1]; exact g1
    · rw [e2, fQ_run_132, h2]
  · obtain ⟨⟨a1, a2, a3, a4, a5, a6, a7, a8, a9, a10, a11⟩, -, -, -, hV⟩ := hJ
    obtain ⟨k, w, v1, v2, v3⟩ := hV (Or.inl rfl)
    obtain ⟨y2, g1, g2⟩ := lc_F_of a10 (by rw [a3, a4]) (Or.inr ⟨a7, k, w, v1.1, v2, v3⟩)
    refine ⟨lcI y1 19 3, y2, z1, ?_, ?_, g2⟩
    · rw [show (0 : Int32) = nI 0 from rfl, e1, fM_trapOf_77, if_pos a6]; exact g1
    · rw [e2, fQ_run_132, a6, a7]
