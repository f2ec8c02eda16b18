/-! value: class and reference -/
theorem lc_fn_on {z z' : lc_S} (h : lc_on lc_N2 z z') (k w : Nat) : lc_fn z' k w = lc_fn z k w := by
  unfold lc_fn
  rw [h.1 28 w (fun h => by unfold lc_N2 at h; omega)]
theorem lc_first1 (f : Nat) (x : Int64) (z : lc_S) : fQ_firstNumber_14 (f + 1) x 1 z = some (0, z) := by
  have h : fQ_firstNumber_100 x 1 z = some (0, z) := rfl
  rw [fQ_firstNumber_14]
  by_cases h0 : lg_cmp x 8589934592 < 0
  · rw [if_pos h0]; exact h
  · rw [if_neg h0, if_neg (show ¬ (1 : Int32) = 0 by decide)]; exact h
theorem lc_firstL {P : Nat} : ∀ (n f k w : Nat) (z : lc_S), (k = 3 → w < n) → n + 1 < f → lc_prs z P → lc_ok P k w → ∃ z', fQ_firstNumber_14 f (lc_mv k w) 0 z = some (lc_fn z k w, z') ∧ lc_on lc_N2 z z'
  | n, f + 1, k, w, z, hn, hf, hp, ho => by
    by_cases hk : k = 3
    · subst hk
      have hwn := hn rfl
      have h120 := hp.1
      have hwP := ho.2.2.2 rfl
      obtain ⟨n, rfl⟩ : ∃ m, n = m + 1 := ⟨n - 1, by omega⟩
      obtain ⟨f, rfl⟩ : ∃ m, f = m + 1 := ⟨f - 1, by omega⟩
      obtain ⟨k1, u, k', u', o1, o2, p1, p2, p3, p4, s1, s2, s3, s4, s5, s6⟩ := hp.2.2.2 w hwP
      have hc : (nI w).toNatClampNeg = w := nI_clamp (by omega)
      obtain ⟨z1, g1, e1⟩ := lc_has (lc_ok_le o1 (show w ≤ P by omega)) z hp
      obtain ⟨z2, g2, e2⟩ := lc_has (lc_ok_le o2 (show w ≤ P by omega)) z1 (lc_prs_on e1 hp)
      have e12 := lc_on_trans e1 e2
      have q1 : fQ_has (lcL z 117 (nI w).toNatClampNeg) z = some (lc_h z k1 u, z1) := by rw [hc, p2]; exact g1
      have q2 : fQ_has (lcL z1 118 (nI w).toNatClampNeg) z1 = some (lc_h z k' u', z2) := by rw [hc, e1.2.1, p4, g2, lc_h_on e1]
      have hfn : lc_fn z 3 w = lcI z 28 w := by unfold lc_fn; rw [if_pos rfl]
      have hin : lc_in (nI w) 120 := nI_in (show w < 120 by omega) (by decide)
      rw [fQ_firstNumber_14, if_neg (fun h' => absurd ((lc_ltP ho.1 ho.2.1 ho.2.2.1).mp h') (by decide)), if_pos rfl, lc_mpair ho.2.2.1]
      show ∃ z', lc_chk (lc_in (nI w) 120) (lc_bnd (fQ_has (lcL z 117 (nI w).toNatClampNeg) z) _) = some (lc_fn z 3 w, z') ∧ lc_on lc_N2 z z'
      rw [lc_chk_pos hin, lc_bnd_eq q1]
      by_cases b1 : lc_h z k1 u = 0
      · have nb1 : ¬ lc_hb z k1 u := fun h => (lc_h_iff z k1 u).mpr h b1
        rw [if_pos b1, lc_chk_pos hin, lc_bnd_eq q2]
        by_cases b2 : lc_h z k' u' = 0
        · have nb2 : ¬ lc_hb z k' u' := fun h => (lc_h_iff z k' u').mpr h b2
          refine ⟨z2, ?_, e12⟩
          rw [if_pos b2, fQ_firstNumber_72, if_pos b1, lc_chk_pos hin, fQ_firstNumber_96, lc_first1, hfn, s6 nb1, lc_fn0 hp (u' + 1) k' u' (by omega) (lc_ok_le o2 (by omega)) nb2]
        · obtain ⟨z', a1, a2⟩ := lc_firstL n (f + 1) k' u' z2 (fun h => by have := o2.2.2.2 h; omega) (by omega) (lc_prs_on e12 hp) (lc_ok_le o2 (by omega))
          refine ⟨z', ?_, lc_on_trans e12 a2⟩
          rw [if_neg b2, fQ_firstNumber_71, fQ_firstNumber_72, if_pos b1, lc_chk_pos hin, fQ_firstNumber_96, hc, e12.2.1, p4, a1, lc_fn_on e12, hfn, s6 nb1]
      · obtain ⟨z', a1, a2⟩ := lc_firstL n (f + 1) k1 u z1 (fun h => by have := o1.2.2.2 h; omega) (by omega) (lc_prs_on e1 hp) (lc_ok_le o1 (by omega))
        refine ⟨z', ?_, lc_on_trans e1 a2⟩
        rw [if_neg b1, fQ_firstNumber_71, fQ_firstNumber_72, if_neg b1, lc_chk_pos hin, fQ_firstNumber_96, hc, e1.2.1, p2, a1, lc_fn_on e1, hfn, s5 ((lc_h_iff z k1 u).mp b1)]
    · refine ⟨z, ?_, lc_on_refl _ _⟩
      rw [fQ_firstNumber_14, if_pos ((lc_ltP ho.1 ho.2.1 ho.2.2.1).mpr (by have := ho.2.1; omega)), fQ_firstNumber_100, if_pos rfl, lc_bnd_eq (lc_isNQ ho.1 ho.2.1 ho.2.2.1 z), lc_fn, if_neg hk]
      by_cases h1 : k = 1
      · rw [if_pos h1, if_neg (show ¬ (1 : Int32) = 0 by decide), if_pos h1, lc_mlo]
      · rw [if_neg h1, if_pos rfl, if_neg h1]; rfl
  termination_by n => n
theorem lc_first {P k w : Nat} (z : lc_S) (hp : lc_prs z P) (ho : lc_ok P k w) (hv : lcL z 80 47 = lc_mv k w) : ∃ z', fQ_firstNumber z = some (lc_fn z k w, z') ∧ lc_on lc_N2 z z' := by
  obtain ⟨z1, g1, e1⟩ := lc_count (Or.inr ⟨rfl, rfl, rfl⟩) z hp ho hv
  have h120 := hp.1
  obtain ⟨z2, g2, e2⟩ := lc_firstL P lc_FU k w z1 ho.2.2.2 (by unfold lc_FU; omega) (lc_prs_on e1 hp) ho
  refine ⟨z2, ?_, lc_on_trans e1 e2⟩
  rw [fQ_firstNumber, lc_bnd_eq g1]
  show fQ_firstNumber_14 lc_FU (lcL z1 80 47) 0 z1 = _
  rw [e1.2.1, hv, g2, lc_fn_on e1]
