/-! the first number in a value -/
def lc_h (z : lc_S) (k w : Nat) : Int32 := if k = 3 then lcI z 27 w else if k = 1 then 1 else 0
theorem lc_h_iff (z : lc_S) (k w : Nat) : lc_h z k w ≠ 0 ↔ lc_hb z k w := by
  unfold lc_h lc_hb
  by_cases h3 : k = 3
  · rw [if_pos h3]
    exact ⟨fun h => Or.inl ⟨h3, h⟩, fun h => by rcases h with h | h; exact h.2; omega⟩
  · rw [if_neg h3]
    by_cases h1 : k = 1
    · rw [if_pos h1]; exact ⟨fun _ => Or.inr h1, fun _ => by decide⟩
    · rw [if_neg h1]; exact ⟨fun h => absurd rfl h, fun h => by rcases h with h | h; exact absurd h.1 h3; exact absurd h h1⟩
theorem lc_hasInQ {P k w : Nat} (z : lc_S) (hP1 : P ≤ 120) (h : lc_ok P k w) (hr : ∀ j, j < P → lcI z 120 j = lcI z 27 j) (hz : ∀ j, j < P → lc_zok (lcI z 27 j)) : fQ_hasIn (lc_mv k w) z = some (lc_h z k w, z) := by
  obtain ⟨h0, h4, hw, h3⟩ := h
  rw [fQ_hasIn, lc_h]
  by_cases hk : k = 3
  · subst hk
    have hwP := h3 rfl
    have hc : ((lc_mv 3 w - 8589934592).toInt32).toNatClampNeg = w := by rw [lc_mpair hw, nI_clamp (by omega)]
    rw [if_neg (fun h' => absurd ((lc_ltP h0 h4 hw).mp h') (by decide)), lc_chk_pos (by rw [lc_mpair hw]; exact nI_in (show w < 340 by omega) (by decide)), lc_chk_pos (by rw [hc, hr w hwP]; exact hz w hwP), hc, hr w hwP, if_pos rfl]
  · rw [if_pos ((lc_ltP h0 h4 hw).mpr (by omega)), lc_bnd_eq (lc_isNQ h0 h4 hw z), if_neg hk]
    by_cases h1 : k = 1
    · rw [if_pos h1, lc_chk_pos (by decide)]
    · rw [if_neg h1, lc_chk_pos (by decide)]
theorem lc_zs {z : lc_S} {P : Nat} (hp : lc_prs z P) : ∀ j, j < P → lc_zok (lcI z 27 j) := fun j hj => by
  obtain ⟨k, u, k', u', o1, o2, p1, p2, p3, p4, s1, s2, s3, -⟩ := hp.2.2.2 j hj
  rcases s3 with s3 | s3 <;> rw [s3] <;> decide
theorem lc_h_on {z z' : lc_S} (h : lc_on lc_N2 z z') (k w : Nat) : lc_h z' k w = lc_h z k w := by
  unfold lc_h
  rw [h.1 27 w (fun h => by unfold lc_N2 at h; omega)]
theorem lc_hasL {P k0 w0 : Nat} (ho : lc_ok P k0 w0) : ∀ (m i f : Nat) (z : lc_S), i + m = P → m < f → lc_prs z P → (∀ j, j < i → lcI z 120 j = lcI z 27 j) →
    ∃ z', fQ_has_2 f (lc_mv k0 w0) (nI i) z = some (lc_h z k0 w0, z') ∧ lc_on lc_N2 z z'
  | 0, i, f + 1, z, h, _, hp, hr => by
    have hi : i = P := by omega
    subst hi
    have h120 := hp.1
    have hzo : lc_zok (lc_h z k0 w0) := by
      unfold lc_h
      by_cases h3 : k0 = 3
      · rw [if_pos h3]; exact lc_zs hp w0 (ho.2.2.2 h3)
      · rw [if_neg h3]; split <;> decide
    refine ⟨z, ?_, lc_on_refl _ _⟩
    rw [fQ_has_2, hp.2.2.1, if_pos (nI_le (Nat.le_refl _) (by omega)), lc_bnd_eq (lc_hasInQ z h120 ho hr (lc_zs hp)), lc_chk_pos hzo]
  | m + 1, i, f + 1, z, h, hf, hp, hr => by
    have h120 := hp.1
    have hi : i < P := by omega
    obtain ⟨k, u, k', u', o1, o2, p1, p2, p3, p4, s1, s2, s3, s4, -⟩ := hp.2.2.2 i hi
    have hon : lc_on lc_N2 z (lcUI z 120 i (lcI z 27 i)) := lc_on_UI z i _ (Or.inl rfl)
    obtain ⟨z', g1, g2⟩ := lc_hasL ho m (i + 1) f (lcUI z 120 i (lcI z 27 i)) (by omega) (by omega) (lc_prs_on hon hp) (fun j hj => by
      rw [lcI_UI, lcI_UI, if_neg (show ¬ (27 = 120 ∧ j = i) by omega)]
      by_cases hji : j = i
      · subst hji; rw [if_pos ⟨rfl, rfl⟩]
      · rw [if_neg (by omega)]; exact hr j (by omega))
    rw [lc_h_on hon] at g1
    refine ⟨z', ?_, lc_on_trans hon g2⟩
    have hc : (nI i).toNatClampNeg = i := nI_clamp (by omega)
    have hzi : ∀ j, j < i → lc_zok (lcI z 27 j) := fun j hj => lc_zs hp j (by omega)
    have q1 : fQ_hasIn (lcL z 117 (nI i).toNatClampNeg) z = some (lc_h z k u, z) := by
      rw [hc, p2]; exact lc_hasInQ (P := i) z (by omega) o1 hr hzi
    have q2 : fQ_hasIn (lcL z 118 (nI i).toNatClampNeg) z = some (lc_h z k' u', z) := by
      rw [hc, p4]; exact lc_hasInQ (P := i) z (by omega) o2 hr hzi
    have wr : ∀ t : Int32, t = lcI z 27 i → fQ_has_46 (fQ_has_2 f) (lc_mv k0 w0) (nI i) (nI i) t z = some (lc_h z k0 w0, z') := fun t ht => by
      have hn : vp_nar .boolean t = t := by rw [ht]; rcases s3 with s3 | s3 <;> rw [s3] <;> decide
      rw [fQ_has_46, lc_chk_pos (nI_in (show i < 340 by omega) (by decide)), lc_chk_pos hn, hc, ht]
      show fQ_has_2 f (lc_mv k0 w0) (nI i + 1) _ = _
      rw [nI_1]
      exact g1
    rw [fQ_has_2, hp.2.2.1, if_neg (nI_ge hi (by omega)), lc_chk_pos (nI_in (show i < 120 by omega) (by decide)), lc_bnd_eq q1]
    by_cases b1 : lc_h z k u = 0
    · rw [if_pos b1, lc_chk_pos (nI_in (show i < 120 by omega) (by decide)), lc_bnd_eq q2]
      by_cases b2 : lc_h z k' u' = 0
      · rw [if_pos b2]
        apply wr
        rcases s3 with s3 | s3
        · have := s4.mp (by rw [s3]; decide)
          rcases this with h | h
          · exact absurd b1 ((lc_h_iff z k u).mpr h)
          · exact absurd b2 ((lc_h_iff z k' u').mpr h)
        · exact s3.symm
      · rw [if_neg b2]
        apply wr
        rcases s3 with s3 | s3
        · exact s3.symm
        · exact absurd s3 (s4.mpr (Or.inr ((lc_h_iff z k' u').mp b2)))
    · rw [if_neg b1]
      apply wr
      rcases s3 with s3 | s3
      · exact s3.symm
      · exact absurd s3 (s4.mpr (Or.inl ((lc_h_iff z k u).mp b1)))
theorem lc_has {P k w : Nat} (ho : lc_ok P k w) (z : lc_S) (hp : lc_prs z P) : ∃ z', fQ_has (lc_mv k w) z = some (lc_h z k w, z') ∧ lc_on lc_N2 z z' :=
  lc_hasL ho P 0 lc_FU z (by omega) (by have := hp.1; unfold lc_FU; omega) hp (fun j hj => absurd hj (by omega))
theorem lc_fn0 {z : lc_S} {P : Nat} (hp : lc_prs z P) : ∀ (n k w : Nat), w < n → lc_ok P k w → ¬ lc_hb z k w → lc_fn z k w = 0
  | 0, _, _, h, _, _ => absurd h (by omega)
  | n + 1, k, w, h, ho, hb => by
    unfold lc_fn
    by_cases h3 : k = 3
    · rw [if_pos h3]
      obtain ⟨k1, u, k', u', o1, o2, p1, p2, p3, p4, s1, s2, s3, s4, s5, s6⟩ := hp.2.2.2 w (ho.2.2.2 h3)
      have hn : ¬ (lc_hb z k1 u ∨ lc_hb z k' u') := fun h' => hb (Or.inl ⟨h3, s4.mpr h'⟩)
      rw [s6 (fun h' => hn (Or.inl h'))]
      by_cases h3' : k' = 3
      · exact lc_fn0 hp n k' u' (by have := o2.2.2.2 h3'; omega) (lc_ok_le o2 (by have := ho.2.2.2 h3; omega)) (fun h' => hn (Or.inr h'))
      · unfold lc_fn
        rw [if_neg h3', if_neg (fun h1 => hn (Or.inr (Or.inr h1)))]
    · rw [if_neg h3, if_neg (fun h1 => hb (Or.inr h1))]
