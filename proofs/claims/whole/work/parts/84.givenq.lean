/-! the written types of all procedures: the reference -/
def lc_kY (z z' : lc_S) : Prop := (∀ c k, ¬ (c = 80 ∧ (k = 23 ∨ k = 25)) → ¬ (97 ≤ c ∧ c ≤ 99) → ¬ (c = 101 ∨ c = 102) → lcI z' c k = lcI z c k) ∧ (∀ c k, lcL z' c k = lcL z c k) ∧ ∀ c k, lcR z' c k = lcR z c k
theorem lc_kY.rf {y : lc_S} : lc_kY y y := ⟨fun _ _ _ _ _ => rfl, fun _ _ => rfl, fun _ _ => rfl⟩
theorem lc_kY.tr {x y z : lc_S} (h : lc_kY x y) (g : lc_kY y z) : lc_kY x z := ⟨fun c k a b d => (g.1 c k a b d).trans (h.1 c k a b d), fun c k => (g.2.1 c k).trans (h.2.1 c k), fun c k => (g.2.2 c k).trans (h.2.2 c k)⟩
theorem lc_kV.y {x y : lc_S} (h : lc_kV x y) : lc_kY x y := ⟨fun c k a b _ => h.1 c k a b, h.2.1, h.2.2⟩
theorem lc_kY.u {y : lc_S} {c : Nat} (hc : c = 101 ∨ c = 102) (k : Nat) (v : Int32) : lc_kY y (lcUI y c k v) := ⟨fun c' k' a b d => by rw [lcI_UI, if_neg (by omega)], fun _ _ => rfl, fun _ _ => rfl⟩
theorem lc_kY.sz {x y : lc_S} (h : lc_kY x y) : lc_sz x y := fun c k a b => h.1 c k (by omega) (by omega) (by omega)
def lc_gQ (z : lc_S) (δ : Nat → lc_tp) (n : Nat) (T S : Nat → lc_tp) (k : Nat) (th : Prop) : Prop := th → ∃ a b, a < n ∧ b < n ∧ lcI z 101 k = nI a ∧ lcI z 102 k = nI b ∧ δ a = T k ∧ δ b = S k
theorem lc_gQ_le {y y' : lc_S} {δ δ' : Nat → lc_tp} {n n' : Nat} {T S : Nat → lc_tp} {k : Nat} {th : Prop} (h15 : lcI y' 101 k = lcI y 101 k) (h16 : lcI y' 102 k = lcI y 102 k) (hn : n ≤ n') (hd : ∀ s, s < n → δ' s = δ s) (h : lc_gQ y δ n T S k th) : lc_gQ y' δ' n' T S k th := fun ht => by
  obtain ⟨a, b, h2, h4, h5, h6, h7, h8⟩ := h ht
  exact ⟨a, b, by omega, by omega, by rw [h15]; exact h5, by rw [h16]; exact h6, by rw [hd a h2]; exact h7, by rw [hd b h4]; exact h8⟩
theorem lc_fwQL {y : lc_S} {T S : Nat → lc_tp} {ok : Nat → Nat} {th : Nat → Prop} {kk : Nat} (hkk : kk < 4) : ∀ (m i f : Nat) (z : lc_S) (δ : Nat → lc_tp) (n : Nat), i + m = 4 → m < f → lc_TQ z δ n → n ≤ 2 + 30 * i → (∀ k, k < 4 → (th k ↔ 0 < lcI z 89 (k + 1)) ∧ lc_sh (ok k) = (0, 1, 0) ∧ (th k → lc_PT y z k (ok k) (T k) (S k))) → (∀ k, k < i → lc_gQ z δ n T S k (th k)) →
    ∃ z' δ' n', fQ_find_7 f (nI kk) (nI i) z = fQ_find_80 lc_FU (nI kk) (lcI z 89 (kk + 1)) 0 z' ∧ lc_TQ z' δ' n' ∧ n' ≤ 122 ∧ (∀ k, k < 4 → lc_gQ z' δ' n' T S k (th k)) ∧ lc_kY z z'
  | 0, i, f + 1, z, δ, n, hi, _, hT, hn, hP, hg => by
    have hi : i = 4 := by omega
    subst hi
    have c1 : lc_in (nI (kk + 1)) 5 := nI_in (by omega) (by decide)
    have d1 : (nI (kk + 1)).toNatClampNeg = kk + 1 := nI_clamp (by omega)
    exact ⟨z, δ, n, by rw [fQ_find_7, if_pos (by decide), nI_1, lc_chk_pos c1, d1, lc_let_eq], hT, by omega, hg, lc_kY.rf⟩
  | m + 1, i, f + 1, z, δ, n, hi, hf, hT, hn, hP, hg => by
    obtain ⟨p1, p2, p3⟩ := hP i (by omega)
    have c1 : lc_in (nI i) 4 := nI_in (by omega) (by decide)
    have d1 : (nI i).toNatClampNeg = i := nI_clamp (by omega)
    have n1 : ¬ (4 : Int32) ≤ nI i := nI_ge (b := 4) (by omega) (by decide)
    have hth := lc_isThereQ (z := z) (c := i) (by omega)
    have hb : (120 : Int32) * (nI i + 1) = nI (120 * (i + 1)) := by rw [nI_1, show (120 : Int32) = nI 120 from rfl, pk_mul]
    have s90 : lc_sh 90 = (1, 0, 600) := by decide +kernel
    have s91 : lc_sh 91 = (1, 0, 600) := by decide +kernel
    by_cases ht : th i
    · rw [if_pos (p1.mp ht)] at hth
      obtain ⟨h1, h2, -, ⟨h, a1, a2, a3⟩, -⟩ := p3 ht
      obtain ⟨z2, δ2, n2, t2, w1, w2, w3, w4, w6, w7, w8, w9⟩ := lc_wroteQ s90 (Or.inl rfl) a2 a3 (by omega) h1 hT (by omega)
      obtain ⟨z3, ey3⟩ : ∃ x, x = lcUI z2 101 i (nI t2) := ⟨_, rfl⟩
      have k3 : lc_kY z z3 := by rw [ey3]; exact w9.y.tr (lc_kY.u (Or.inl rfl) _ _)
      have T3 : lc_TQ z3 δ2 n2 := lc_TQ_eq (by rw [ey3]; simp only [lcI_UI, lcI_UL, lcI_UR, lcL_UI, lcL_UL, lcL_UR, lcR_UI, lcR_UL, lcR_UR, false_and, and_false, true_and, and_true, and_self, ↓reduceIte, Nat.reduceEqDiff, lc_let_eq]) (fun j => by rw [ey3]; simp only [lcI_UI, lcI_UL, lcI_UR, lcL_UI, lcL_UL, lcL_UR, lcR_UI, lcR_UL, lcR_UR, false_and, and_false, true_and, and_true, and_self, ↓reduceIte, Nat.reduceEqDiff, lc_let_eq]) (fun j => by rw [ey3]; simp only [lcI_UI, lcI_UL, lcI_UR, lcL_UI, lcL_UL, lcL_UR, lcR_UI, lcR_UL, lcR_UR, false_and, and_false, true_and, and_true, and_self, ↓reduceIte, Nat.reduceEqDiff, lc_let_eq]) w2
      obtain ⟨-, -, -, -, ⟨h', b1, b2, b3⟩⟩ := lc_PT_eq (y := y) (z := z) (y' := y) (z' := z3) p2 (fun _ _ _ _ => rfl) k3.sz (p3 ht)
      obtain ⟨z4, δ4, n4, t4, v1, v2, v3, v4, v6, v7, v8, v9⟩ := lc_wroteQ s91 (Or.inr rfl) b2 b3 (by omega) h2 T3 (by omega)
      obtain ⟨z5, ey5⟩ : ∃ x, x = lcUI z4 102 i (nI t4) := ⟨_, rfl⟩
      have k5 : lc_kY z3 z5 := by rw [ey5]; exact v9.y.tr (lc_kY.u (Or.inr rfl) _ _)
      have T5 : lc_TQ z5 δ4 n4 := lc_TQ_eq (by rw [ey5]; simp only [lcI_UI, lcI_UL, lcI_UR, lcL_UI, lcL_UL, lcL_UR, lcR_UI, lcR_UL, lcR_UR, false_and, and_false, true_and, and_true, and_self, ↓reduceIte, Nat.reduceEqDiff, lc_let_eq]) (fun j => by rw [ey5]; simp only [lcI_UI, lcI_UL, lcI_UR, lcL_UI, lcL_UL, lcL_UR, lcR_UI, lcR_UL, lcR_UR, false_and, and_false, true_and, and_true, and_self, ↓reduceIte, Nat.reduceEqDiff, lc_let_eq]) (fun j => by rw [ey5]; simp only [lcI_UI, lcI_UL, lcI_UR, lcL_UI, lcL_UL, lcL_UR, lcR_UI, lcR_UL, lcR_UR, false_and, and_false, true_and, and_true, and_self, ↓reduceIte, Nat.reduceEqDiff, lc_let_eq]) v2
      have kk' := k3.tr k5
      have r15 : ∀ k, lcI z5 101 k = if k = i then nI t2 else lcI z 101 k := fun k => by
        rw [ey5, lcI_UI, if_neg (by omega), v9.1 _ _ (by omega) (by omega), ey3, lcI_UI]
        by_cases hk : k = i
        · rw [if_pos ⟨rfl, hk⟩, if_pos hk]
        · rw [if_neg (fun h => hk h.2), if_neg hk, w9.1 _ _ (by omega) (by omega)]
      have r16 : ∀ k, lcI z5 102 k = if k = i then nI t4 else lcI z 102 k := fun k => by
        rw [ey5, lcI_UI]
        by_cases hk : k = i
        · rw [if_pos ⟨rfl, hk⟩, if_pos hk]
        · rw [if_neg (fun h => hk h.2), if_neg hk, v9.1 _ _ (by omega) (by omega), ey3, lcI_UI, if_neg (by omega), w9.1 _ _ (by omega) (by omega)]
      have e89 : ∀ k, lcI z5 89 k = lcI z 89 k := fun k => kk'.1 _ _ (by omega) (by omega) (by omega)
      obtain ⟨y', δ', n', q1, q2, q3, q4, q5⟩ := lc_fwQL (y := y) (T := T) (S := S) (ok := ok) (th := th) hkk m (i + 1) f z5 δ4 n4 (by omega) (by omega) T5 (by omega) (fun k hk => by
        obtain ⟨b1, b2, b3⟩ := hP k hk
        exact ⟨by rw [e89]; exact b1, b2, fun h => lc_PT_eq (y := y) (z := z) (y' := y) (z' := z5) b2 (fun _ _ _ _ => rfl) kk'.sz (b3 h)⟩) (fun k hk => by
        by_cases hki : k = i
        · subst hki
          exact fun _ => ⟨t2, t4, by omega, v6, by rw [r15, if_pos rfl], by rw [r16, if_pos rfl], by rw [v8 _ w6]; exact w7, v7⟩
        · exact lc_gQ_le (by rw [r15, if_neg hki]) (by rw [r16, if_neg hki]) (by omega) (fun s hs => by rw [v8 s (by omega), w8 s hs]) (hg k (by omega)))
      refine ⟨y', δ', n', ?_, q2, q3, q4, kk'.tr q5⟩
      rw [fQ_find_7, if_neg n1, lc_bnd_eq hth, if_neg (by decide), hb, lc_bnd_eq w1]
      simp only [lc_chk_pos c1, d1]
      rw [← ey3, lc_bnd_eq v1, ← ey5, fQ_find_63, lc_let_eq, nI_1, ← e89]
      exact q1
    · rw [if_neg (fun h => ht (p1.mpr h))] at hth
      obtain ⟨y', δ', n', q1, q2, q3, q4, q5⟩ := lc_fwQL (y := y) (T := T) (S := S) (ok := ok) (th := th) hkk m (i + 1) f z δ n (by omega) (by omega) hT (by omega) hP (fun k hk => by
        by_cases hki : k = i
        · subst hki; exact fun h => absurd h ht
        · exact hg k (by omega))
      refine ⟨y', δ', n', ?_, q2, q3, q4, q5⟩
      rw [fQ_find_7, if_neg n1, lc_bnd_eq hth, if_pos rfl, fQ_find_63, lc_let_eq, nI_1]
      exact q1
theorem lc_fwQ {y z : lc_S} {T S : Nat → lc_tp} {ok : Nat → Nat} {th : Nat → Prop} {kk : Nat} (hkk : kk < 4) (hP : ∀ k, k < 4 → (th k ↔ 0 < lcI z 89 (k + 1)) ∧ lc_sh (ok k) = (0, 1, 0) ∧ (th k → lc_PT y z k (ok k) (T k) (S k))) :
    ∃ z' δ' n', fQ_find (nI kk) z = fQ_find_80 lc_FU (nI kk) (lcI z 89 (kk + 1)) 0 z' ∧ lc_TQ z' δ' n' ∧ n' ≤ 122 ∧ (∀ k, k < 4 → lc_gQ z' δ' n' T S k (th k)) ∧ lc_kY z z' := by
  have k1 : lc_kY z (lcUI z 80 25 2) := ⟨fun c k a b d => by rw [lcI_UI, if_neg (by omega)], fun _ _ => rfl, fun _ _ => rfl⟩
  obtain ⟨δ, d1, d2⟩ : ∃ δ : Nat → lc_tp, δ 0 = .nil ∧ δ 1 = .line := ⟨fun s => if s = 0 then .nil else .line, if_pos rfl, if_neg (by decide)⟩
  have hT : lc_TQ (lcUI z 80 25 2) δ 2 := by
    refine ⟨by simp only [lcI_UI, lcI_UL, lcI_UR, lcL_UI, lcL_UL, lcL_UR, lcR_UI, lcR_UL, lcR_UR, false_and, and_false, true_and, and_true, and_self, ↓reduceIte, Nat.reduceEqDiff, lc_let_eq]; rfl, by decide, by decide, d1, d2, fun t a b => absurd b (by omega), fun s t sn tn hst => ?_⟩
    obtain rfl | rfl : s = 0 ∨ s = 1 := by omega
    · obtain rfl | rfl : t = 0 ∨ t = 1 := by omega
      · rfl
      · rw [d1, d2] at hst; cases hst
    · obtain rfl | rfl : t = 0 ∨ t = 1 := by omega
      · rw [d1, d2] at hst; cases hst
      · rfl
  have e89 : ∀ k, lcI (lcUI z 80 25 2) 89 k = lcI z 89 k := fun k => by simp only [lcI_UI, lcI_UL, lcI_UR, lcL_UI, lcL_UL, lcL_UR, lcR_UI, lcR_UL, lcR_UR, false_and, and_false, true_and, and_true, and_self, ↓reduceIte, Nat.reduceEqDiff, lc_let_eq]
  obtain ⟨z', δ', n', q1, q2, q3, q4, q5⟩ := lc_fwQL (y := y) (T := T) (S := S) (ok := ok) (th := th) hkk 4 0 lc_FU (lcUI z 80 25 2) δ 2 rfl (by unfold lc_FU; omega) hT (by omega) (fun k hk => by
    obtain ⟨b1, b2, b3⟩ := hP k hk
    exact ⟨by rw [e89]; exact b1, b2, fun h => lc_PT_eq (y := y) (z := z) (y' := y) (z' := lcUI z 80 25 2) b2 (fun _ _ _ _ => rfl) k1.sz (b3 h)⟩) (fun k hk => absurd hk (by omega))
  rw [e89] at q1
  exact ⟨z', δ', n', by rw [fQ_find]; exact q1, q2, q3, q4, k1.tr q5⟩
