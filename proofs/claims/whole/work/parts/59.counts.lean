/-! counts of the reference -/
def lc_on (A : Nat → Prop) (z z' : lc_S) : Prop := (∀ c k, ¬ A c → lcI z' c k = lcI z c k) ∧ (∀ c k, lcL z' c k = lcL z c k) ∧ ∀ c k, lcR z' c k = lcR z c k
theorem lc_on_refl (A : Nat → Prop) (z : lc_S) : lc_on A z z := ⟨fun _ _ _ => rfl, fun _ _ => rfl, fun _ _ => rfl⟩
theorem lc_on_trans {A : Nat → Prop} {x y z : lc_S} (h1 : lc_on A x y) (h2 : lc_on A y z) : lc_on A x z := ⟨fun c k h => by rw [h2.1 c k h, h1.1 c k h], fun c k => by rw [h2.2.1, h1.2.1], fun c k => by rw [h2.2.2, h1.2.2]⟩
theorem lc_on_UI {A : Nat → Prop} (z : lc_S) {c : Nat} (k : Nat) (v : Int32) (h : A c) : lc_on A z (lcUI z c k v) := ⟨fun c' k' h' => by rw [lcI_UI, if_neg (fun e => h' (by rw [e.1]; exact h))], fun _ _ => rfl, fun _ _ => rfl⟩
theorem lc_pr_eq {z z' : lc_S} (hI : ∀ c k, 25 ≤ c → c ≤ 28 → lcI z' c k = lcI z c k) (hL : ∀ c k, c ≠ 0 → lcL z' c k = lcL z c k) {i : Nat} (h : lc_pr z i) : lc_pr z' i := by
  obtain ⟨k, w, k', w', o1, o2, p1, p2, p3, p4, s1, s2, s3, s4, s5, s6⟩ := h
  have e1 : ∀ a b, lc_sm z' 25 2 a b = lc_sm z 25 2 a b := fun a b => by unfold lc_sm; rw [hI 25 b (by decide) (by decide)]
  have e2 : ∀ a b, lc_sm z' 26 1 a b = lc_sm z 26 1 a b := fun a b => by unfold lc_sm; rw [hI 26 b (by decide) (by decide)]
  have e3 : ∀ a b, lc_hb z' a b = lc_hb z a b := fun a b => by unfold lc_hb; rw [hI 27 b (by decide) (by decide)]
  have e4 : ∀ a b, lc_fn z' a b = lc_fn z a b := fun a b => by unfold lc_fn; rw [hI 28 b (by decide) (by decide)]
  refine ⟨k, w, k', w', o1, o2, ?_, ?_, ?_, ?_, ?_, ?_, ?_, ?_, ?_, ?_⟩
  · rw [hL _ _ (by decide)]; exact p1
  · rw [hL _ _ (by decide)]; exact p2
  · rw [hL _ _ (by decide)]; exact p3
  · rw [hL _ _ (by decide)]; exact p4
  · rw [hI _ _ (by decide) (by decide), e1, e1]; exact s1
  · rw [hI _ _ (by decide) (by decide), e2, e2]; exact s2
  · rw [hI _ _ (by decide) (by decide)]; exact s3
  · rw [hI _ _ (by decide) (by decide), e3, e3]; exact s4
  · rw [hI _ _ (by decide) (by decide), e3, e4]; exact s5
  · rw [hI _ _ (by decide) (by decide), e3, e4]; exact s6
def lc_prs (z : lc_S) (P : Nat) : Prop := P ≤ 120 ∧ lcI z 20 10 = nI P ∧ lcI z 80 53 = nI P ∧ ∀ i, i < P → lc_pr z i
def lc_N2 (c : Nat) : Prop := c = 120 ∨ c = 121
theorem lc_prs_on {z z' : lc_S} {P : Nat} (h : lc_on lc_N2 z z') (hp : lc_prs z P) : lc_prs z' P := by
  obtain ⟨h1, h2, h3, h4⟩ := hp
  have hn : ∀ c, c < 120 → ¬ lc_N2 c := fun c hc h => by unfold lc_N2 at h; omega
  refine ⟨h1, ?_, ?_, fun i hi => lc_pr_eq (fun c k _ hc => h.1 c k (hn c (by omega))) (fun c k _ => h.2.1 c k) (h4 i hi)⟩
  · rw [h.1 _ _ (hn _ (by decide))]; exact h2
  · rw [h.1 _ _ (hn _ (by decide))]; exact h3
theorem lc_ok_le {m n k w : Nat} (h : lc_ok m k w) (hm : m ≤ n) : lc_ok n k w := ⟨h.1, h.2.1, h.2.2.1, fun h3 => by have := h.2.2.2 h3; omega⟩
theorem lc_countL {P w row leaf : Nat} {a : Int32} (ha : (a = 1 ∧ row = 25 ∧ leaf = 2) ∨ (a = 0 ∧ row = 26 ∧ leaf = 1)) (hw : w < P) : ∀ (m i f : Nat) (z : lc_S), i + m = P → m < f → lc_prs z P → (∀ j, j < i → lcI z 121 j = lcI z row j) → lcL z 80 47 = lc_mv 3 w →
    ∃ z', fQ_count_30 f a (nI i) z = some (lcI z row w, z') ∧ lc_on lc_N2 z z'
  | 0, i, f + 1, z, h, _, hp, hr, hv => by
    have hi : i = P := by omega
    subst hi
    have h120 := hp.1
    refine ⟨z, ?_, lc_on_refl _ _⟩
    rw [fQ_count_30, hp.2.2.1, if_pos (nI_le (Nat.le_refl _) (by omega)), hv, lc_mpair (by omega), lc_chk_pos (nI_in (show w < 340 by omega) (by decide)), nI_clamp (by omega), hr w hw]
  | m + 1, i, f + 1, z, h, hf, hp, hr, hv => by
    have h120 := hp.1
    have hi : i < P := by omega
    obtain ⟨k, u, k', u', o1, o2, p1, p2, p3, p4, s1, s2, -⟩ := hp.2.2.2 i hi
    have hla : (a = 1 ∧ leaf = 2) ∨ (a = 0 ∧ leaf = 1) := by rcases ha with ⟨h1, -, h3⟩ | ⟨h1, -, h3⟩ <;> simp [h1, h3]
    have hs : lc_sm z row leaf k u + lc_sm z row leaf k' u' = lcI z row i := by
      rcases ha with ⟨-, rfl, rfl⟩ | ⟨-, rfl, rfl⟩
      · exact s1.symm
      · exact s2.symm
    have hrow : row < 27 := by omega
    have hon : lc_on lc_N2 z (lcUI z 121 i (lcI z row i)) := lc_on_UI z i _ (Or.inr rfl)
    obtain ⟨z', g1, g2⟩ := lc_countL ha hw m (i + 1) f (lcUI z 121 i (lcI z row i)) (by omega) (by omega) (lc_prs_on hon hp) (fun j hj => by
      rw [lcI_UI, lcI_UI, if_neg (show ¬ (row = 121 ∧ j = i) by omega)]
      by_cases hji : j = i
      · subst hji; rw [if_pos ⟨rfl, rfl⟩]
      · rw [if_neg (by omega)]; exact hr j (by omega)) hv
    refine ⟨z', ?_, lc_on_trans hon g2⟩
    rw [lcI_UI, if_neg (show ¬ (row = 121 ∧ w = i) by omega)] at g1
    have hc : (nI i).toNatClampNeg = i := nI_clamp (by omega)
    have q1 : fQ_in (lcL z 117 (nI i).toNatClampNeg) a z = some (lc_sm z row leaf k u, z) := by
      rw [hc, p2]; exact lc_inQ (P := i) (row := row) z (by omega) o1 hla hr
    have q2 : fQ_in (lcL z 118 (nI i).toNatClampNeg) a z = some (lc_sm z row leaf k' u', z) := by
      rw [hc, p4]; exact lc_inQ (P := i) (row := row) z (by omega) o2 hla hr
    rw [fQ_count_30, hp.2.2.1, if_neg (nI_ge hi (by omega)), lc_chk_pos (nI_in (show i < 120 by omega) (by decide)), lc_bnd_eq q1, lc_chk_pos (nI_in (show i < 120 by omega) (by decide)), lc_bnd_eq q2, lc_chk_pos (nI_in (show i < 340 by omega) (by decide)), hs, hc]
    show fQ_count_30 f a (nI i + 1) _ = _
    rw [nI_1]
    exact g1
theorem lc_count {P k w row leaf : Nat} {a : Int32} (ha : (a = 1 ∧ row = 25 ∧ leaf = 2) ∨ (a = 0 ∧ row = 26 ∧ leaf = 1)) (z : lc_S) (hp : lc_prs z P) (ho : lc_ok P k w) (hv : lcL z 80 47 = lc_mv k w) : ∃ z', fQ_count a z = some (lc_sm z row leaf k w, z') ∧ lc_on lc_N2 z z' := by
  obtain ⟨h0, h4, hw, h3⟩ := ho
  rw [fQ_count, hv, lc_sm]
  by_cases hk : k = 3
  · subst hk
    have h120 := hp.1
    rw [if_pos (lc_cmge.mpr (fun h' => absurd ((lc_ltP h0 h4 hw).mp h') (by decide))), if_pos rfl]
    exact lc_countL ha (h3 rfl) P 0 lc_FU z (by omega) (by unfold lc_FU; omega) hp (fun j hj => absurd hj (by omega)) hv
  · refine ⟨z, ?_, lc_on_refl _ _⟩
    rw [if_neg (fun h' => lc_cmge.mp h' ((lc_ltP h0 h4 hw).mpr (by omega))), lc_bnd_eq (lc_isNQ h0 h4 hw z), if_neg hk]
    rcases ha with ⟨rfl, -, rfl⟩ | ⟨rfl, -, rfl⟩
    · by_cases h1 : k = 1
      · rw [if_pos h1, if_pos rfl, if_neg (show ¬ k = 2 by omega)]
      · rw [if_neg h1, if_neg (show ¬ (0 : Int32) = 1 by decide), if_pos (show k = 2 by omega)]
    · by_cases h1 : k = 1
      · (rw [if_pos h1, if_neg (show ¬ (1 : Int32) = 0 by decide)] <;> rw [if_pos h1])
      · (rw [if_neg h1, if_pos rfl] <;> rw [if_neg h1])
