/-! what is kept from turn to turn -/
theorem lc_pr_eq2 {z z' : lc_S} (hI : ∀ c k, 25 ≤ c → c ≤ 28 → lcI z' c k = lcI z c k) (hL : ∀ c k, c = 23 ∨ c = 24 ∨ c = 117 ∨ c = 118 → lcL z' c k = lcL z c k) {i : Nat} (h : lc_pr z i) : lc_pr z' i := by
  obtain ⟨k, w, k', w', o1, o2, p1, p2, p3, p4, s1, s2, s3, s4, s5, s6⟩ := h
  have e1 : ∀ a b, lc_sm z' 25 2 a b = lc_sm z 25 2 a b := fun a b => by unfold lc_sm; rw [hI 25 b (by decide) (by decide)]
  have e2 : ∀ a b, lc_sm z' 26 1 a b = lc_sm z 26 1 a b := fun a b => by unfold lc_sm; rw [hI 26 b (by decide) (by decide)]
  have e3 : ∀ a b, lc_hb z' a b = lc_hb z a b := fun a b => by unfold lc_hb; rw [hI 27 b (by decide) (by decide)]
  have e4 : ∀ a b, lc_fn z' a b = lc_fn z a b := fun a b => by unfold lc_fn; rw [hI 28 b (by decide) (by decide)]
  refine ⟨k, w, k', w', o1, o2, ?_, ?_, ?_, ?_, ?_, ?_, ?_, ?_, ?_, ?_⟩
  · rw [hL _ _ (by decide)]; exact p1
  · rw [hL _ _ (by decide)]; exact p2
  · rw [hL _ _ (by decide)]; exact p3
  · rw [hL _ _ (by decide)]; exact p4
  · rw [hI _ _ (by decide) (by decide), e1, e1]; exact s1
  · rw [hI _ _ (by decide) (by decide), e2, e2]; exact s2
  · rw [hI _ _ (by decide) (by decide)]; exact s3
  · rw [hI _ _ (by decide) (by decide), e3, e3]; exact s4
  · rw [hI _ _ (by decide) (by decide), e3, e4]; exact s5
  · rw [hI _ _ (by decide) (by decide), e3, e4]; exact s6
/-- heap and values stay -/
def lc_km (z z' : lc_S) : Prop := ∀ c k, (19 ≤ c ∧ c ≤ 34) ∨ (c = 80 ∧ 33 ≤ k) ∨ (105 ≤ c ∧ c ≤ 118) → lcI z' c k = lcI z c k ∧ lcL z' c k = lcL z c k
theorem lc_mem_km {z z' : lc_S} (hq : lc_km z z') (h : lc_mem z) : lc_mem z' := by
  obtain ⟨h1, h2, h3, h4, h5, h6⟩ := h
  refine ⟨fun j hj => ?_, ?_, ?_, ?_, ?_, ?_⟩
  · rw [(hq 21 j (by omega)).1, (hq 115 j (by omega)).1, (hq 22 j (by omega)).1, (hq 116 j (by omega)).1]; exact h1 j hj
  · rw [(hq _ _ (by omega)).1, (hq _ _ (by omega)).1]; exact h2
  · rw [(hq _ _ (by omega)).1, (hq _ _ (by omega)).1]; exact h3
  · rw [(hq _ _ (by omega)).1, (hq _ _ (by omega)).1]; exact h4
  · rw [(hq _ _ (by omega)).1, (hq _ _ (by omega)).1]; exact h5
  · rw [(hq _ _ (by omega)).1, (hq _ _ (by omega)).1, lc_nf_eq (fun j => (hq 115 j (by omega)).1)]; exact h6
theorem lc_vl_km {z z' : lc_S} (hq : lc_km z z') (hv : lc_vl z) : lc_vl z' := by
  obtain ⟨P, ⟨h1, h2, h3, h4⟩, hv⟩ := hv
  refine ⟨P, ⟨h1, ?_, ?_, fun i hi => lc_pr_eq2 (fun c k a b => (hq c k (by omega)).1) (fun c k a => (hq c k (by omega)).2) (h4 i hi)⟩, ?_⟩
  · rw [(hq _ _ (by omega)).1]; exact h2
  · rw [(hq _ _ (by omega)).1]; exact h3
  · rw [(hq 19 4 (by omega)).2, (hq 80 47 (by omega)).2, (hq 80 46 (by omega)).1, (hq 80 45 (by omega)).1]; exact hv
theorem lc_R_Rb {y z : lc_S} {o base : Nat} : ∀ (D lo i p hi : Nat) (env : List lc_en), lc_R y z o base D lo i p hi env → lc_Rb y z o base 24 D lo i p hi env
  | 0, _, _, _, _, _, h => h
  | D + 1, lo, i, p, hi, env, h => by
    have IH := lc_R_Rb (y := y) (z := z) (o := o) (base := base) D
    rw [lc_R] at h
    rw [lc_Rb]
    obtain ⟨h1, h2, h3, h4, h⟩ := h
    refine ⟨h1, h2, h3, h4, ?_⟩
    rcases h with h | h | ⟨a, q1, g1, g2, g3, g4, h⟩
    · exact Or.inl h
    · exact Or.inr (Or.inl h)
    · refine Or.inr (Or.inr ⟨a, q1, g1, g2, g3, IH _ _ _ _ _ g4, ?_⟩)
      rcases h with h | h | ⟨a2, q2, k1, k2, h⟩
      · exact Or.inl h
      · exact Or.inr (Or.inl h)
      · refine Or.inr (Or.inr ⟨a2, q2, k1, k2, ?_⟩)
        rcases h with ⟨m1, m2, m3, m4⟩ | ⟨m1, m2, m3, b, m4, m5, m6, m7, m8⟩ | ⟨m1, m2, m3, b, m4, m5, m6, m7, m8⟩ | ⟨m1, a3, m2, m3, m4, m5, m6⟩
        · exact Or.inl ⟨m1, m2, m3, IH _ _ _ _ _ m4⟩
        · exact Or.inr (Or.inl ⟨m1, m2, m3, b, m4, m5, m6, m7, IH _ _ _ _ _ m8⟩)
        · exact Or.inr (Or.inr (Or.inl ⟨m1, m2, m3, b, m4, m5, m6, m7, IH _ _ _ _ _ m8⟩))
        · exact Or.inr (Or.inr (Or.inr ⟨m1, a3, m2, m3, m4, IH _ _ _ _ _ m5, IH _ _ _ _ _ m6⟩))
/-- procedure j, in class and reference -/
def lc_P1 (z : lc_S) (j : Nat) : Prop := ∃ o τ σ g, lcR z 3 j = some o ∧ lc_sh o = (0, 1, 0) ∧ ((lcI z o 0 = 0 ∧ lcI z 89 (j + 1) = 0) ∨ (lcI z o 0 ≠ 0 ∧ ∃ n, 0 < n ∧ n ≤ 120 ∧ lcI z o 11 = nI n ∧ lcI z 89 (j + 1) = nI n ∧ lc_R z z o (120 * (j + 1)) 17 0 (n - 1) 0 n [(0, 0, -1, 0)])) ∧ (lcI z o 0 ≠ 0 → lc_PT z z j o τ σ) ∧ g < 16 ∧ (lcI z o 0 = 0 → g = 0) ∧ (lcI z o 0 ≠ 0 → lcI z (o + 8) 0 = -1 ∧ lcI z o 1 = nI g ∧ ∀ n, lcI z 89 (j + 1) = nI n → n ≤ 120 → lc_gq z j n g)
theorem lc_P1_eq {z z' : lc_S} {j : Nat} (h : lc_P1 z j) (hR : lcR z' 3 j = lcR z 3 j) (hy : ∀ o, lcR z 3 j = some o → lc_sh o = (0, 1, 0) → ∀ c k, o ≤ c → c ≤ o + 8 → lcI z' c k = lcI z c k) (hz : ∀ c q, 82 ≤ c → c ≤ 91 → c ≠ 89 → 120 * (j + 1) ≤ q → q < 120 * (j + 1) + 120 → lcI z' c q = lcI z c q) (h89 : lcI z' 89 (j + 1) = lcI z 89 (j + 1)) : lc_P1 z' j := by
  obtain ⟨o, τ, σ, g, h1, h2, h3, h4, h5, h6, h7⟩ := h
  have hy := hy o h1 h2
  refine ⟨o, τ, σ, g, by rw [hR]; exact h1, h2, ?_, ?_, h5, ?_, ?_⟩
  · rw [hy o 0 (by omega) (by omega), hy o 11 (by omega) (by omega), h89]
    rcases h3 with h3 | ⟨a1, n, a2, a3, a4, a5, a6⟩
    · exact Or.inl h3
    · refine Or.inr ⟨a1, n, a2, a3, a4, a5, ?_⟩
      exact lc_Rb_R (Nat.le_refl _) _ _ _ _ _ _ (lc_Rb_eq (Nat.le_refl _) (fun b _ => hy _ _ (by omega) (by omega)) _ _ _ _ _ _ (fun c k _ _ _ _ => hy _ _ (by omega) (by omega)) (fun c q b1 b2 b3 b4 => hz _ _ b1 (by omega) (by omega) (by omega) (by omega)) (lc_R_Rb _ _ _ _ _ _ a6))
  · rw [hy o 0 (by omega) (by omega)]
    intro ht
    obtain ⟨b1, b2, ⟨e, f, c1, c2, c3, c4, c5, c6⟩, ⟨r, d1, d2, d3⟩, ⟨r', e1, e2, e3⟩⟩ := h4 ht
    exact ⟨b1, b2, ⟨e, f, c1, c2, by rw [hy _ _ (by omega) (by omega)]; exact c3, by rw [hy _ _ (by omega) (by omega)]; exact c4, lc_pf_eq τ 0 e (fun q _ _ => hy _ _ (by omega) (by omega)) c5, lc_pf_eq σ e f (fun q _ _ => hy _ _ (by omega) (by omega)) c6⟩, ⟨r, d1, lc_xf_eq τ 0 r (fun q _ _ => hz _ _ (by omega) (by omega) (by omega) (by omega) (by omega)) d2, by rw [hz _ _ (by omega) (by omega) (by omega) (by omega) (by omega)]; exact d3⟩, ⟨r', e1, lc_xf_eq σ 0 r' (fun q _ _ => hz _ _ (by omega) (by omega) (by omega) (by omega) (by omega)) e2, by rw [hz _ _ (by omega) (by omega) (by omega) (by omega) (by omega)]; exact e3⟩⟩
  · rw [hy o 0 (by omega) (by omega)]; exact h6
  · rw [hy o 0 (by omega) (by omega), hy _ _ (by omega) (by omega), hy o 1 (by omega) (by omega), h89]
    intro ht
    obtain ⟨a1, a2, a3⟩ := h7 ht
    refine ⟨a1, a2, fun n hn hn' c hc => (a3 n hn hn' c hc).trans ⟨fun ⟨p, b1, b2, b3⟩ => ⟨p, b1, ?_, ?_⟩, fun ⟨p, b1, b2, b3⟩ => ⟨p, b1, ?_, ?_⟩⟩⟩
    · rw [hz _ _ (by omega) (by omega) (by omega) (by omega) (by omega)]; exact b2
    · rw [hz _ _ (by omega) (by omega) (by omega) (by omega) (by omega)]; exact b3
    · rw [← hz _ _ (by omega) (by omega) (by omega) (by omega) (by omega)]; exact b2
    · rw [← hz _ _ (by omega) (by omega) (by omega) (by omega) (by omega)]; exact b3
/-- five Procedures, no two the same -/
def lc_five (z : lc_S) : Prop := ∃ os : Nat → Nat, (∀ k, k < 4 → lcR z 3 k = some (os k)) ∧ lcR z 1 3 = some (os 4) ∧ (∀ k, k < 5 → lc_sh (os k) = (0, 1, 0)) ∧ ∀ j k, j < 5 → k < 5 → j ≠ k → os j ≠ os k
theorem lc_o9 {o o' : Nat} (h : lc_sh o = (0, 1, 0)) (h' : lc_sh o' = (0, 1, 0)) (hne : o ≠ o') : o + 9 ≤ o' ∨ o' + 9 ≤ o := by
  have key : ∀ o, o < 72 → lc_sh o = (0, 1, 0) → o = 35 ∨ o = 44 ∨ o = 53 ∨ o = 62 ∨ o = 71 := by decide +kernel
  have a := key o (by have := lc_o h; omega) h
  have b := key o' (by have := lc_o h'; omega) h'
  omega
/-- what holds ahead of each turn -/
def lc_JJ (z : lc_S) : Prop := lc_dr z ∧ lc_mem z ∧ lc_vl z ∧ lc_t3 z ∧ lc_b8 z ∧ lc_five z ∧ ∀ j, j < 4 → lc_P1 z j
theorem lc_JJ_PR {z : lc_S} (h : lc_JJ z) : lc_PR z z := fun k hk => by
  obtain ⟨o, τ, σ, g, h1, h2, h3, -⟩ := h.2.2.2.2.2.2 k hk
  exact ⟨o, h1, h2, h3⟩
theorem lc_JJ_PT {z : lc_S} (h : lc_JJ z) : ∃ T S, lc_PTs z z T S := by
  have key : ∀ k : Nat, ∃ w : lc_tp × lc_tp, k < 4 → ∃ o, lcR z 3 k = some o ∧ lc_sh o = (0, 1, 0) ∧ (lcI z o 0 ≠ 0 → lc_PT z z k o w.1 w.2) := fun k => by
    by_cases hk : k < 4
    · obtain ⟨o, τ, σ, g, h1, h2, h3, h4, -⟩ := h.2.2.2.2.2.2 k hk
      exact ⟨(τ, σ), fun _ => ⟨o, h1, h2, h4⟩⟩
    · exact ⟨(.nil, .nil), fun g => absurd g hk⟩
  exact ⟨fun k => (Classical.choose (key k)).1, fun k => (Classical.choose (key k)).2, fun k hk => Classical.choose_spec (key k) hk⟩
theorem lc_JJ_PC {z : lc_S} (h : lc_JJ z) : ∃ g, lc_PCs z z g := by
  have key : ∀ k : Nat, ∃ g : Nat, k < 4 → ∃ o, lcR z 3 k = some o ∧ g < 16 ∧ (lcI z o 0 = 0 → g = 0) ∧ (lcI z o 0 ≠ 0 → lcI z (o + 8) 0 = -1 ∧ lcI z o 1 = nI g ∧ ∀ n, lcI z 89 (k + 1) = nI n → n ≤ 120 → lc_gq z k n g) := fun k => by
    by_cases hk : k < 4
    · obtain ⟨o, τ, σ, g, h1, h2, h3, h4, h5, h6, h7⟩ := h.2.2.2.2.2.2 k hk
      exact ⟨g, fun _ => ⟨o, h1, h5, h6, h7⟩⟩
    · exact ⟨0, fun g => absurd g hk⟩
  exact ⟨fun k => Classical.choose (key k), fun k hk => Classical.choose_spec (key k) hk⟩
/-- a turn that leaves drafts, heap, values and procedures as they are -/
theorem lc_JJ_keep {z z' : lc_S} (h : lc_JJ z) (hdr : lc_dr z') (hm : lc_mem z') (hv : lc_vl z') (h3 : lc_t3 z') (hI : ∀ c k, (35 ≤ c ∧ c < 80) ∨ (82 ≤ c ∧ c ≤ 91) → lcI z' c k = lcI z c k) (hR : ∀ c k, c = 1 ∨ c = 3 → lcR z' c k = lcR z c k) : lc_JJ z' := by
  refine ⟨hdr, hm, hv, h3, lc_b8_eq (fun j => hI _ _ (by omega)) h.2.2.2.2.1, ?_, fun j hj => ?_⟩
  · obtain ⟨os, a1, a2, a3, a4⟩ := h.2.2.2.2.2.1
    exact ⟨os, fun k hk => by rw [hR _ _ (by omega)]; exact a1 k hk, by rw [hR _ _ (by omega)]; exact a2, a3, a4⟩
  · exact lc_P1_eq (h.2.2.2.2.2.2 j hj) (hR _ _ (by omega)) (fun o _ ho c k b1 b2 => hI _ _ (by have := lc_o ho; omega)) (fun c q b1 b2 _ _ _ => hI _ _ (by omega)) (hI _ _ (by omega))
