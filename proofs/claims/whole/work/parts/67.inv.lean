/-! what holds between class (state y) and reference (state z) while a run goes on -/
/-- one expression that is begun and not ended: place j, depth d of its call, names env, stages up to m -/
def lc_EN (y z : lc_S) (P N m j d : Nat) (env : List lc_en) : Prop := ∃ o k D lo i p hi s, lcI y 31 j = nI i ∧ lcI y 32 j = nI d ∧ lcI y 33 j = nI s ∧ lcR y 29 d = some o ∧ lc_sh o = (0, 1, 0) ∧
  lcI z 105 j = nI p ∧ lcI z 106 j = nI (120 * (k + 1)) ∧ lcI z 108 j = nI d ∧ lcI z 109 j = nI s ∧ k < 4 ∧ 0 < d ∧ d ≤ 24 ∧ s ≤ m ∧ j + D ≤ 17 * d ∧ lc_R y z o (120 * (k + 1)) D lo i p hi env ∧ lc_CH y z P d env N (lcI z 107 j) ∧
  (2 ≤ s → lc_two (lcI y (o + 2) i) → ∃ k w, lc_okr P k w ∧ lcL y 34 j = lc_cv k w ∧ lcL z 110 j = lc_mv k w)
theorem lc_o {o : Nat} (h : lc_sh o = (0, 1, 0)) : 35 ≤ o ∧ o ≤ 71 := (show ∀ o, o < lc_NC → lc_sh o = (0, 1, 0) → 35 ≤ o ∧ o ≤ 71 by decide +kernel) o (lc_sh_lt h (by decide)) h
/-- class: what entries below t rest on; bound rows change at W alone -/
def lc_fy (y y' : lc_S) (t P : Nat) (W V : Nat → Prop) : Prop := lc_sy y y' ∧ (∀ j, j < t → lcI y' 31 j = lcI y 31 j ∧ lcI y' 32 j = lcI y 32 j ∧ lcI y' 33 j = lcI y 33 j ∧ lcL y' 34 j = lcL y 34 j) ∧ (∀ q, q < P → lcL y' 23 q = lcL y 23 q ∧ lcL y' 24 q = lcL y 24 q) ∧ (∀ a, ¬ W a → lcL y' 30 a = lcL y 30 a) ∧ ∀ d, ¬ V d → lcR y' 29 d = lcR y 29 d
def lc_fz (z z' : lc_S) (t N : Nat) : Prop := lc_sz z z' ∧ (∀ j, j < t → lcI z' 105 j = lcI z 105 j ∧ lcI z' 106 j = lcI z 106 j ∧ lcI z' 107 j = lcI z 107 j ∧ lcI z' 108 j = lcI z 108 j ∧ lcI z' 109 j = lcI z 109 j ∧ lcL z' 110 j = lcL z 110 j) ∧ ∀ j, j < N → lcI z' 111 j = lcI z 111 j ∧ lcI z' 112 j = lcI z 112 j ∧ lcL z' 113 j = lcL z 113 j ∧ lcI z' 114 j = lcI z 114 j
theorem lc_E_eq {y z y' z' : lc_S} {P P' N N' m t j d : Nat} {env : List lc_en} {W V : Nat → Prop} (hy : lc_fy y y' t P W V) (hz : lc_fz z z' t N) (hj : j < t) (hP : P ≤ P') (hN : N ≤ N') (hW : ∀ e ∈ env, ¬ W (24 * d + e.1)) (hV : ¬ V d) (h : lc_EN y z P N m j d env) : lc_EN y' z' P' N' m j d env := by
  obtain ⟨o, k, D, lo, i, p, hi, s, h1, h2, h3, h4, h5, h6, h7, h8, h9, h10, h11, h12, h13, h14, h15, h16, h17⟩ := h
  obtain ⟨a1, a2, a3, a4, a5⟩ := hy
  obtain ⟨b1, b2, b3⟩ := hz
  obtain ⟨c1, c2, c3, c4⟩ := a2 j hj
  obtain ⟨d1, d2, d3, d4, d5, d6⟩ := b2 j hj
  have ho := lc_o h5
  refine ⟨o, k, D, lo, i, p, hi, s, by rw [c1]; exact h1, by rw [c2]; exact h2, by rw [c3]; exact h3, by rw [a5 d hV]; exact h4, h5, by rw [d1]; exact h6, by rw [d2]; exact h7, by rw [d4]; exact h8, by rw [d5]; exact h9, h10, h11, h12, h13, h14, lc_R_eq ho a1 b1 _ _ _ _ _ _ h15, ?_, fun g1 g2 => ?_⟩
  · rw [d3]
    exact lc_CH_eq a3 hP env N _ (fun e he => a4 _ (hW e he)) b3 N' hN h16
  · rw [a1 (o + 2) i (by omega) (by omega)] at g2
    obtain ⟨k', w', g3, g4, g5⟩ := h17 g1 g2
    exact ⟨k', w', lc_okr_le g3 hP, by rw [c4]; exact g4, by rw [d6]; exact g5⟩
/-- sums over the stages -/
def lc_c1 (y : lc_S) : Nat → Nat
  | 0 => 0
  | n + 1 => lc_c1 y n + if lcI y 33 n = 1 then 1 else 0
def lc_c3 (y : lc_S) : Nat → Nat
  | 0 => 0
  | n + 1 => lc_c3 y n + (3 - (lcI y 33 n).toNatClampNeg)
theorem lc_c1_eq {y y' : lc_S} : ∀ (t : Nat), (∀ j, j < t → lcI y' 33 j = lcI y 33 j) → lc_c1 y' t = lc_c1 y t
  | 0, _ => rfl
  | t + 1, h => by rw [lc_c1, lc_c1, lc_c1_eq t (fun j hj => h j (by omega)), h t (by omega)]
theorem lc_c3_eq {y y' : lc_S} : ∀ (t : Nat), (∀ j, j < t → lcI y' 33 j = lcI y 33 j) → lc_c3 y' t = lc_c3 y t
  | 0, _ => rfl
  | t + 1, h => by rw [lc_c3, lc_c3, lc_c3_eq t (fun j hj => h j (by omega)), h t (by omega)]
/-- the heap -/
def lc_M2 (y z : lc_S) (P : Nat) : Prop := (∀ j, j < 12 → lcI y 21 j = lcI z 115 j ∧ (lcI z 115 j ≠ 0 → lcI y 22 j = lcI z 116 j)) ∧ lcI y 20 2 = lcI z 80 49 ∧ lcI y 20 3 = lcI z 80 50 ∧ lcI y 20 10 = nI P ∧ lcI z 80 53 = nI P ∧ P ≤ 120 ∧ lcI y 20 2 - lcI y 20 3 = nI (lc_nf z 12) ∧ ∀ i, i < P → lc_p2 y z i
theorem lc_M2_eq {y z y' z' : lc_S} {P : Nat} (h20 : ∀ c k, 20 ≤ c → c ≤ 22 → lcI y' c k = lcI y c k) (h23 : ∀ c k, c = 23 ∨ c = 24 → lcL y' c k = lcL y c k) (hz : ∀ c k, 115 ≤ c → c ≤ 116 → lcI z' c k = lcI z c k) (h49 : lcI z' 80 49 = lcI z 80 49) (h50 : lcI z' 80 50 = lcI z 80 50) (h53 : lcI z' 80 53 = lcI z 80 53) (h117 : ∀ c k, c = 117 ∨ c = 118 → lcL z' c k = lcL z c k) (h : lc_M2 y z P) : lc_M2 y' z' P := by
  obtain ⟨a1, a2, a3, a4, a5, a6, a7, a8⟩ := h
  refine ⟨fun j hj => ?_, ?_, ?_, ?_, ?_, a6, ?_, fun i hi => ?_⟩
  · rw [h20 21 j (by omega) (by omega), h20 22 j (by omega) (by omega), hz 115 j (by omega) (by omega), hz 116 j (by omega) (by omega)]; exact a1 j hj
  · rw [h20 _ _ (by omega) (by omega), h49]; exact a2
  · rw [h20 _ _ (by omega) (by omega), h50]; exact a3
  · rw [h20 _ _ (by omega) (by omega)]; exact a4
  · rw [h53]; exact a5
  · rw [h20 _ _ (by omega) (by omega), h20 _ _ (by omega) (by omega), lc_nf_eq (z := z) (fun j => hz 115 j (by omega) (by omega))]; exact a7
  · obtain ⟨k, w, k', w', g1, g2, g3, g4, g5, g6⟩ := a8 i hi
    exact ⟨k, w, k', w', g1, g2, by rw [h23 _ _ (Or.inl rfl)]; exact g3, by rw [h117 _ _ (Or.inl rfl)]; exact g4, by rw [h23 _ _ (Or.inr rfl)]; exact g5, by rw [h117 _ _ (Or.inr rfl)]; exact g6⟩
/-- procedures: those that are there are alike -/
def lc_PR (y z : lc_S) : Prop := ∀ k, k < 4 → ∃ o, lcR y 3 k = some o ∧ lc_sh o = (0, 1, 0) ∧ ((lcI y o 0 = 0 ∧ lcI z 89 (k + 1) = 0) ∨ (lcI y o 0 ≠ 0 ∧ ∃ n, 0 < n ∧ n ≤ 120 ∧ lcI y o 11 = nI n ∧ lcI z 89 (k + 1) = nI n ∧ lc_R y z o (120 * (k + 1)) 17 0 (n - 1) 0 n [(0, 0, -1, 0)]))
theorem lc_PR_eq {y z y' z' : lc_S} (hy : lc_sy y y') (hz : lc_sz z z') (h3 : ∀ k, lcR y' 3 k = lcR y 3 k) (h : lc_PR y z) : lc_PR y' z' := fun k hk => by
  obtain ⟨o, h1, h2, h4⟩ := h k hk
  have ho := lc_o h2
  refine ⟨o, by rw [h3]; exact h1, h2, ?_⟩
  rw [hy o 0 (by omega) (by omega), hy o 11 (by omega) (by omega), hz 89 (k + 1) (by omega) (by omega)]
  rcases h4 with h4 | ⟨g1, n, g2, g3, g4, g5, g6⟩
  · exact Or.inl h4
  · exact Or.inr ⟨g1, n, g2, g3, g4, g5, lc_R_eq ho hy hz _ _ _ _ _ _ g6⟩
/-- counters: t begun and not ended, b begun, N names, P pairs, st steps -/
def lc_C (y z : lc_S) (t b N P : Nat) : Prop := lcI y 19 11 = nI t ∧ lcI z 80 33 = nI t ∧ lcI y 19 2 = nI b ∧ lcI z 80 48 = nI b ∧ b ≤ 2000 ∧ lcI y 19 3 = 0 ∧ lcI z 80 45 = 0 ∧ lcI z 80 40 = nI N ∧ lcR y 19 1 = some 3 ∧ lc_M2 y z P ∧ lc_PR y z
def lc_V (y z : lc_S) (P : Nat) : Prop := ∃ k w, lc_okr P k w ∧ lcL y 19 4 = lc_cv k w ∧ lcL z 80 47 = lc_mv k w
/-- the entries -/
def lc_Es (y z : lc_S) (P N t : Nat) (dd : Nat → Nat) (ee : Nat → List lc_en) : Prop := (∀ j, j < t → lc_EN y z P N 2 j (dd j) (ee j)) ∧ ∀ j j', j < j' → j' < t → dd j ≤ dd j' ∧ (dd j = dd j' → ∀ e ∈ ee j, e ∈ ee j')
def lc_J (y z : lc_S) (t b N P st : Nat) : Prop := lc_C y z t b N P ∧ (∃ dd ee, lc_Es y z P N t dd ee) ∧ N + lc_c1 y t ≤ b ∧ st + lc_c3 y t ≤ 3 * b ∧ (t = 0 ∨ lcI y 33 (t - 1) ≠ 0 → lc_V y z P)
/-- a run that has trapped -/
def lc_XT (y z : lc_S) : Prop := lcI y 19 3 ≠ 0 ∧ lcI z 80 45 = lcI y 19 3 ∧ (∃ P, lc_M2 y z P) ∧ (∃ b, lcI y 19 2 = nI b ∧ lcI z 80 48 = nI b) ∧ lc_PR y z
