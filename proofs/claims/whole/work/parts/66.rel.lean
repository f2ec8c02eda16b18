/-! the expressions of class (state y, Procedure at o) and reference (state z, rows from base): class lo .. i, reference p .. hi - 1, at most D deep -/
abbrev lc_en : Type := Nat × Nat × Int32 × Int32
/-- a variable of the reference among the names that hold: binder and part of the class -/
def lc_lk (b' ot : Int32) : List lc_en → Option (Nat × Nat)
  | [] => none
  | e :: es => if e.2.2.1 = b' ∧ e.2.2.2 = ot then some (e.1, e.2.1) else lc_lk b' ot es
abbrev lc_two (K : Int32) : Prop := K = 43 ∨ K = 45 ∨ K = 42 ∨ K = 60 ∨ K = 44 ∨ K = 112
abbrev lc_one (K : Int32) : Prop := K = 110 ∨ K = 103 ∨ K = 100
def lc_R (y z : lc_S) (o base : Nat) : Nat → Nat → Nat → Nat → Nat → List lc_en → Prop
  | 0, _, _, _, _, _ => False
  | D + 1, lo, i, p, hi, env => i < 120 ∧ lo ≤ i ∧ p < hi ∧ hi ≤ 120 ∧
    ((lo = i ∧ hi = p + 1 ∧ lcI y (o + 2) i = 35 ∧ lcI z 82 (base + p) = 48 ∧ lcI y (o + 3) i = -1 ∧ lcI y (o + 4) i = -1 ∧ ∃ v, v < 10000 ∧ lcI y (o + 6) i = nI v ∧ lcI z 83 (base + p) = nI v) ∨
     (lo = i ∧ hi = p + 1 ∧ lcI y (o + 2) i = 118 ∧ lcI z 82 (base + p) = 120 ∧ lcI y (o + 3) i = -1 ∧ lcI y (o + 4) i = -1 ∧ ∃ b pt, lc_lk (lcI z 87 (base + p)) (lcI z 88 (base + p)) env = some (b, pt) ∧ lcI y (o + 7) i = nI b ∧ lcI y (o + 6) i = nI pt) ∨
     ∃ a h1, lcI y (o + 3) i = nI a ∧ lcI z 84 (base + p) = nI (p + 1) ∧ lcI z 82 (base + p) = lcI y (o + 2) i ∧ lc_R y z o base D lo a (p + 1) h1 env ∧
      ((lc_one (lcI y (o + 2) i) ∧ i = a + 1 ∧ hi = h1 ∧ lcI y (o + 4) i = -1) ∨
       (lcI y (o + 2) i = 64 ∧ i = a + 1 ∧ hi = h1 ∧ lcI y (o + 4) i = -1 ∧ ∃ c, c < 4 ∧ lcI y (o + 6) i = nI c ∧ lcI z 83 (base + p) = nI c) ∨
       ∃ a2 h2, lcI y (o + 4) i = nI a2 ∧ lcI z 85 (base + p) = nI h1 ∧
        ((lc_two (lcI y (o + 2) i) ∧ i = a2 + 1 ∧ hi = h2 ∧ lc_R y z o base D (a + 1) a2 h1 h2 env) ∨
         (lcI y (o + 2) i = 58 ∧ i = a2 + 1 ∧ hi = h2 ∧ ∃ b, b < 24 ∧ (∀ e ∈ env, e.1 < b) ∧ lcI y (o + 7) i = nI b ∧ lcI y (o + 8) b = nI a ∧ lc_R y z o base D (a + 1) a2 h1 h2 ((b, 0, nI p, 0) :: env)) ∨
         (lcI y (o + 2) i = 47 ∧ i = a2 + 1 ∧ hi = h2 ∧ ∃ b, b < 24 ∧ (∀ e ∈ env, e.1 < b) ∧ lcI y (o + 7) i = nI b ∧ lcI y (o + 8) b = nI a ∧ lc_R y z o base D (a + 1) a2 h1 h2 ((b, 2, nI p, 1) :: (b, 1, nI p, 0) :: env)) ∨
         (lcI y (o + 2) i = 63 ∧ ∃ a3, lcI y (o + 5) i = nI a3 ∧ lcI z 86 (base + p) = nI h2 ∧ i = a3 + 1 ∧ lc_R y z o base D (a + 1) a2 h1 h2 env ∧ lc_R y z o base D (a2 + 1) a3 h2 hi env))))
/-- what the expressions of class and reference rest on -/
def lc_sy (y y' : lc_S) : Prop := ∀ c k, 35 ≤ c → c < 80 → lcI y' c k = lcI y c k
def lc_sz (z z' : lc_S) : Prop := ∀ c k, 82 ≤ c → c ≤ 91 → lcI z' c k = lcI z c k
theorem lc_R_eq {y z y' z' : lc_S} {o base : Nat} (ho : 35 ≤ o ∧ o ≤ 71) (hy : lc_sy y y') (hz : lc_sz z z') : ∀ (D lo i p hi : Nat) (env : List lc_en), lc_R y z o base D lo i p hi env → lc_R y' z' o base D lo i p hi env
  | 0, _, _, _, _, _, h => h
  | D + 1, lo, i, p, hi, env, h => by
    have IH := lc_R_eq (o := o) (base := base) ho hy hz D
    have e2 := fun k => hy (o + 2) k (by omega) (by omega)
    have e3 := fun k => hy (o + 3) k (by omega) (by omega)
    have e4 := fun k => hy (o + 4) k (by omega) (by omega)
    have e5 := fun k => hy (o + 5) k (by omega) (by omega)
    have e6 := fun k => hy (o + 6) k (by omega) (by omega)
    have e7 := fun k => hy (o + 7) k (by omega) (by omega)
    have e8 := fun k => hy (o + 8) k (by omega) (by omega)
    have f82 := fun k => hz 82 k (by omega) (by omega)
    have f83 := fun k => hz 83 k (by omega) (by omega)
    have f84 := fun k => hz 84 k (by omega) (by omega)
    have f85 := fun k => hz 85 k (by omega) (by omega)
    have f86 := fun k => hz 86 k (by omega) (by omega)
    have f87 := fun k => hz 87 k (by omega) (by omega)
    have f88 := fun k => hz 88 k (by omega) (by omega)
    rw [lc_R] at h ⊢
    rw [e2, e3, e4, e5, e6, e7, f82, f83, f84, f85, f86, f87, f88]
    obtain ⟨h1, h2, h3, h4, h⟩ := h
    refine ⟨h1, h2, h3, h4, ?_⟩
    rcases h with h | h | ⟨a, q1, g1, g2, g3, g4, h⟩
    · exact Or.inl h
    · exact Or.inr (Or.inl h)
    · refine Or.inr (Or.inr ⟨a, q1, g1, g2, g3, IH _ _ _ _ _ g4, ?_⟩)
      rcases h with h | h | ⟨a2, q2, k1, k2, h⟩
      · exact Or.inl h
      · exact Or.inr (Or.inl h)
      · refine Or.inr (Or.inr ⟨a2, q2, k1, k2, ?_⟩)
        rcases h with ⟨m1, m2, m3, m4⟩ | ⟨m1, m2, m3, b, m4, m5, m6, m7, m8⟩ | ⟨m1, m2, m3, b, m4, m5, m6, m7, m8⟩ | ⟨m1, a3, m2, m3, m4, m5, m6⟩
        · exact Or.inl ⟨m1, m2, m3, IH _ _ _ _ _ m4⟩
        · exact Or.inr (Or.inl ⟨m1, m2, m3, b, m4, m5, m6, (e8 b).trans m7, IH _ _ _ _ _ m8⟩)
        · exact Or.inr (Or.inr (Or.inl ⟨m1, m2, m3, b, m4, m5, m6, (e8 b).trans m7, IH _ _ _ _ _ m8⟩))
        · exact Or.inr (Or.inr (Or.inr ⟨m1, a3, m2, m3, m4, IH _ _ _ _ _ m5, IH _ _ _ _ _ m6⟩))
/-! values and names of a run -/
def lc_okr (P k w : Nat) : Prop := lc_ok P k w ∧ (k = 2 → w < 12)
theorem lc_okr_le {m n k w : Nat} (h : lc_okr m k w) (hm : m ≤ n) : lc_okr n k w := ⟨lc_ok_le h.1 hm, h.2⟩
def lc_p2 (y z : lc_S) (i : Nat) : Prop := ∃ k w k' w', lc_okr i k w ∧ lc_okr i k' w' ∧ lcL y 23 i = lc_cv k w ∧ lcL z 117 i = lc_mv k w ∧ lcL y 24 i = lc_cv k' w' ∧ lcL z 118 i = lc_mv k' w'
/-- what a name stands for in the class's rows -/
def lc_cb (y : lc_S) (P d b pt k w : Nat) : Prop := (pt = 0 ∧ lcL y 30 (24 * d + b) = lc_cv k w) ∨ (pt = 1 ∧ ∃ q, q < P ∧ lcL y 30 (24 * d + b) = lc_cv 3 q ∧ lcL y 23 q = lc_cv k w) ∨ (pt = 2 ∧ ∃ q, q < P ∧ lcL y 30 (24 * d + b) = lc_cv 3 q ∧ lcL y 24 q = lc_cv k w)
def lc_CH (y z : lc_S) (P d : Nat) : List lc_en → Nat → Int32 → Prop
  | [], _, _ => True
  | e :: es, N, nm => ∃ j k w, j < N ∧ nm = nI j ∧ e.1 < 24 ∧ lcI z 111 j = e.2.2.1 ∧ lcI z 112 j = e.2.2.2 ∧ lcL z 113 j = lc_mv k w ∧ lc_okr P k w ∧ lc_cb y P d e.1 e.2.1 k w ∧ lc_CH y z P d es j (lcI z 114 j)
theorem lc_cb_eq {y y' : lc_S} {P P' d b pt k w : Nat} (h30 : lcL y' 30 (24 * d + b) = lcL y 30 (24 * d + b)) (hq : ∀ q, q < P → lcL y' 23 q = lcL y 23 q ∧ lcL y' 24 q = lcL y 24 q) (hP : P ≤ P') (h : lc_cb y P d b pt k w) : lc_cb y' P' d b pt k w := by
  unfold lc_cb
  rw [h30]
  rcases h with h | ⟨h1, q, h2, h3, h4⟩ | ⟨h1, q, h2, h3, h4⟩
  · exact Or.inl h
  · exact Or.inr (Or.inl ⟨h1, q, by omega, h3, by rw [(hq q h2).1]; exact h4⟩)
  · exact Or.inr (Or.inr ⟨h1, q, by omega, h3, by rw [(hq q h2).2]; exact h4⟩)
theorem lc_CH_eq {y z y' z' : lc_S} {P P' d : Nat} (hq : ∀ q, q < P → lcL y' 23 q = lcL y 23 q ∧ lcL y' 24 q = lcL y 24 q) (hP : P ≤ P') : ∀ (env : List lc_en) (N : Nat) (nm : Int32), (∀ e ∈ env, lcL y' 30 (24 * d + e.1) = lcL y 30 (24 * d + e.1)) → (∀ j, j < N → lcI z' 111 j = lcI z 111 j ∧ lcI z' 112 j = lcI z 112 j ∧ lcL z' 113 j = lcL z 113 j ∧ lcI z' 114 j = lcI z 114 j) → ∀ N', N ≤ N' → lc_CH y z P d env N nm → lc_CH y' z' P' d env N' nm
  | [], _, _, _, _, _, _, _ => trivial
  | e :: es, N, nm, h30, hn, N', hN, h => by
    obtain ⟨j, k, w, h1, h2, h3, h4, h5, h6, h7, h8, h9⟩ := h
    obtain ⟨n1, n2, n3, n4⟩ := hn j h1
    refine ⟨j, k, w, by omega, h2, h3, by rw [n1]; exact h4, by rw [n2]; exact h5, by rw [n3]; exact h6, lc_okr_le h7 hP, lc_cb_eq (h30 e List.mem_cons_self) hq hP h8, ?_⟩
    rw [n4]
    exact lc_CH_eq hq hP es j _ (fun e' he => h30 e' (List.mem_cons_of_mem _ he)) (fun j' hj => hn j' (by omega)) j (Nat.le_refl _) h9
theorem lc_look {y z : lc_S} {P d b pt : Nat} {b' ot : Int32} : ∀ (env : List lc_en) (N : Nat) (nm : Int32), N ≤ 2100 → lc_CH y z P d env N nm → lc_lk b' ot env = some (b, pt) → ∃ k w, lc_okr P k w ∧ b < 24 ∧ lc_cb y P d b pt k w ∧ ∀ f, N ≤ f → fQ_lookUp_3 f b' ot nm z = some (lc_mv k w, z)
  | [], _, _, _, _, h => by cases h
  | e :: es, N, nm, hN, hc, h => by
    obtain ⟨j, k, w, h1, h2, h3, h4, h5, h6, h7, h8, h9⟩ := hc
    have c1 : lc_in (nI j) 2100 := nI_in (by omega) (by decide)
    have c2 : (nI j).toNatClampNeg = j := nI_clamp (by omega)
    rw [lc_lk] at h
    by_cases hb : e.2.2.1 = b' ∧ e.2.2.2 = ot
    · rw [if_pos hb] at h
      obtain ⟨rfl, rfl⟩ := Prod.mk.inj (Option.some.inj h)
      refine ⟨k, w, h7, h3, h8, fun f hf => ?_⟩
      obtain ⟨f, rfl⟩ : ∃ g, f = g + 1 := ⟨f - 1, by omega⟩
      rw [h2]
      simp only [fQ_lookUp_3, lc_chk_pos c1, c2, h4, h5, h6, hb.1, hb.2, ↓reduceIte]
    · rw [if_neg hb] at h
      obtain ⟨k', w', g1, g2, g3, g4⟩ := lc_look es j (lcI z 114 j) (by omega) h9 h
      refine ⟨k', w', g1, g2, g3, fun f hf => ?_⟩
      obtain ⟨f, rfl⟩ : ∃ g, f = g + 1 := ⟨f - 1, by omega⟩
      have g5 := g4 f (by omega)
      rw [h2]
      by_cases hb1 : e.2.2.1 = b'
      · have hb2 : ¬ e.2.2.2 = ot := fun h => hb ⟨hb1, h⟩
        simp only [fQ_lookUp_3, fQ_lookUp_25, lc_chk_pos c1, c2, h4, h5, hb1, hb2, ↓reduceIte, lc_let_eq, g5]
      · simp only [fQ_lookUp_3, fQ_lookUp_25, lc_chk_pos c1, c2, h4, h5, hb1, ↓reduceIte, lc_let_eq, g5]
