/-! the expressions while they are read: as lc_R, with the class's binders below nb -/
def lc_Rb (y z : lc_S) (o base nb : Nat) : Nat → Nat → Nat → Nat → Nat → List lc_en → Prop
  | 0, _, _, _, _, _ => False
  | D + 1, lo, i, p, hi, env => i < 120 ∧ lo ≤ i ∧ p < hi ∧ hi ≤ 120 ∧
    ((lo = i ∧ hi = p + 1 ∧ lcI y (o + 2) i = 35 ∧ lcI z 82 (base + p) = 48 ∧ lcI y (o + 3) i = -1 ∧ lcI y (o + 4) i = -1 ∧ ∃ v, v < 10000 ∧ lcI y (o + 6) i = nI v ∧ lcI z 83 (base + p) = nI v) ∨
     (lo = i ∧ hi = p + 1 ∧ lcI y (o + 2) i = 118 ∧ lcI z 82 (base + p) = 120 ∧ lcI y (o + 3) i = -1 ∧ lcI y (o + 4) i = -1 ∧ ∃ b pt, lc_lk (lcI z 87 (base + p)) (lcI z 88 (base + p)) env = some (b, pt) ∧ lcI y (o + 7) i = nI b ∧ lcI y (o + 6) i = nI pt) ∨
     ∃ a h1, lcI y (o + 3) i = nI a ∧ lcI z 84 (base + p) = nI (p + 1) ∧ lcI z 82 (base + p) = lcI y (o + 2) i ∧ lc_Rb y z o base nb D lo a (p + 1) h1 env ∧
      ((lc_one (lcI y (o + 2) i) ∧ i = a + 1 ∧ hi = h1 ∧ lcI y (o + 4) i = -1) ∨
       (lcI y (o + 2) i = 64 ∧ i = a + 1 ∧ hi = h1 ∧ lcI y (o + 4) i = -1 ∧ ∃ c, c < 4 ∧ lcI y (o + 6) i = nI c ∧ lcI z 83 (base + p) = nI c) ∨
       ∃ a2 h2, lcI y (o + 4) i = nI a2 ∧ lcI z 85 (base + p) = nI h1 ∧
        ((lc_two (lcI y (o + 2) i) ∧ i = a2 + 1 ∧ hi = h2 ∧ lc_Rb y z o base nb D (a + 1) a2 h1 h2 env) ∨
         (lcI y (o + 2) i = 58 ∧ i = a2 + 1 ∧ hi = h2 ∧ ∃ b, b < nb ∧ (∀ e ∈ env, e.1 < b) ∧ lcI y (o + 7) i = nI b ∧ lcI y (o + 8) b = nI a ∧ lc_Rb y z o base nb D (a + 1) a2 h1 h2 ((b, 0, nI p, 0) :: env)) ∨
         (lcI y (o + 2) i = 47 ∧ i = a2 + 1 ∧ hi = h2 ∧ ∃ b, b < nb ∧ (∀ e ∈ env, e.1 < b) ∧ lcI y (o + 7) i = nI b ∧ lcI y (o + 8) b = nI a ∧ lc_Rb y z o base nb D (a + 1) a2 h1 h2 ((b, 2, nI p, 1) :: (b, 1, nI p, 0) :: env)) ∨
         (lcI y (o + 2) i = 63 ∧ ∃ a3, lcI y (o + 5) i = nI a3 ∧ lcI z 86 (base + p) = nI h2 ∧ i = a3 + 1 ∧ lc_Rb y z o base nb D (a + 1) a2 h1 h2 env ∧ lc_Rb y z o base nb D (a2 + 1) a3 h2 hi env))))
theorem lc_Rb_lt {y z : lc_S} {o base nb D lo i p hi : Nat} {env : List lc_en} (h : lc_Rb y z o base nb D lo i p hi env) : i < 120 ∧ lo ≤ i ∧ p < hi ∧ hi ≤ 120 := by
  cases D with
  | zero => exact h.elim
  | succ D => exact ⟨h.1, h.2.1, h.2.2.1, h.2.2.2.1⟩
theorem lc_Rb_R {y z : lc_S} {o base nb : Nat} (hn : nb ≤ 24) : ∀ (D lo i p hi : Nat) (env : List lc_en), lc_Rb y z o base nb D lo i p hi env → lc_R y z o base D lo i p hi env
  | 0, _, _, _, _, _, h => h
  | D + 1, lo, i, p, hi, env, h => by
    have IH := lc_Rb_R (y := y) (z := z) (o := o) (base := base) hn D
    rw [lc_Rb] at h
    rw [lc_R]
    obtain ⟨h1, h2, h3, h4, h⟩ := h
    refine ⟨h1, h2, h3, h4, ?_⟩
    rcases h with h | h | ⟨a, q1, g1, g2, g3, g4, h⟩
    · exact Or.inl h
    · exact Or.inr (Or.inl h)
    · refine Or.inr (Or.inr ⟨a, q1, g1, g2, g3, IH _ _ _ _ _ g4, ?_⟩)
      rcases h with h | h | ⟨a2, q2, k1, k2, h⟩
      · exact Or.inl h
      · exact Or.inr (Or.inl h)
      · refine Or.inr (Or.inr ⟨a2, q2, k1, k2, ?_⟩)
        rcases h with ⟨m1, m2, m3, m4⟩ | ⟨m1, m2, m3, b, m4, m5, m6, m7, m8⟩ | ⟨m1, m2, m3, b, m4, m5, m6, m7, m8⟩ | ⟨m1, a3, m2, m3, m4, m5, m6⟩
        · exact Or.inl ⟨m1, m2, m3, IH _ _ _ _ _ m4⟩
        · exact Or.inr (Or.inl ⟨m1, m2, m3, b, by omega, m5, m6, m7, IH _ _ _ _ _ m8⟩)
        · exact Or.inr (Or.inr (Or.inl ⟨m1, m2, m3, b, by omega, m5, m6, m7, IH _ _ _ _ _ m8⟩))
        · exact Or.inr (Or.inr (Or.inr ⟨m1, a3, m2, m3, m4, IH _ _ _ _ _ m5, IH _ _ _ _ _ m6⟩))
theorem lc_Rb_eq {y z y' z' : lc_S} {o base base' nb nb' : Nat} (hn : nb ≤ nb') (h8 : ∀ b, b < nb → lcI y' (o + 8) b = lcI y (o + 8) b) : ∀ (D lo i p hi : Nat) (env : List lc_en), (∀ c k, o + 2 ≤ c → c ≤ o + 7 → lo ≤ k → k ≤ i → lcI y' c k = lcI y c k) → (∀ c j, 82 ≤ c → c ≤ 88 → p ≤ j → j < hi → lcI z' c (base' + j) = lcI z c (base + j)) → lc_Rb y z o base nb D lo i p hi env → lc_Rb y' z' o base' nb' D lo i p hi env
  | 0, _, _, _, _, _, _, _, h => h
  | D + 1, lo, i, p, hi, env, hy, hz, h => by
    have IH := lc_Rb_eq (y := y) (z := z) (y' := y') (z' := z') (o := o) (base := base) (base' := base') hn h8 D
    rw [lc_Rb] at h ⊢
    obtain ⟨h1, h2, h3, h4, h⟩ := h
    rw [hy (o + 2) i (by omega) (by omega) h2 (Nat.le_refl _), hy (o + 3) i (by omega) (by omega) h2 (Nat.le_refl _), hy (o + 4) i (by omega) (by omega) h2 (Nat.le_refl _), hy (o + 5) i (by omega) (by omega) h2 (Nat.le_refl _), hy (o + 6) i (by omega) (by omega) h2 (Nat.le_refl _), hy (o + 7) i (by omega) (by omega) h2 (Nat.le_refl _), hz 82 p (by omega) (by omega) (Nat.le_refl _) h3, hz 83 p (by omega) (by omega) (Nat.le_refl _) h3, hz 84 p (by omega) (by omega) (Nat.le_refl _) h3, hz 85 p (by omega) (by omega) (Nat.le_refl _) h3, hz 86 p (by omega) (by omega) (Nat.le_refl _) h3, hz 87 p (by omega) (by omega) (Nat.le_refl _) h3, hz 88 p (by omega) (by omega) (Nat.le_refl _) h3]
    refine ⟨h1, h2, h3, h4, ?_⟩
    rcases h with h | h | ⟨a, q1, g1, g2, g3, g4, h⟩
    · exact Or.inl h
    · exact Or.inr (Or.inl h)
    · have l1 := lc_Rb_lt g4
      rcases h with ⟨w1, w2, w3, w4⟩ | ⟨w1, w2, w3, w4⟩ | ⟨a2, q2, k1, k2, h⟩
      · exact Or.inr (Or.inr ⟨a, q1, g1, g2, g3, IH _ _ _ _ _ (fun c k u v s t => hy c k u v s (by omega)) (fun c j u v s t => hz c j u v (by omega) (by omega)) g4, Or.inl ⟨w1, w2, w3, w4⟩⟩)
      · exact Or.inr (Or.inr ⟨a, q1, g1, g2, g3, IH _ _ _ _ _ (fun c k u v s t => hy c k u v s (by omega)) (fun c j u v s t => hz c j u v (by omega) (by omega)) g4, Or.inr (Or.inl ⟨w1, w2, w3, w4⟩)⟩)
      · have fin : a2 < i → q2 ≤ hi → a < a2 → q1 < q2 → _ := fun c1 c2 c3 c4 => IH lo a (p + 1) q1 env (fun c k u v s t => hy c k u v s (by omega)) (fun c j u v s t => hz c j u v (by omega) (by omega)) g4
        rcases h with ⟨m1, m2, m3, m4⟩ | ⟨m1, m2, m3, b, m4, m5, m6, m7, m8⟩ | ⟨m1, m2, m3, b, m4, m5, m6, m7, m8⟩ | ⟨m1, a3, m2, m3, m4, m5, m6⟩
        · have l2 := lc_Rb_lt m4
          exact Or.inr (Or.inr ⟨a, q1, g1, g2, g3, fin (by omega) (by omega) (by omega) (by omega), Or.inr (Or.inr ⟨a2, q2, k1, k2, Or.inl ⟨m1, m2, m3, IH _ _ _ _ _ (fun c k u v s t => hy c k u v (by omega) (by omega)) (fun c j u v s t => hz c j u v (by omega) (by omega)) m4⟩⟩)⟩)
        · have l2 := lc_Rb_lt m8
          exact Or.inr (Or.inr ⟨a, q1, g1, g2, g3, fin (by omega) (by omega) (by omega) (by omega), Or.inr (Or.inr ⟨a2, q2, k1, k2, Or.inr (Or.inl ⟨m1, m2, m3, b, by omega, m5, m6, (h8 b m4).trans m7, IH _ _ _ _ _ (fun c k u v s t => hy c k u v (by omega) (by omega)) (fun c j u v s t => hz c j u v (by omega) (by omega)) m8⟩)⟩)⟩)
        · have l2 := lc_Rb_lt m8
          exact Or.inr (Or.inr ⟨a, q1, g1, g2, g3, fin (by omega) (by omega) (by omega) (by omega), Or.inr (Or.inr ⟨a2, q2, k1, k2, Or.inr (Or.inr (Or.inl ⟨m1, m2, m3, b, by omega, m5, m6, (h8 b m4).trans m7, IH _ _ _ _ _ (fun c k u v s t => hy c k u v (by omega) (by omega)) (fun c j u v s t => hz c j u v (by omega) (by omega)) m8⟩))⟩)⟩)
        · have l2 := lc_Rb_lt m5
          have l3 := lc_Rb_lt m6
          exact Or.inr (Or.inr ⟨a, q1, g1, g2, g3, fin (by omega) (by omega) (by omega) (by omega), Or.inr (Or.inr ⟨a2, q2, k1, k2, Or.inr (Or.inr (Or.inr ⟨m1, a3, m2, m3, m4, IH _ _ _ _ _ (fun c k u v s t => hy c k u v (by omega) (by omega)) (fun c j u v s t => hz c j u v (by omega) (by omega)) m5, IH _ _ _ _ _ (fun c k u v s t => hy c k u v (by omega) (by omega)) (fun c j u v s t => hz c j u v (by omega) (by omega)) m6⟩))⟩)⟩)
/-! the names that hold, the innermost first -/
abbrev lc_nm : Type := Int32 × lc_en
def lc_nA (y : lc_S) : List lc_nm → Prop
  | [] => True
  | x :: xs => lcI y 5 xs.length = x.1 ∧ lcI y 6 xs.length = nI x.2.1 ∧ lcI y 7 xs.length = nI x.2.2.1 ∧ lc_nA y xs
def lc_nQ (z : lc_S) : List lc_nm → Prop
  | [] => True
  | x :: xs => lcI z 94 xs.length = x.1 ∧ lcI z 95 xs.length = x.2.2.2.1 ∧ lcI z 96 xs.length = x.2.2.2.2 ∧ (x.2.2.2.2 = 0 ∨ x.2.2.2.2 = 1) ∧ lc_nQ z xs
theorem lc_nA_eq {y y' : lc_S} : ∀ L : List lc_nm, (∀ c k, 5 ≤ c → c ≤ 7 → k < L.length → lcI y' c k = lcI y c k) → lc_nA y L → lc_nA y' L
  | [], _, _ => trivial
  | x :: xs, h, g => ⟨(h 5 _ (by omega) (by omega) (Nat.lt_succ_self _)).trans g.1, (h 6 _ (by omega) (by omega) (Nat.lt_succ_self _)).trans g.2.1, (h 7 _ (by omega) (by omega) (Nat.lt_succ_self _)).trans g.2.2.1, lc_nA_eq xs (fun c k u v w => h c k u v (Nat.lt_succ_of_lt w)) g.2.2.2⟩
theorem lc_nQ_eq {z z' : lc_S} : ∀ L : List lc_nm, (∀ c k, 94 ≤ c → c ≤ 96 → k < L.length → lcI z' c k = lcI z c k) → lc_nQ z L → lc_nQ z' L
  | [], _, _ => trivial
  | x :: xs, h, g => ⟨(h 94 _ (by omega) (by omega) (Nat.lt_succ_self _)).trans g.1, (h 95 _ (by omega) (by omega) (Nat.lt_succ_self _)).trans g.2.1, (h 96 _ (by omega) (by omega) (Nat.lt_succ_self _)).trans g.2.2.1, g.2.2.2.1, lc_nQ_eq xs (fun c k u v w => h c k u v (Nat.lt_succ_of_lt w)) g.2.2.2.2⟩
def lc_ev (L : List lc_nm) : List lc_en := L.map (fun x => x.2)
/-- what a name means: the innermost of them -/
def lc_fd (s : Int32) : List lc_nm → Option lc_en
  | [] => none
  | x :: xs => if x.1 = s then some x.2 else lc_fd s xs
/-- what holds of the names where the next part is q -/
def lc_ne (q : Nat) (L : List lc_nm) : Prop := (∀ x ∈ L, x.2.2.2.1 = -1 ∨ ∃ pb, pb < q ∧ x.2.2.2.1 = nI pb) ∧ (∀ x ∈ L, lc_lk x.2.2.2.1 x.2.2.2.2 (lc_ev L) = some (x.2.1, x.2.2.1)) ∧ lc_lk (-1) 0 (lc_ev L) = some (0, 0)
theorem lc_ne_le {q q' : Nat} {L : List lc_nm} (h : lc_ne q L) (hq : q ≤ q') : lc_ne q' L := ⟨fun x hx => (h.1 x hx).imp id (fun ⟨pb, a, b⟩ => ⟨pb, by omega, b⟩), h.2⟩
theorem lc_fd_mem {s : Int32} {e : lc_en} : ∀ {L : List lc_nm}, lc_fd s L = some e → ∃ x ∈ L, x.2 = e
  | [], h => by cases h
  | x :: xs, h => by
    rw [lc_fd] at h
    by_cases hx : x.1 = s
    · rw [if_pos hx] at h
      exact ⟨x, List.mem_cons_self, Option.some.inj h⟩
    · rw [if_neg hx] at h
      obtain ⟨w, a, b⟩ := lc_fd_mem h
      exact ⟨w, List.mem_cons_of_mem _ a, b⟩
theorem lc_nIm {a : Nat} (h : a < 2147483648) : nI a ≠ -1 := fun e => by
  have := nI_pos (n := a) h
  rw [e] at this
  exact this (by decide)
theorem lc_ne_fresh {q p b pt : Nat} {nm ot : Int32} {L : List lc_nm} (h : lc_ne q L) (hq : q ≤ p) (hp : p < 1000) : lc_ne (p + 1) ((nm, (b, pt, nI p, ot)) :: L) := by
  refine ⟨fun x hx => ?_, fun x hx => ?_, ?_⟩
  · rcases List.mem_cons.mp hx with rfl | hx
    · exact Or.inr ⟨p, by omega, rfl⟩
    · exact (lc_ne_le h (by omega : q ≤ p + 1)).1 x hx
  · rcases List.mem_cons.mp hx with rfl | hx
    · show lc_lk _ _ ((b, pt, nI p, ot) :: lc_ev L) = _
      rw [lc_lk, if_pos ⟨rfl, rfl⟩]
    · show lc_lk _ _ ((b, pt, nI p, ot) :: lc_ev L) = _
      rw [lc_lk, if_neg (fun g => ?_)]
      · exact h.2.1 x hx
      · rcases h.1 x hx with e | ⟨pb, e1, e2⟩
        · exact lc_nIm (by omega) (g.1.trans e)
        · have := (nI_eq (by omega) (by omega)).mp (g.1.trans e2)
          omega
  · show lc_lk _ _ ((b, pt, nI p, ot) :: lc_ev L) = _
    rw [lc_lk, if_neg (fun g => lc_nIm (by omega) g.1)]
    exact h.2.2
theorem lc_ne_fresh2 {q p b : Nat} {n1 n2 : Int32} {L : List lc_nm} (h : lc_ne q L) (hq : q ≤ p) (hp : p < 1000) : lc_ne (p + 1) ((n2, (b, 2, nI p, 1)) :: (n1, (b, 1, nI p, 0)) :: L) := by
  have g := lc_ne_fresh (nm := n1) (b := b) (pt := 1) (ot := 0) h hq hp
  refine ⟨fun x hx => ?_, fun x hx => ?_, ?_⟩
  · rcases List.mem_cons.mp hx with rfl | hx
    · exact Or.inr ⟨p, by omega, rfl⟩
    · exact g.1 x hx
  · rcases List.mem_cons.mp hx with rfl | hx
    · show lc_lk _ _ ((b, 2, nI p, 1) :: _) = _
      rw [lc_lk, if_pos ⟨rfl, rfl⟩]
    · show lc_lk _ _ ((b, 2, nI p, 1) :: lc_ev ((n1, (b, 1, nI p, 0)) :: L)) = _
      rw [lc_lk, if_neg (fun e => ?_)]
      · exact g.2.1 x hx
      · rcases List.mem_cons.mp hx with rfl | hx
        · exact absurd (show (1 : Int32) = 0 from e.2) (by decide)
        · rcases h.1 x hx with e' | ⟨pb, e1, e2⟩
          · exact lc_nIm (by omega) (e.1.trans e')
          · have := (nI_eq (by omega) (by omega)).mp (e.1.trans e2)
            omega
  · show lc_lk _ _ ((b, 2, nI p, 1) :: lc_ev ((n1, (b, 1, nI p, 0)) :: L)) = _
    rw [lc_lk, if_neg (fun e => lc_nIm (by omega) e.1)]
    exact g.2.2
