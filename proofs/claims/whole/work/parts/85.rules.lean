/-! the rules of types, and the class's types of expressions -/
abbrev lc_ot : Type := Option lc_tp
abbrev lc_oA (δ : Nat → lc_tp) (t : Nat) : lc_ot := if t = 0 then none else some (δ t)
/-- a part of what is bound -/
def lc_part (r : lc_ot) (pt : Nat) (v : lc_ot) : Prop := (pt = 0 ∧ v = r) ∨ (pt = 1 ∧ ((∃ a b, r = some (lc_prr a b) ∧ v = some a) ∨ ((∀ a b, r ≠ some (lc_prr a b)) ∧ v = none))) ∨ (pt = 2 ∧ ((∃ a b, r = some (lc_prr a b) ∧ v = some b) ∨ ((∀ a b, r ≠ some (lc_prr a b)) ∧ v = none)))
abbrev lc_yes (c : Prop) (v r : lc_ot) : Prop := (c ∧ r = v) ∨ (¬ c ∧ r = none)
abbrev lc_cal (K : Int32) : Prop := K = 43 ∨ K = 45 ∨ K = 42 ∨ K = 60
def lc_r1 (K : Int32) (e r : lc_ot) : Prop := (K = 110 → lc_yes (e = some .nil) (some .line) r) ∧ (K = 103 → lc_yes (e = some .line) (some (lc_prr .nil .line)) r) ∧ (K = 100 → lc_yes (e = some .line) (some .nil) r)
def lc_r2 (K : Int32) (e f r : lc_ot) : Prop := (K = 58 → lc_yes (e ≠ none) f r) ∧ (K = 47 → lc_yes (∃ a b, e = some (lc_prr a b)) f r) ∧ (K = 44 → (∃ a b, e = some a ∧ f = some b ∧ r = some (lc_prr a b)) ∨ ((e = none ∨ f = none) ∧ r = none)) ∧ (K = 112 → lc_yes (e = some .line ∧ f = some .nil) (some .line) r) ∧ (lc_cal K → lc_yes (e = some .nil ∧ f = some .nil) (some .nil) r)
def lc_loc (y : lc_S) (o k : Nat) (ρ : Nat → lc_ot) (VT GT : Nat → lc_ot) (j : Nat) : Prop :=
  (lcI y (o + 2) j = 35 → ρ j = some .nil) ∧
  (lcI y (o + 2) j = 118 → ∀ b pt, lcI y (o + 7) j = nI b → lcI y (o + 6) j = nI pt → b < 24 → pt < 3 → (b = 0 → lc_part (VT k) pt (ρ j)) ∧ ∀ a, 0 < b → lcI y (o + 8) b = nI a → a < 120 → lc_part (ρ a) pt (ρ j)) ∧
  ∀ a, lcI y (o + 3) j = nI a → a < 120 → lc_r1 (lcI y (o + 2) j) (ρ a) (ρ j) ∧ (lcI y (o + 2) j = 64 → ∀ c, c < 4 → lcI y (o + 6) j = nI c → lc_yes (ρ a = VT c) (GT c) (ρ j)) ∧
    ∀ a2, lcI y (o + 4) j = nI a2 → a2 < 120 → lc_r2 (lcI y (o + 2) j) (ρ a) (ρ a2) (ρ j) ∧ (lcI y (o + 2) j = 63 → ∀ a3, lcI y (o + 5) j = nI a3 → a3 < 120 → lc_yes (ρ a = some .nil ∧ ρ a2 = ρ a3) (ρ a2) (ρ j))
/-- an expression of the class and its parts, by its rows -/
def lc_nd (y : lc_S) (o i : Nat) : Prop := i < 120 ∧ ((lcI y (o + 2) i = 35 ∧ lcI y (o + 3) i = -1 ∧ lcI y (o + 4) i = -1) ∨
  (lcI y (o + 2) i = 118 ∧ lcI y (o + 3) i = -1 ∧ lcI y (o + 4) i = -1 ∧ ∃ b pt, b < 24 ∧ pt < 3 ∧ lcI y (o + 7) i = nI b ∧ lcI y (o + 6) i = nI pt ∧ (b = 0 ∨ (0 < b ∧ ∃ a, a < i ∧ lcI y (o + 8) b = nI a))) ∨
  ∃ a, a < i ∧ lcI y (o + 3) i = nI a ∧ ((lc_one (lcI y (o + 2) i) ∧ lcI y (o + 4) i = -1) ∨ (lcI y (o + 2) i = 64 ∧ lcI y (o + 4) i = -1 ∧ ∃ c, c < 4 ∧ lcI y (o + 6) i = nI c) ∨
    ∃ a2, a2 < i ∧ lcI y (o + 4) i = nI a2 ∧ (lc_two (lcI y (o + 2) i) ∨ lcI y (o + 2) i = 58 ∨ lcI y (o + 2) i = 47 ∨ (lcI y (o + 2) i = 63 ∧ ∃ a3, a3 < i ∧ lcI y (o + 5) i = nI a3))))
theorem lc_partA0 (y : lc_S) : fK_typeOfPart (-1) y = some (0, y) := by rw [fK_typeOfPart, if_neg (by decide)]
theorem lc_partA1 {y : lc_S} {a : Nat} (h : a < 120) : fK_typeOfPart (nI a) y = some (lcI y 17 a, y) := by
  rw [fK_typeOfPart, if_pos (nI_pos' (by omega)), lc_chk_pos (nI_in h (by decide)), nI_clamp (by omega)]
theorem lc_oA_inj {y : lc_S} {δ : Nat → lc_tp} {n s t : Nat} (h : lc_TA y δ n) (hs : s < n) (ht : t < n) : lc_oA δ s = lc_oA δ t ↔ s = t := by
  refine ⟨fun e => ?_, fun e => by rw [e]⟩
  unfold lc_oA at e
  by_cases s0 : s = 0
  · by_cases t0 : t = 0
    · omega
    · rw [if_pos s0, if_neg t0] at e; cases e
  · by_cases t0 : t = 0
    · rw [if_neg s0, if_pos t0] at e; cases e
    · rw [if_neg s0, if_neg t0] at e
      exact h.2.2.2.2.2.2.2.2 s t (by omega) hs (by omega) ht (Option.some.inj e)
theorem lc_oA_nil {y : lc_S} {δ : Nat → lc_tp} {n s : Nat} (h : lc_TA y δ n) (hs : s < n) : lc_oA δ s = some .nil ↔ s = 1 := by
  have : lc_oA δ 1 = some .nil := by unfold lc_oA; rw [if_neg (by decide), h.2.2.2.1]
  rw [← this]
  exact lc_oA_inj h hs (by have := h.2.1; omega)
theorem lc_oA_line {y : lc_S} {δ : Nat → lc_tp} {n s : Nat} (h : lc_TA y δ n) (hs : s < n) : lc_oA δ s = some .line ↔ s = 2 := by
  have : lc_oA δ 2 = some .line := by unfold lc_oA; rw [if_neg (by decide), h.2.2.2.2.1]
  rw [← this]
  exact lc_oA_inj h hs (by have := h.2.1; omega)
theorem lc_oA_none {δ : Nat → lc_tp} {s : Nat} : lc_oA δ s = none ↔ s = 0 := by
  unfold lc_oA
  by_cases h : s = 0
  · rw [if_pos h]; exact ⟨fun _ => h, fun _ => rfl⟩
  · rw [if_neg h]; exact ⟨fun e => absurd e (by simp), fun e => absurd e h⟩
theorem lc_oA_pair {y : lc_S} {δ : Nat → lc_tp} {n s : Nat} (h : lc_TA y δ n) (hs : s < n) : (3 ≤ s ∧ ∃ a b, 0 < a ∧ a < s ∧ 0 < b ∧ b < s ∧ lcI y 10 s = nI a ∧ lcI y 11 s = nI b ∧ lc_oA δ s = some (lc_prr (δ a) (δ b))) ∨ (s < 3 ∧ lcI y 10 s = 0 ∧ lcI y 11 s = 0 ∧ ∀ a b, lc_oA δ s ≠ some (lc_prr a b)) := by
  by_cases h3 : 3 ≤ s
  · left
    obtain ⟨a, b, g1, g2, g3, g4, g5, g6, g7⟩ := h.2.2.2.2.2.2.1 s h3 hs
    exact ⟨h3, a, b, g1, g2, g3, g4, g5, g6, by unfold lc_oA; rw [if_neg (by omega), g7]⟩
  · right
    obtain ⟨g1, g2⟩ := h.2.2.2.2.2.1.1 s (by omega)
    refine ⟨by omega, g1, g2, fun a b e => ?_⟩
    unfold lc_oA at e
    obtain rfl | rfl | rfl : s = 0 ∨ s = 1 ∨ s = 2 := by omega
    · rw [if_pos rfl] at e; cases e
    · rw [if_neg (by decide), h.2.2.2.1] at e; cases e
    · rw [if_neg (by decide), h.2.2.2.2.1] at e; cases e
/-- a part of what is bound, in the class -/
theorem lc_ptA {y : lc_S} {δ : Nat → lc_tp} {n s pt : Nat} (h : lc_TA y δ n) (hs : s < n) (hp : pt < 3) : ∃ t, t < n ∧ fT_partOf (nI s) (nI pt) y = some (nI t, y) ∧ lc_part (lc_oA δ s) pt (lc_oA δ t) := by
  have h3 := h.2.2.1
  have c1 : lc_in (nI s) 243 := nI_in (by omega) (by decide)
  have d1 : (nI s).toNatClampNeg = s := nI_clamp (by omega)
  have n3 := h.2.1
  obtain rfl | rfl | rfl : pt = 0 ∨ pt = 1 ∨ pt = 2 := by omega
  · exact ⟨s, hs, by rw [fT_partOf, if_pos (by decide)], Or.inl ⟨rfl, rfl⟩⟩
  · rcases lc_oA_pair h hs with ⟨g0, a, b, g1, g2, g3, g4, g5, g6, g7⟩ | ⟨g0, g1, g2, g3⟩
    · refine ⟨a, by omega, by rw [fT_partOf, if_neg (by decide), if_pos (by decide), lc_chk_pos c1, d1, g5], Or.inr (Or.inl ⟨rfl, Or.inl ⟨δ a, δ b, g7, ?_⟩⟩)⟩
      unfold lc_oA; rw [if_neg (by omega)]
    · exact ⟨0, by omega, by rw [fT_partOf, if_neg (by decide), if_pos (by decide), lc_chk_pos c1, d1, g1]; rfl, Or.inr (Or.inl ⟨rfl, Or.inr ⟨g3, rfl⟩⟩)⟩
  · rcases lc_oA_pair h hs with ⟨g0, a, b, g1, g2, g3, g4, g5, g6, g7⟩ | ⟨g0, g1, g2, g3⟩
    · refine ⟨b, by omega, by rw [fT_partOf, if_neg (by decide), if_neg (by decide), lc_chk_pos c1, d1, g6], Or.inr (Or.inr ⟨rfl, Or.inl ⟨δ a, δ b, g7, ?_⟩⟩)⟩
      unfold lc_oA; rw [if_neg (by omega)]
    · exact ⟨0, by omega, by rw [fT_partOf, if_neg (by decide), if_neg (by decide), lc_chk_pos c1, d1, g2]; rfl, Or.inr (Or.inr ⟨rfl, Or.inr ⟨g3, rfl⟩⟩)⟩
/-- the class's types of two parts: e and f are places of types -/
theorem lc_ftU {y : lc_S} {o i : Nat} {x1 x2 : Int32} (hr : lcR y 8 4 = some o) (ho : lc_sh o = (0, 1, 0)) (hi : i < 120) (e1 : fK_typeOfPart (lcI y (o + 3) i) y = some (x1, y)) (e2 : fK_typeOfPart (lcI y (o + 4) i) y = some (x2, y)) :
    fK_findType (nI i) y = if lcI y (o + 2) i = 35 then some (1, y) else if lcI y (o + 2) i = 44 then fT_pairOf x1 x2 y else if lcI y (o + 2) i = 47 then lc_bnd (fT_isPair x1 y) (fun r z => if r = 0 then some (0, z) else some (x2, z)) else if lcI y (o + 2) i = 58 then (if x1 = 0 then some (0, y) else some (x2, y)) else if lcI y (o + 2) i = 63 then (if x1 = 1 then lc_bnd (fK_typeOfPart (lcI y (o + 5) i) y) (fun r z => if x2 = r then some (x2, z) else some (0, z)) else some (0, y)) else
      if lcI y (o + 2) i = 64 then lc_chk (lc_in (lcI y (o + 6) i) 4) (if x1 = lcI y 15 (lcI y (o + 6) i).toNatClampNeg then some (lcI y 16 (lcI y (o + 6) i).toNatClampNeg, y) else some (0, y)) else if lcI y (o + 2) i = 100 then (if x1 = 2 then some (1, y) else some (0, y)) else if lcI y (o + 2) i = 103 then (if x1 = 2 then fT_pairOf 1 2 y else some (0, y)) else if lcI y (o + 2) i = 110 then (if x1 = 1 then some (2, y) else some (0, y)) else
      if lcI y (o + 2) i = 112 then (if x1 = 2 then (if x2 = 1 then some (2, y) else some (0, y)) else some (0, y)) else if lcI y (o + 2) i = 118 then lc_bnd (fK_typeOfBound (lcI y (o + 7) i) y) (fun r z => lc_bnr (lcR z 8 4) (fun q => lc_chk (lc_sh q = (0, 1, 0)) (fT_partOf r (lcI z (q + 6) i) z))) else (if x1 = 1 then (if x2 = 1 then some (1, y) else some (0, y)) else some (0, y)) := by
  have c1 : lc_in (nI i) 120 := nI_in hi (by decide)
  have d1 : (nI i).toNatClampNeg = i := nI_clamp (by omega)
  have hb : ∀ β : Type, lc_bnr (β := β) (some o) = fun f => f o := fun _ => rfl
  have idp : ∀ x : Option (Int32 × lc_S), lc_bnd x (fun r z => some (r, z)) = x := fun x => by
    cases x with
    | none => rfl
    | some q => rfl
  have be : ∀ (a : Int32) (f : Int32 → lc_S → Option (Int32 × lc_S)), lc_bnd (some (a, y)) f = f a y := fun _ _ => rfl
  simp only [fK_findType, fK_findType_194, fK_findType_277, fK_findType_341, hr, hb, lc_chk_pos ho, lc_chk_pos c1, d1, e1, e2, be, idp]
  by_cases k64 : lcI y (o + 2) i = 64
  · simp only [k64]
    by_cases hin : lc_in (lcI y (o + 6) i) 4
    · simp only [lc_chk_pos hin]
    · unfold lc_chk; simp only [if_neg hin]
  · simp only [k64, ↓reduceIte]
