/-! how often a variable is used: what is counted, and the class -/
def lc_us (y : lc_S) (o b pt : Nat) : Nat → Nat → Option Nat
  | 0, _ => none
  | D + 1, i => if lcI y (o + 2) i = 35 then some 0 else if lcI y (o + 2) i = 118 then (if lcI y (o + 7) i = nI b ∧ lcI y (o + 6) i = nI pt then some 1 else some 0) else
    (lc_us y o b pt D (lcI y (o + 3) i).toNatClampNeg).bind (fun e => if lcI y (o + 4) i < 0 then some e else
      (lc_us y o b pt D (lcI y (o + 4) i).toNatClampNeg).bind (fun f => if lcI y (o + 2) i = 63 then
        (lc_us y o b pt D (lcI y (o + 5) i).toNatClampNeg).bind (fun g => if f = g then some (e + f) else none) else some (e + f)))
theorem lc_us_one {y : lc_S} {o b pt D i a : Nat} (k1 : lcI y (o + 2) i ≠ 35) (k2 : lcI y (o + 2) i ≠ 118) (h3 : lcI y (o + 3) i = nI a) (ha : a < 120) (h4 : lcI y (o + 4) i = -1) : lc_us y o b pt (D + 1) i = lc_us y o b pt D a := by
  rw [lc_us, if_neg k1, if_neg k2, h3, nI_clamp (by omega), h4]
  cases lc_us y o b pt D a with
  | none => rfl
  | some e => rfl
theorem lc_us_two {y : lc_S} {o b pt D i a a2 : Nat} (k1 : lcI y (o + 2) i ≠ 35) (k2 : lcI y (o + 2) i ≠ 118) (k3 : lcI y (o + 2) i ≠ 63) (h3 : lcI y (o + 3) i = nI a) (ha : a < 120) (h4 : lcI y (o + 4) i = nI a2) (ha2 : a2 < 120) : lc_us y o b pt (D + 1) i = (lc_us y o b pt D a).bind (fun e => (lc_us y o b pt D a2).bind (fun f => some (e + f))) := by
  rw [lc_us, if_neg k1, if_neg k2, h3, nI_clamp (by omega), h4, nI_clamp (by omega)]
  cases lc_us y o b pt D a with
  | none => rfl
  | some e =>
    show (if nI a2 < 0 then _ else _) = _
    rw [if_neg (nI_pos (by omega))]
    cases lc_us y o b pt D a2 with
    | none => rfl
    | some f => show (if lcI y (o + 2) i = 63 then _ else _) = _; rw [if_neg k3]; rfl
theorem lc_us_cho {y : lc_S} {o b pt D i a a2 a3 : Nat} (k3 : lcI y (o + 2) i = 63) (h3 : lcI y (o + 3) i = nI a) (ha : a < 120) (h4 : lcI y (o + 4) i = nI a2) (ha2 : a2 < 120) (h5 : lcI y (o + 5) i = nI a3) (ha3 : a3 < 120) : lc_us y o b pt (D + 1) i = (lc_us y o b pt D a).bind (fun e => (lc_us y o b pt D a2).bind (fun f => (lc_us y o b pt D a3).bind (fun g => if f = g then some (e + f) else none))) := by
  rw [lc_us, if_neg (by rw [k3]; decide), if_neg (by rw [k3]; decide), h3, nI_clamp (by omega), h4, nI_clamp (by omega), h5, nI_clamp (by omega)]
  cases lc_us y o b pt D a with
  | none => rfl
  | some e =>
    show (if nI a2 < 0 then _ else _) = _
    rw [if_neg (nI_pos (by omega))]
    cases lc_us y o b pt D a2 with
    | none => rfl
    | some f => show (if lcI y (o + 2) i = 63 then _ else _) = _; rw [if_pos k3]; rfl
/-- only the row of uses changes -/
def lc_kU (y y' : lc_S) : Prop := (∀ c k, c ≠ 18 → lcI y' c k = lcI y c k) ∧ (∀ c k, lcL y' c k = lcL y c k) ∧ ∀ c k, lcR y' c k = lcR y c k
theorem lc_kU.rf {y : lc_S} : lc_kU y y := ⟨fun _ _ _ => rfl, fun _ _ => rfl, fun _ _ => rfl⟩
theorem lc_kU.tr {x y z : lc_S} (h : lc_kU x y) (g : lc_kU y z) : lc_kU x z := ⟨fun c k a => (g.1 c k a).trans (h.1 c k a), fun c k => (g.2.1 c k).trans (h.2.1 c k), fun c k => (g.2.2 c k).trans (h.2.2 c k)⟩
theorem lc_kU.u {y : lc_S} (k : Nat) (v : Int32) : lc_kU y (lcUI y 18 k v) := ⟨fun c' k' a => by rw [lcI_UI, if_neg (by omega)], fun _ _ => rfl, fun _ _ => rfl⟩
theorem lc_kU.sy {x y : lc_S} (h : lc_kU x y) : lc_sy x y := fun c k a b => h.1 c k (by omega)
theorem lc_up0 (y : lc_S) : fK_usesOfPart (-1) y = some (0, y) := by rw [fK_usesOfPart, if_neg (by decide)]
theorem lc_up1 {y : lc_S} {a : Nat} (h : a < 120) : fK_usesOfPart (nI a) y = some (lcI y 18 a, y) := by
  rw [fK_usesOfPart, if_pos (nI_pos' (by omega)), lc_chk_pos (nI_in h (by decide)), nI_clamp (by omega)]
theorem lc_uStep {y : lc_S} {o i sc : Nat} {B P x1 x2 : Int32} (hr : lcR y 8 4 = some o) (ho : lc_sh o = (0, 1, 0)) (hi : i < 120) (hs : i ≤ sc) (hsc : sc < 120) (e1 : fK_usesOfPart (lcI y (o + 3) i) y = some (x1, y)) (e2 : fK_usesOfPart (lcI y (o + 4) i) y = some (x2, y)) (e3 : lcI y (o + 2) i = 63 → fK_usesOfPart (lcI y (o + 5) i) y = some (x2, y)) :
    ∃ y', (∀ f, fK_usesOf_13 (f + 1) B P (nI sc) (nI i) y = fK_usesOf_13 f B P (nI sc) (nI (i + 1)) y') ∧ lcI y' 18 i = (if lcI y (o + 7) i = B ∧ lcI y (o + 6) i = P ∧ lcI y (o + 2) i = 118 then 1 else x1 + x2) ∧ (∀ j, j ≠ i → lcI y' 18 j = lcI y 18 j) ∧ lc_kU y y' := by
  have ho' := lc_o ho
  have c1 : lc_in (nI i) 120 := nI_in hi (by decide)
  have d1 : (nI i).toNatClampNeg = i := nI_clamp (by omega)
  have n1 : ¬ nI sc < nI i := nI_nlt hs (by omega)
  have hb : lc_bnr (some o) = fun f : Nat → Option (Int32 × lc_S) => f o := rfl
  have be : ∀ (a : Int32) (f : Int32 → lc_S → Option (Int32 × lc_S)), lc_bnd (some (a, y)) f = f a y := fun _ _ => rfl
  have q2 : lcI (lcUI y 18 i (x1 + x2)) (o + 2) i = lcI y (o + 2) i := by rw [lcI_UI, if_neg (by omega)]
  have q6 : lcI (lcUI y 18 i (x1 + x2)) (o + 6) i = lcI y (o + 6) i := by rw [lcI_UI, if_neg (by omega)]
  have q7 : lcI (lcUI y 18 i (x1 + x2)) (o + 7) i = lcI y (o + 7) i := by rw [lcI_UI, if_neg (by omega)]
  have hr' : lcR (lcUI y 18 i (x1 + x2)) 8 4 = some o := hr
  have st : ∀ f, fK_usesOf_13 (f + 1) B P (nI sc) (nI i) y = if lcI y (o + 7) i = B ∧ lcI y (o + 6) i = P ∧ lcI y (o + 2) i = 118 then fK_usesOf_13 f B P (nI sc) (nI (i + 1)) (lcUI (lcUI y 18 i (x1 + x2)) 18 i 1) else fK_usesOf_13 f B P (nI sc) (nI (i + 1)) (lcUI y 18 i (x1 + x2)) := fun f => by
    have h87 : fK_usesOf_87 (fK_usesOf_13 f) B P (nI sc) (nI i) x1 x2 y = if lcI y (o + 7) i = B ∧ lcI y (o + 6) i = P ∧ lcI y (o + 2) i = 118 then fK_usesOf_13 f B P (nI sc) (nI (i + 1)) (lcUI (lcUI y 18 i (x1 + x2)) 18 i 1) else fK_usesOf_13 f B P (nI sc) (nI (i + 1)) (lcUI y 18 i (x1 + x2)) := by
      simp only [fK_usesOf_87, fK_usesOf_150, lc_chk_pos c1, d1, hr', hb, lc_chk_pos ho, q2, q6, q7, lc_let_eq, nI_1]
      by_cases a1 : lcI y (o + 7) i = B
      · by_cases a2 : lcI y (o + 6) i = P
        · by_cases a3 : lcI y (o + 2) i = 118
          · rw [if_pos a1, if_pos a2, if_pos a3, if_pos ⟨a1, a2, a3⟩]
          · rw [if_pos a1, if_pos a2, if_neg a3, if_neg (fun h => a3 h.2.2)]
        · rw [if_pos a1, if_neg a2, if_neg (fun h => a2 h.2.1)]
      · rw [if_neg a1, if_neg (fun h => a1 h.1)]
    rw [fK_usesOf_13, if_neg n1]
    simp only [hr, hb, lc_chk_pos ho, lc_chk_pos c1, d1, e1, e2, be]
    by_cases k63 : lcI y (o + 2) i = 63
    · rw [if_pos k63, e3 k63]
      show (if x2 = x2 then _ else _) = _
      rw [if_pos rfl, h87]
    · rw [if_neg k63, h87]
  by_cases hm : lcI y (o + 7) i = B ∧ lcI y (o + 6) i = P ∧ lcI y (o + 2) i = 118
  · refine ⟨lcUI (lcUI y 18 i (x1 + x2)) 18 i 1, fun f => by rw [st, if_pos hm], ?_, fun j hj => ?_, (lc_kU.u _ _).tr (lc_kU.u _ _)⟩
    · rw [if_pos hm, lcI_UI, if_pos ⟨rfl, rfl⟩]
    · rw [lcI_UI, if_neg (by omega), lcI_UI, if_neg (by omega)]
  · refine ⟨lcUI y 18 i (x1 + x2), fun f => by rw [st, if_neg hm], ?_, fun j hj => ?_, lc_kU.u _ _⟩
    · rw [if_neg hm, lcI_UI, if_pos ⟨rfl, rfl⟩]
    · rw [lcI_UI, if_neg (by omega)]
/-- two ways that are unlike -/
theorem lc_uStepX {y : lc_S} {o i sc : Nat} {B P x1 x2 x3 : Int32} (hr : lcR y 8 4 = some o) (ho : lc_sh o = (0, 1, 0)) (hi : i < 120) (hs : i ≤ sc) (hsc : sc < 120) (e1 : fK_usesOfPart (lcI y (o + 3) i) y = some (x1, y)) (e2 : fK_usesOfPart (lcI y (o + 4) i) y = some (x2, y)) (k63 : lcI y (o + 2) i = 63) (e3 : fK_usesOfPart (lcI y (o + 5) i) y = some (x3, y)) (hx : x2 ≠ x3) (f : Nat) : fK_usesOf_13 (f + 1) B P (nI sc) (nI i) y = some (-1, y) := by
  have c1 : lc_in (nI i) 120 := nI_in hi (by decide)
  have d1 : (nI i).toNatClampNeg = i := nI_clamp (by omega)
  have n1 : ¬ nI sc < nI i := nI_nlt hs (by omega)
  have hb : lc_bnr (some o) = fun f : Nat → Option (Int32 × lc_S) => f o := rfl
  have be : ∀ (a : Int32) (f : Int32 → lc_S → Option (Int32 × lc_S)), lc_bnd (some (a, y)) f = f a y := fun _ _ => rfl
  rw [fK_usesOf_13, if_neg n1]
  simp only [hr, hb, lc_chk_pos ho, lc_chk_pos c1, d1, e1, e2, be]
  rw [if_pos k63, e3]
  show (if x2 = x3 then _ else _) = _
  rw [if_neg hx]
/-- what the class's loop over the expressions lo .. i comes to -/
def lc_uR (y : lc_S) (sc lo i : Nat) (B P : Int32) (r : Option Nat) : Prop := ∃ y', lc_kU y y' ∧ ((∃ u, r = some u ∧ u ≤ i + 1 - lo ∧ (∀ f, fK_usesOf_13 (f + (i + 1 - lo)) B P (nI sc) (nI lo) y = fK_usesOf_13 f B P (nI sc) (nI (i + 1)) y') ∧ lcI y' 18 i = nI u ∧ ∀ j, j < lo → lcI y' 18 j = lcI y 18 j) ∨ (r = none ∧ ∀ f, fK_usesOf_13 (f + (i + 1 - lo)) B P (nI sc) (nI lo) y = some (-1, y')))
theorem lc_usA {y0 z : lc_S} {o base b pt sc : Nat} (ho : lc_sh o = (0, 1, 0)) (hsc : sc < 120) : ∀ (D lo i p hi : Nat) (env : List lc_en) (y : lc_S), lc_R y0 z o base D lo i p hi env → i ≤ sc → lcR y 8 4 = some o → lc_sy y0 y → lc_uR y sc lo i (nI b) (nI pt) (lc_us y0 o b pt D i)
  | 0, _, _, _, _, _, _, h, _, _, _ => absurd h id
  | D + 1, lo, i, p, hi, env, y, h, hs, hr, sy => by
    rw [lc_R] at h
    have ho' := lc_o ho
    obtain ⟨g1, g2, g3, g4, h⟩ := h
    have s2 := sy (o + 2) i (by omega) (by omega)
    have s3 := sy (o + 3) i (by omega) (by omega)
    have s4 := sy (o + 4) i (by omega) (by omega)
    have s5 := sy (o + 5) i (by omega) (by omega)
    have s6 := sy (o + 6) i (by omega) (by omega)
    have s7 := sy (o + 7) i (by omega) (by omega)
    rcases h with ⟨r1, r2, r3, r4, r5, r6, -⟩ | ⟨r1, r2, r3, r4, r5, r6, bb, pp, r7, r8, r9⟩ | ⟨a, h1, r1, r2, r3, r4, h⟩
    · subst r1
      obtain ⟨y', q1, q2, q3, q4⟩ := lc_uStep (y := y) (i := lo) (sc := sc) (B := nI b) (P := nI pt) hr ho g1 hs hsc (by rw [s3, r5]; exact lc_up0 y) (by rw [s4, r6]; exact lc_up0 y) (fun e => by rw [s2, r3] at e; exact absurd e (by decide))
      refine ⟨y', q4, Or.inl ⟨0, by rw [lc_us, if_pos r3], by omega, fun f => by rw [show lo + 1 - lo = 1 by omega]; exact q1 f, ?_, fun j hj => q3 j (by omega)⟩⟩
      rw [q2, if_neg (fun e => by rw [s2, r3] at e; exact absurd e.2.2 (by decide))]; rfl
    · subst r1
      obtain ⟨y', q1, q2, q3, q4⟩ := lc_uStep (y := y) (i := lo) (sc := sc) (B := nI b) (P := nI pt) hr ho g1 hs hsc (by rw [s3, r5]; exact lc_up0 y) (by rw [s4, r6]; exact lc_up0 y) (fun e => by rw [s2, r3] at e; exact absurd e (by decide))
      have eu : lc_us y0 o b pt (D + 1) lo = if lcI y0 (o + 7) lo = nI b ∧ lcI y0 (o + 6) lo = nI pt then some 1 else some 0 := by rw [lc_us, if_neg (by rw [r3]; decide), if_pos r3]
      by_cases hm : lcI y0 (o + 7) lo = nI b ∧ lcI y0 (o + 6) lo = nI pt
      · refine ⟨y', q4, Or.inl ⟨1, by rw [eu, if_pos hm], by omega, fun f => by rw [show lo + 1 - lo = 1 by omega]; exact q1 f, ?_, fun j hj => q3 j (by omega)⟩⟩
        rw [q2, if_pos ⟨by rw [s7]; exact hm.1, by rw [s6]; exact hm.2, by rw [s2]; exact r3⟩]; rfl
      · refine ⟨y', q4, Or.inl ⟨0, by rw [eu, if_neg hm], by omega, fun f => by rw [show lo + 1 - lo = 1 by omega]; exact q1 f, ?_, fun j hj => q3 j (by omega)⟩⟩
        rw [q2, if_neg (fun e => hm ⟨by rw [← s7]; exact e.1, by rw [← s6]; exact e.2.1⟩)]; rfl
    · have ra := lc_R_lo r4
      have hkinds : lcI y0 (o + 2) i ≠ 35 ∧ lcI y0 (o + 2) i ≠ 118 := by
        rcases h with ⟨g, -⟩ | ⟨g, -⟩ | ⟨a2, h2, -, -, ⟨g, -⟩ | ⟨g, -⟩ | ⟨g, -⟩ | ⟨g, -⟩⟩
        · rcases g with g | g | g <;> rw [g] <;> decide
        · rw [g]; decide
        · rcases g with g | g | g | g | g | g <;> rw [g] <;> decide
        · rw [g]; decide
        · rw [g]; decide
        · rw [g]; decide
      obtain ⟨n35, n118⟩ := hkinds
      have hai : a < i := by
        rcases h with ⟨-, g, -⟩ | ⟨-, g, -⟩ | ⟨a2, h2, -, -, ⟨-, g, -, q⟩ | ⟨-, g, -, b', -, -, -, -, q⟩ | ⟨-, g, -, b', -, -, -, -, q⟩ | ⟨-, a3, -, -, g, q, q'⟩⟩
        · omega
        · omega
        · have := lc_R_lo q; omega
        · have := lc_R_lo q; omega
        · have := lc_R_lo q; omega
        · have := lc_R_lo q; have := lc_R_lo q'; omega
      obtain ⟨y1, k1, IH1⟩ := lc_usA (b := b) (pt := pt) ho hsc D lo a (p + 1) h1 env y r4 (by omega) hr sy
      have sy1 : lc_sy y0 y1 := fun c j x x' => (k1.sy c j x x').trans (sy c j x x')
      have hr1 : lcR y1 8 4 = some o := by rw [k1.2.2]; exact hr
      have oneCase : lcI y0 (o + 2) i ≠ 63 → lcI y0 (o + 4) i = -1 → i = a + 1 → lc_uR y sc lo i (nI b) (nI pt) (lc_us y0 o b pt (D + 1) i) := fun k63 h4 hia => by
        rw [lc_us_one n35 n118 r1 (by omega) h4]
        rcases IH1 with ⟨u, e1, e2, e3, e4, e5⟩ | ⟨e1, e2⟩
        · obtain ⟨y', q1, q2, q3, q4⟩ := lc_uStep (y := y1) (i := i) (sc := sc) (B := nI b) (P := nI pt) (x1 := nI u) (x2 := 0) hr1 ho g1 hs hsc (by rw [sy1 _ _ (by omega) (by omega), r1, lc_up1 (by omega), e4]) (by rw [sy1 _ _ (by omega) (by omega), h4]; exact lc_up0 y1) (fun e => absurd (by rw [sy1 _ _ (by omega) (by omega)] at e; exact e) k63)
          refine ⟨y', k1.tr q4, Or.inl ⟨u, e1, by omega, fun f => ?_, ?_, fun j hj => by rw [q3 j (by omega), e5 j hj]⟩⟩
          · rw [show f + (i + 1 - lo) = f + 1 + (a + 1 - lo) by omega, e3, ← hia]
            exact q1 f
          · rw [q2, if_neg (fun e => n118 (by have e' := e.2.2; rw [sy1 _ _ (by omega) (by omega)] at e'; exact e'))]
            exact Int32.add_zero _
        · exact ⟨y1, k1, Or.inr ⟨e1, fun f => by rw [show f + (i + 1 - lo) = f + (i - a) + (a + 1 - lo) by omega]; exact e2 _⟩⟩
      have twoCase : ∀ a2 h2 env', lcI y0 (o + 2) i ≠ 63 → lcI y0 (o + 4) i = nI a2 → i = a2 + 1 → lc_R y0 z o base D (a + 1) a2 h1 h2 env' → lc_uR y sc lo i (nI b) (nI pt) (lc_us y0 o b pt (D + 1) i) := fun a2 h2 env' k63 h4 hia hR2 => by
        have rb := lc_R_lo hR2
        rw [lc_us_two n35 n118 k63 r1 (by omega) h4 (by omega)]
        rcases IH1 with ⟨u, e1, e2, e3, e4, e5⟩ | ⟨e1, e2⟩
        · obtain ⟨y2, k2, IH2⟩ := lc_usA (b := b) (pt := pt) ho hsc D (a + 1) a2 h1 h2 env' y1 hR2 (by omega) hr1 sy1
          have sy2 : lc_sy y0 y2 := fun c j x x' => (k2.sy c j x x').trans (sy1 c j x x')
          have hr2 : lcR y2 8 4 = some o := by rw [k2.2.2]; exact hr1
          rcases IH2 with ⟨v, f1, f2, f3, f4, f5⟩ | ⟨f1, f2⟩
          · obtain ⟨y', q1, q2, q3, q4⟩ := lc_uStep (y := y2) (i := i) (sc := sc) (B := nI b) (P := nI pt) (x1 := nI u) (x2 := nI v) hr2 ho g1 hs hsc (by rw [sy2 _ _ (by omega) (by omega), r1, lc_up1 (by omega), f5 a (by omega), e4]) (by rw [sy2 _ _ (by omega) (by omega), h4, lc_up1 (by omega), f4]) (fun e => absurd (by rw [sy2 _ _ (by omega) (by omega)] at e; exact e) k63)
            refine ⟨y', (k1.tr k2).tr q4, Or.inl ⟨u + v, by rw [e1, f1]; rfl, by omega, fun f => ?_, ?_, fun j hj => by rw [q3 j (by omega), f5 j (by omega), e5 j hj]⟩⟩
            · rw [show f + (i + 1 - lo) = f + 1 + (a2 + 1 - (a + 1)) + (a + 1 - lo) by omega, e3, f3, ← hia]
              exact q1 f
            · rw [q2, if_neg (fun e => n118 (by have e' := e.2.2; rw [sy2 _ _ (by omega) (by omega)] at e'; exact e')), nI_add]
          · exact ⟨y2, k1.tr k2, Or.inr ⟨by rw [e1, f1]; rfl, fun f => by rw [show f + (i + 1 - lo) = f + (i - a2) + (a2 + 1 - (a + 1)) + (a + 1 - lo) by omega, e3]; exact f2 _⟩⟩
        · exact ⟨y1, k1, Or.inr ⟨by rw [e1]; rfl, fun f => by rw [show f + (i + 1 - lo) = f + (i - a) + (a + 1 - lo) by omega]; exact e2 _⟩⟩
      rcases h with ⟨k1', k2', k3', k4'⟩ | ⟨k1', k2', k3', k4', -⟩ | ⟨a2, h2, q1, q2, ⟨m1, m2, m3, m4⟩ | ⟨m1, m2, m3, bb, m4, m5, m6, m7, m8⟩ | ⟨m1, m2, m3, bb, m4, m5, m6, m7, m8⟩ | ⟨m1, a3, m2, m3, m4, m5, m6⟩⟩
      · exact oneCase (by rcases k1' with g | g | g <;> rw [g] <;> decide) k4' k2'
      · exact oneCase (by rw [k1']; decide) k4' k2'
      · exact twoCase a2 h2 _ (by rcases m1 with g | g | g | g | g | g <;> rw [g] <;> decide) q1 m2 m4
      · exact twoCase a2 h2 _ (by rw [m1]; decide) q1 m2 m8
      · exact twoCase a2 h2 _ (by rw [m1]; decide) q1 m2 m8
      · have rb := lc_R_lo m5
        have rc := lc_R_lo m6
        rw [lc_us_cho m1 r1 (by omega) q1 (by omega) m2 (by omega)]
        rcases IH1 with ⟨u, e1, e2, e3, e4, e5⟩ | ⟨e1, e2⟩
        · obtain ⟨y2, k2, IH2⟩ := lc_usA (b := b) (pt := pt) ho hsc D (a + 1) a2 h1 h2 env y1 m5 (by omega) hr1 sy1
          have sy2 : lc_sy y0 y2 := fun c j x x' => (k2.sy c j x x').trans (sy1 c j x x')
          have hr2 : lcR y2 8 4 = some o := by rw [k2.2.2]; exact hr1
          rcases IH2 with ⟨v, f1, f2, f3, f4, f5⟩ | ⟨f1, f2⟩
          · obtain ⟨y3, k3, IH3⟩ := lc_usA (b := b) (pt := pt) ho hsc D (a2 + 1) a3 h2 hi env y2 m6 (by omega) hr2 sy2
            have sy3 : lc_sy y0 y3 := fun c j x x' => (k3.sy c j x x').trans (sy2 c j x x')
            have hr3 : lcR y3 8 4 = some o := by rw [k3.2.2]; exact hr2
            rcases IH3 with ⟨w, w1, w2, w3, w4, w5⟩ | ⟨w1, w2⟩
            · have p1 : fK_usesOfPart (lcI y3 (o + 3) i) y3 = some (nI u, y3) := by rw [sy3 _ _ (by omega) (by omega), r1, lc_up1 (by omega), w5 a (by omega), f5 a (by omega), e4]
              have p2 : fK_usesOfPart (lcI y3 (o + 4) i) y3 = some (nI v, y3) := by rw [sy3 _ _ (by omega) (by omega), q1, lc_up1 (by omega), w5 a2 (by omega), f4]
              have p3 : fK_usesOfPart (lcI y3 (o + 5) i) y3 = some (nI w, y3) := by rw [sy3 _ _ (by omega) (by omega), m2, lc_up1 (by omega), w4]
              by_cases hvw : v = w
              · subst hvw
                obtain ⟨y', t1, t2, t3, t4⟩ := lc_uStep (y := y3) (i := i) (sc := sc) (B := nI b) (P := nI pt) (x1 := nI u) (x2 := nI v) hr3 ho g1 hs hsc p1 p2 (fun _ => p3)
                refine ⟨y', ((k1.tr k2).tr k3).tr t4, Or.inl ⟨u + v, by rw [e1, f1, w1]; show (if v = v then _ else _) = _; rw [if_pos rfl], by omega, fun f => ?_, ?_, fun j hj => by rw [t3 j (by omega), w5 j (by omega), f5 j (by omega), e5 j hj]⟩⟩
                · rw [show f + (i + 1 - lo) = f + 1 + (a3 + 1 - (a2 + 1)) + (a2 + 1 - (a + 1)) + (a + 1 - lo) by omega, e3, f3, w3, ← m4]
                  exact t1 f
                · rw [t2, if_neg (fun e => n118 (by have e' := e.2.2; rw [sy3 _ _ (by omega) (by omega)] at e'; exact e')), nI_add]
              · refine ⟨y3, (k1.tr k2).tr k3, Or.inr ⟨by rw [e1, f1, w1]; show (if v = w then _ else _) = _; rw [if_neg hvw], fun f => ?_⟩⟩
                rw [show f + (i + 1 - lo) = f + 1 + (a3 + 1 - (a2 + 1)) + (a2 + 1 - (a + 1)) + (a + 1 - lo) by omega, e3, f3, w3, ← m4]
                exact lc_uStepX hr3 ho g1 hs hsc p1 p2 (by rw [sy3 _ _ (by omega) (by omega)]; exact m1) p3 (fun e => hvw ((nI_eq (by omega) (by omega)).mp e)) f
            · exact ⟨y3, (k1.tr k2).tr k3, Or.inr ⟨by rw [e1, f1, w1]; rfl, fun f => by rw [show f + (i + 1 - lo) = f + (i - a3) + (a3 + 1 - (a2 + 1)) + (a2 + 1 - (a + 1)) + (a + 1 - lo) by omega, e3, f3]; exact w2 _⟩⟩
          · exact ⟨y2, k1.tr k2, Or.inr ⟨by rw [e1, f1]; rfl, fun f => by rw [show f + (i + 1 - lo) = f + (i - a2) + (a2 + 1 - (a + 1)) + (a + 1 - lo) by omega, e3]; exact f2 _⟩⟩
        · exact ⟨y1, k1, Or.inr ⟨by rw [e1]; rfl, fun f => by rw [show f + (i + 1 - lo) = f + (i - a) + (a + 1 - lo) by omega]; exact e2 _⟩⟩
/-- what the class's usesOf answers -/
theorem lc_usesOfA {y0 z y : lc_S} {o base b pt D lo i p hi : Nat} {env : List lc_en} (ho : lc_sh o = (0, 1, 0)) (hR : lc_R y0 z o base D lo i p hi env) (hr : lcR y 8 4 = some o) (sy : lc_sy y0 y) (hb : b < 24) (h8 : lcI y0 (o + 8) b + 1 = nI lo) : ∃ x y', fK_usesOf (nI b) (nI pt) (nI i) y = some (x, y') ∧ lc_kU y y' ∧ (x = 1 ↔ lc_us y0 o b pt D i = some 1) := by
  have ho' := lc_o ho
  have rl := lc_R_lo hR
  obtain ⟨y', k1, h⟩ := lc_usA (b := b) (pt := pt) (sc := i) ho rl.1 D lo i p hi env y hR (Nat.le_refl _) hr sy
  have st : fK_usesOf (nI b) (nI pt) (nI i) y = fK_usesOf_13 lc_FU (nI b) (nI pt) (nI i) (nI lo) y := by
    rw [fK_usesOf, lc_bnr_eq hr, lc_chk_pos ho, lc_chk_pos (nI_in hb (by decide)), nI_clamp (by omega), sy _ _ (by omega) (by omega), h8, lc_let_eq]
  have ef : lc_FU = lc_FU - (i + 1 - lo) + (i + 1 - lo) := by unfold lc_FU; omega
  rcases h with ⟨u, e1, e2, e3, e4, -⟩ | ⟨e1, e2⟩
  · refine ⟨nI u, y', ?_, k1, ?_⟩
    · rw [st, ef, e3]
      obtain ⟨f, hf⟩ : ∃ f, lc_FU - (i + 1 - lo) = f + 1 := ⟨lc_FU - (i + 1 - lo) - 1, by unfold lc_FU; omega⟩
      rw [hf, fK_usesOf_13, if_pos (nI_lt (by omega) (by omega)), lc_bnd_eq (lc_up1 rl.1), e4]
    · rw [e1]
      refine ⟨fun h => ?_, fun h => ?_⟩
      · rw [(nI_eq (b := 1) (by omega) (by decide)).mp h]
      · rw [Option.some.inj h]; rfl
  · refine ⟨-1, y', ?_, k1, ?_⟩
    · rw [st, ef]; exact e2 _
    · rw [e1]; exact ⟨fun h => absurd h (by decide), fun h => by cases h⟩
