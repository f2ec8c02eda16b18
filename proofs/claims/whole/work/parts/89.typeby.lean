/-! the reference finds the type of a part from what is known -/
def lc_xQ (δ : Nat → lc_tp) (n : Nat) (x : Int32) (r : lc_ot) : Prop := (x = -1 ∧ r = none) ∨ ∃ u, u < n ∧ x = nI u ∧ r = some (δ u)
theorem lc_xQ_le {δ δ' : Nat → lc_tp} {n n' : Nat} {x : Int32} {r : lc_ot} (hn : n ≤ n') (hd : ∀ s, s < n → δ' s = δ s) (h : lc_xQ δ n x r) : lc_xQ δ' n' x r := by
  rcases h with h | ⟨u, h1, h2, h3⟩
  · exact Or.inl h
  · exact Or.inr ⟨u, by omega, h2, by rw [hd u h1]; exact h3⟩
theorem lc_dQ_nil {z : lc_S} {δ : Nat → lc_tp} {n s : Nat} (h : lc_TQ z δ n) (hs : s < n) : (some (δ s) : lc_ot) = some .nil ↔ s = 0 := by
  refine ⟨fun e => ?_, fun e => by rw [e, h.2.2.2.1]⟩
  exact h.2.2.2.2.2.2 s 0 hs (by have := h.2.1; omega) (by rw [h.2.2.2.1]; exact Option.some.inj e)
theorem lc_dQ_line {z : lc_S} {δ : Nat → lc_tp} {n s : Nat} (h : lc_TQ z δ n) (hs : s < n) : (some (δ s) : lc_ot) = some .line ↔ s = 1 := by
  refine ⟨fun e => ?_, fun e => by rw [e, h.2.2.2.2.1]⟩
  exact h.2.2.2.2.2.2 s 1 hs (by have := h.2.1; omega) (by rw [h.2.2.2.2.1]; exact Option.some.inj e)
theorem lc_dQ_inj {z : lc_S} {δ : Nat → lc_tp} {n s t : Nat} (h : lc_TQ z δ n) (hs : s < n) (ht : t < n) : (some (δ s) : lc_ot) = some (δ t) ↔ s = t :=
  ⟨fun e => h.2.2.2.2.2.2 s t hs ht (Option.some.inj e), fun e => by rw [e]⟩
theorem lc_dQ_pair {z : lc_S} {δ : Nat → lc_tp} {n s : Nat} (h : lc_TQ z δ n) (hs : s < n) : (2 ≤ s ∧ ∃ a b, a < s ∧ b < s ∧ lcI z 98 s = nI a ∧ lcI z 99 s = nI b ∧ δ s = lc_prr (δ a) (δ b)) ∨ (s < 2 ∧ ∀ a b, (some (δ s) : lc_ot) ≠ some (lc_prr a b)) := by
  by_cases h2 : 2 ≤ s
  · exact Or.inl ⟨h2, h.2.2.2.2.2.1 s h2 hs⟩
  · refine Or.inr ⟨by omega, fun a b e => ?_⟩
    obtain rfl | rfl : s = 0 ∨ s = 1 := by omega
    · rw [h.2.2.2.1] at e; cases e
    · rw [h.2.2.2.2.1] at e; cases e
/-- not known, or right -/
abbrev lc_uQ (δ : Nat → lc_tp) (n : Nat) (x : Int32) (r : lc_ot) : Prop := x = -2 ∨ lc_xQ δ n x r
/-- from values of parts that are known -/
theorem lc_115U {z : lc_S} {x3 x4 x6 x7 t0 : Int32} (h6 : x6 ≠ -1) (h7 : x7 ≠ -1) (h0 : t0 ≠ -1) : fQ_typeBy_115 x3 x4 x6 x7 t0 z = if x6 < 0 then some (-2, z) else if x7 < 0 then some (-2, z) else if t0 < 0 then some (-2, z) else fQ_typeBy_115 x3 x4 x6 x7 t0 z := by
  by_cases c1 : x6 < 0
  · rw [if_pos c1, fQ_typeBy_115, if_neg h6, if_neg h7, if_neg h0, if_pos c1]; rfl
  · by_cases c2 : x7 < 0
    · rw [if_neg c1, if_pos c2, fQ_typeBy_115, if_neg h6, if_neg h7, if_neg h0, if_neg c1, if_pos c2]; rfl
    · by_cases c3 : t0 < 0
      · rw [if_neg c1, if_neg c2, if_pos c3, fQ_typeBy_115, if_neg h6, if_neg h7, if_neg h0, if_neg c1, if_neg c2, if_neg (by rw [Int32.not_le]; exact c3)]; rfl
      · rw [if_neg c1, if_neg c2, if_neg c3]
theorem lc_115N {z : lc_S} {x3 x4 x6 x7 t0 : Int32} (h : x6 = -1 ∨ x7 = -1 ∨ t0 = -1) : fQ_typeBy_115 x3 x4 x6 x7 t0 z = some (-1, z) := by
  rw [fQ_typeBy_115]
  by_cases c1 : x6 = -1
  · rw [if_pos c1]; rfl
  · by_cases c2 : x7 = -1
    · rw [if_neg c1, if_pos c2]; rfl
    · have c3 : t0 = -1 := by rcases h with h | h | h; exact absurd h c1; exact absurd h c2; exact h
      rw [if_neg c1, if_neg c2, if_pos c3]; rfl
theorem lc_nne1 {u : Nat} (h : u < 2147483648) : nI u ≠ -1 := fun e => lc_nI_m1 h e.symm
/-- the switch, all parts known -/
theorem lc_115K {z : lc_S} {x3 x4 : Int32} {a b c : Nat} (ha : a < 400) (hb : b < 400) (hc : c < 400) : fQ_typeBy_115 x3 x4 (nI a) (nI b) (nI c) z = if x4 = 42 then fQ_typeBy_264 (nI a) (nI b) z else if x4 = 43 then fQ_typeBy_264 (nI a) (nI b) z else if x4 = 44 then fQ_pairType (nI a) (nI b) z else if x4 = 45 then fQ_typeBy_264 (nI a) (nI b) z else if x4 = 47 then (if a ≤ 1 then some (-1, z) else some (nI b, z)) else if x4 = 58 then some (nI b, z) else if x4 = 60 then fQ_typeBy_264 (nI a) (nI b) z else
    if x4 = 63 then (if a = 0 then (if b = c then some (nI b, z) else some (-1, z)) else some (-1, z)) else if x4 = 100 then (if a = 1 then some (0, z) else some (-1, z)) else if x4 = 103 then (if a = 1 then fQ_pairType 0 1 z else some (-1, z)) else if x4 = 110 then (if a = 0 then some (1, z) else some (-1, z)) else if x4 = 112 then (if a = 1 then (if b = 0 then some (1, z) else some (-1, z)) else some (-1, z)) else
    lc_chk (lc_in x3 600) (lc_bnd (fQ_isThere (lcI z 83 x3.toNatClampNeg) z) (fun r388 z388 => if r388 = 0 then some (-1, z388) else (lc_chk (lc_in x3 600) (lc_chk (lc_in (lcI z388 83 x3.toNatClampNeg) 4) (if nI a = (lcI z388 101 (lcI z388 83 x3.toNatClampNeg).toNatClampNeg) then (lc_chk (lc_in x3 600) (lc_chk (lc_in (lcI z388 83 x3.toNatClampNeg) 4) (some (lcI z388 102 (lcI z388 83 x3.toNatClampNeg).toNatClampNeg, z388)))) else some (-1, z388)))))) := by
  have n1 := lc_nne1 (u := a) (by omega)
  have n2 := lc_nne1 (u := b) (by omega)
  have n3 := lc_nne1 (u := c) (by omega)
  have m1 : ¬ nI a < 0 := nI_pos (by omega)
  have m2 : ¬ nI b < 0 := nI_pos (by omega)
  have m3 : 0 ≤ nI c := nI_pos' (by omega)
  have idp : ∀ x : Option (Int32 × lc_S), lc_bnd x (fun r z => some (r, z)) = x := fun x => by
    cases x with
    | none => rfl
    | some q => rfl
  have l1 : (nI a ≤ 1) = (a ≤ 1) := propext (nI_leI (b := 1) (by omega) (by decide))
  have e0 : (nI a = 0) = (a = 0) := lc_eqn (b := 0) (by omega) (by decide)
  have e1 : (nI a = 1) = (a = 1) := lc_eqn (b := 1) (by omega) (by decide)
  have e2 : (nI b = 0) = (b = 0) := lc_eqn (b := 0) (by omega) (by decide)
  have e3 : (nI b = nI c) = (b = c) := lc_eqn (by omega) (by omega)
  rw [fQ_typeBy_115, if_neg n1, if_neg n2, if_neg n3, if_neg m1, if_neg m2, if_pos m3]
  simp only [idp, l1, e0, e1, e2, e3]
  rfl
theorem lc_264 {z : lc_S} {a b : Nat} (ha : a < 400) (hb : b < 400) : fQ_typeBy_264 (nI a) (nI b) z = if a = 0 ∧ b = 0 then some (0, z) else some (-1, z) := by
  have e0 : (nI a = 0) = (a = 0) := lc_eqn (b := 0) (by omega) (by decide)
  have e2 : (nI b = 0) = (b = 0) := lc_eqn (b := 0) (by omega) (by decide)
  rw [fQ_typeBy_264]
  simp only [e0, e2]
  by_cases c1 : a = 0
  · by_cases c2 : b = 0
    · rw [if_pos c1, if_pos c2, if_pos ⟨c1, c2⟩]
    · rw [if_pos c1, if_neg c2, if_neg (fun h => c2 h.2)]; rfl
  · rw [if_neg c1, if_neg (fun h => c1 h.1)]; rfl
