/-! the class finds the type of an expression behind its parts -/
theorem lc_nI_m1 {a : Nat} (h : a < 2147483648) : ¬ (-1 : Int32) = nI a := fun e => by
  have := nI_pos (n := a) (by omega)
  rw [← e] at this
  exact this (by decide)
theorem lc_loc_num {y : lc_S} {o k : Nat} {ρ VT GT : Nat → lc_ot} {j : Nat} (hK : lcI y (o + 2) j = 35) (h3 : lcI y (o + 3) j = -1) (h : ρ j = some .nil) : lc_loc y o k ρ VT GT j :=
  ⟨fun _ => h, fun e => by rw [hK] at e; exact absurd e (by decide), fun a e ha => by rw [h3] at e; exact absurd e (lc_nI_m1 (by omega))⟩
theorem lc_loc_var {y : lc_S} {o k : Nat} {ρ VT GT : Nat → lc_ot} {j b pt : Nat} (hK : lcI y (o + 2) j = 118) (h3 : lcI y (o + 3) j = -1) (h7 : lcI y (o + 7) j = nI b) (h6 : lcI y (o + 6) j = nI pt) (hb : b < 24) (hp : pt < 3) (h : (b = 0 → lc_part (VT k) pt (ρ j)) ∧ ∀ a, 0 < b → lcI y (o + 8) b = nI a → a < 120 → lc_part (ρ a) pt (ρ j)) : lc_loc y o k ρ VT GT j :=
  ⟨fun e => by rw [hK] at e; exact absurd e (by decide), fun _ b' pt' e1 e2 l1 l2 => by
    have e3 : b' = b := (nI_eq (by omega) (by omega)).mp (e1.symm.trans h7)
    have e4 : pt' = pt := (nI_eq (by omega) (by omega)).mp (e2.symm.trans h6)
    subst e3; subst e4
    exact h, fun a e ha => by rw [h3] at e; exact absurd e (lc_nI_m1 (by omega))⟩
theorem lc_loc_one {y : lc_S} {o k : Nat} {ρ VT GT : Nat → lc_ot} {j a : Nat} (hK : lc_one (lcI y (o + 2) j)) (h3 : lcI y (o + 3) j = nI a) (ha : a < 120) (h4 : lcI y (o + 4) j = -1) (h : lc_r1 (lcI y (o + 2) j) (ρ a) (ρ j)) : lc_loc y o k ρ VT GT j :=
  ⟨fun e => by rw [e] at hK; exact absurd hK (by decide), fun e => by rw [e] at hK; exact absurd hK (by decide), fun a' e ha' => by
    have e3 : a' = a := (nI_eq (by omega) (by omega)).mp (e.symm.trans h3)
    subst e3
    exact ⟨h, fun e => by rw [e] at hK; exact absurd hK (by decide), fun a2 e h2 => by rw [h4] at e; exact absurd e (lc_nI_m1 (by omega))⟩⟩
theorem lc_loc_call {y : lc_S} {o k : Nat} {ρ VT GT : Nat → lc_ot} {j a c : Nat} (hK : lcI y (o + 2) j = 64) (h3 : lcI y (o + 3) j = nI a) (ha : a < 120) (h4 : lcI y (o + 4) j = -1) (hc : c < 4) (h6 : lcI y (o + 6) j = nI c) (h : lc_yes (ρ a = VT c) (GT c) (ρ j)) : lc_loc y o k ρ VT GT j :=
  ⟨fun e => by rw [hK] at e; exact absurd e (by decide), fun e => by rw [hK] at e; exact absurd e (by decide), fun a' e ha' => by
    have e3 : a' = a := (nI_eq (by omega) (by omega)).mp (e.symm.trans h3)
    subst e3
    refine ⟨⟨fun e => by rw [hK] at e; exact absurd e (by decide), fun e => by rw [hK] at e; exact absurd e (by decide), fun e => by rw [hK] at e; exact absurd e (by decide)⟩, fun _ c' hc' e => ?_, fun a2 e h2 => by rw [h4] at e; exact absurd e (lc_nI_m1 (by omega))⟩
    have e4 : c' = c := (nI_eq (by omega) (by omega)).mp (e.symm.trans h6)
    subst e4
    exact h⟩
theorem lc_loc_two {y : lc_S} {o k : Nat} {ρ VT GT : Nat → lc_ot} {j a a2 : Nat} (hK : lc_two (lcI y (o + 2) j) ∨ lcI y (o + 2) j = 58 ∨ lcI y (o + 2) j = 47) (h3 : lcI y (o + 3) j = nI a) (ha : a < 120) (h4 : lcI y (o + 4) j = nI a2) (ha2 : a2 < 120) (h : lc_r2 (lcI y (o + 2) j) (ρ a) (ρ a2) (ρ j)) : lc_loc y o k ρ VT GT j :=
  ⟨fun e => by rw [e] at hK; exact absurd hK (by decide), fun e => by rw [e] at hK; exact absurd hK (by decide), fun a' e ha' => by
    have e3 : a' = a := (nI_eq (by omega) (by omega)).mp (e.symm.trans h3)
    subst e3
    refine ⟨⟨fun e => by rw [e] at hK; exact absurd hK (by decide), fun e => by rw [e] at hK; exact absurd hK (by decide), fun e => by rw [e] at hK; exact absurd hK (by decide)⟩, fun e => by rw [e] at hK; exact absurd hK (by decide), fun a2' e h2 => ?_⟩
    have e4 : a2' = a2 := (nI_eq (by omega) (by omega)).mp (e.symm.trans h4)
    subst e4
    exact ⟨h, fun e => by rw [e] at hK; exact absurd hK (by decide)⟩⟩
theorem lc_loc_cho {y : lc_S} {o k : Nat} {ρ VT GT : Nat → lc_ot} {j a a2 a3 : Nat} (hK : lcI y (o + 2) j = 63) (h3 : lcI y (o + 3) j = nI a) (ha : a < 120) (h4 : lcI y (o + 4) j = nI a2) (ha2 : a2 < 120) (h5 : lcI y (o + 5) j = nI a3) (ha3 : a3 < 120) (h : lc_yes (ρ a = some .nil ∧ ρ a2 = ρ a3) (ρ a2) (ρ j)) : lc_loc y o k ρ VT GT j :=
  ⟨fun e => by rw [hK] at e; exact absurd e (by decide), fun e => by rw [hK] at e; exact absurd e (by decide), fun a' e ha' => by
    have e3 : a' = a := (nI_eq (by omega) (by omega)).mp (e.symm.trans h3)
    subst e3
    refine ⟨⟨fun e => by rw [hK] at e; exact absurd e (by decide), fun e => by rw [hK] at e; exact absurd e (by decide), fun e => by rw [hK] at e; exact absurd e (by decide)⟩, fun e => by rw [hK] at e; exact absurd e (by decide), fun a2' e h2 => ?_⟩
    have e4 : a2' = a2 := (nI_eq (by omega) (by omega)).mp (e.symm.trans h4)
    subst e4
    refine ⟨⟨fun e => by rw [hK] at e; exact absurd e (by decide), fun e => by rw [hK] at e; exact absurd e (by decide), fun e => by rw [hK] at e; exact absurd e (by decide), fun e => by rw [hK] at e; exact absurd e (by decide), fun e => by rw [hK] at e; exact absurd e (by decide)⟩, fun _ a3' e h3' => ?_⟩
    have e5 : a3' = a3 := (nI_eq (by omega) (by omega)).mp (e.symm.trans h5)
    subst e5
    exact h⟩
def lc_upd (i : Nat) (v : lc_ot) (ρ : Nat → lc_ot) (j : Nat) : lc_ot := if j = i then v else ρ j
theorem lc_eqn {a b : Nat} (ha : a < 2147483648) (hb : b < 2147483648) : (nI a = nI b) = (a = b) := propext (nI_eq ha hb)
theorem lc_ftA {y : lc_S} {o k i n : Nat} {δ : Nat → lc_tp} {τ : Nat → Nat} {VT GT : Nat → lc_ot} (hr : lcR y 8 4 = some o) (ho : lc_sh o = (0, 1, 0)) (hk : k < 4) (h83 : lcI y 8 3 = nI k) (hT : lc_TA y δ n) (hn : n < 243) (hτ : ∀ j, j < i → lcI y 17 j = nI (τ j) ∧ τ j < n)
    (hv : ∀ c, c < 4 → ∃ a b, a < n ∧ b < n ∧ lcI y 15 c = nI a ∧ lcI y 16 c = nI b ∧ lc_oA δ a = VT c ∧ lc_oA δ b = GT c) (hd : lc_nd y o i) :
    ∃ t y' δ' n', fK_findType (nI i) y = some (nI t, y') ∧ lc_TA y' δ' n' ∧ n ≤ n' ∧ n' ≤ n + 1 ∧ t < n' ∧ (∀ s, s < n → δ' s = δ s) ∧ lc_kT y y' ∧ lc_loc y o k (lc_upd i (lc_oA δ' t) (fun j => lc_oA δ (τ j))) VT GT i := by
  have n3 := hT.2.1
  obtain ⟨hi, hd⟩ := hd
  have p0 := lc_partA0 y
  have stay : ∀ t, t < n → fK_findType (nI i) y = some (nI t, y) → lc_loc y o k (lc_upd i (lc_oA δ t) (fun j => lc_oA δ (τ j))) VT GT i → ∃ t y' δ' n', fK_findType (nI i) y = some (nI t, y') ∧ lc_TA y' δ' n' ∧ n ≤ n' ∧ n' ≤ n + 1 ∧ t < n' ∧ (∀ s, s < n → δ' s = δ s) ∧ lc_kT y y' ∧ lc_loc y o k (lc_upd i (lc_oA δ' t) (fun j => lc_oA δ (τ j))) VT GT i :=
    fun t ht e h => ⟨t, y, δ, n, e, hT, Nat.le_refl _, by omega, ht, fun _ _ => rfl, lc_kT.rf, h⟩
  have ri : ∀ v, lc_upd i v (fun j => lc_oA δ (τ j)) i = v := fun v => if_pos rfl
  have ra : ∀ v a, a < i → lc_upd i v (fun j => lc_oA δ (τ j)) a = lc_oA δ (τ a) := fun v a ha => if_neg (by omega)
  rcases hd with ⟨k1, k2, k3⟩ | ⟨k1, k2, k3, b, pt, b1, b2, b3, b4, b5⟩ | ⟨a, a1, a2, hd⟩
  · have e1 : fK_typeOfPart (lcI y (o + 3) i) y = some (0, y) := by rw [k2]; exact p0
    have e2 : fK_typeOfPart (lcI y (o + 4) i) y = some (0, y) := by rw [k3]; exact p0
    refine stay 1 (by omega) (by rw [lc_ftU hr ho hi e1 e2, if_pos k1]; rfl) (lc_loc_num k1 k2 ?_)
    rw [ri]; exact (lc_oA_nil hT (by omega)).mpr rfl
  · have e1 : fK_typeOfPart (lcI y (o + 3) i) y = some (0, y) := by rw [k2]; exact p0
    have e2 : fK_typeOfPart (lcI y (o + 4) i) y = some (0, y) := by rw [k3]; exact p0
    have hb : ∃ s, s < n ∧ fK_typeOfBound (nI b) y = some (nI s, y) ∧ (b = 0 → lc_oA δ s = VT k) ∧ ∀ a, 0 < b → lcI y (o + 8) b = nI a → a < 120 → lc_oA δ s = lc_oA δ (τ a) ∧ a < i := by
      rcases b5 with rfl | ⟨b0, a, a1, a2⟩
      · obtain ⟨x, x', v1, v2, v3, v4, v5, v6⟩ := hv k hk
        refine ⟨x, v1, ?_, fun _ => v5, fun a h => absurd h (by omega)⟩
        rw [fK_typeOfBound, if_pos (by decide), h83, lc_chk_pos (nI_in hk (by decide)), nI_clamp (by omega), v3]
      · obtain ⟨t1, t2⟩ := hτ a a1
        refine ⟨τ a, t2, ?_, fun h => absurd h (by omega), fun a' _ e h' => ?_⟩
        · rw [fK_typeOfBound, if_neg (nI_ne0 b0 (by omega)), lc_bnr_eq hr, lc_chk_pos ho, lc_chk_pos (nI_in b1 (by decide)), nI_clamp (by omega), a2, lc_bnd_eq (lc_partA1 (by omega)), t1]
        · have e3 : a' = a := (nI_eq (by omega) (by omega)).mp (e.symm.trans a2)
          subst e3
          exact ⟨rfl, a1⟩
    obtain ⟨s, s1, s2, s3, s4⟩ := hb
    obtain ⟨t, t1, t2, t3⟩ := lc_ptA hT s1 b2
    refine stay t t1 ?_ (lc_loc_var k1 k2 b3 b4 b1 b2 ⟨fun h => ?_, fun a h e h' => ?_⟩)
    · rw [lc_ftU hr ho hi e1 e2]
      rw [k1, if_neg (by decide), if_neg (by decide), if_neg (by decide), if_neg (by decide), if_neg (by decide), if_neg (by decide), if_neg (by decide), if_neg (by decide), if_neg (by decide), if_neg (by decide), if_pos rfl, b3, lc_bnd_eq s2, lc_bnr_eq hr, lc_chk_pos ho, b4]
      exact t2
    · rw [ri, ← s3 h]; exact t3
    · obtain ⟨q1, q2⟩ := s4 a h e h'
      rw [ri, ra _ _ q2, ← q1]; exact t3
  · obtain ⟨t1, t2⟩ := hτ a a1
    have e1 : fK_typeOfPart (lcI y (o + 3) i) y = some (nI (τ a), y) := by rw [a2, lc_partA1 (by omega), t1]
    have z0 : ∀ t, t < n → (nI t = 0) = (t = 0) := fun t ht => lc_eqn (b := 0) (by omega) (by decide)
    have z1 : ∀ t, t < n → (nI t = 1) = (t = 1) := fun t ht => lc_eqn (b := 1) (by omega) (by decide)
    have z2 : ∀ t, t < n → (nI t = 2) = (t = 2) := fun t ht => lc_eqn (b := 2) (by omega) (by decide)
    rcases hd with ⟨k1, k2⟩ | ⟨k1, k2, c, c1, c2⟩ | ⟨s, s1, s2, hd⟩
    · have e2 : fK_typeOfPart (lcI y (o + 4) i) y = some (0, y) := by rw [k2]; exact p0
      have hu := lc_ftU hr ho hi e1 e2
      rcases k1 with k1 | k1 | k1
      · have hu : fK_findType (nI i) y = if τ a = 1 then some (2, y) else some (0, y) := by
          rw [hu]; simp only [k1, z1 _ t2]; rfl
        by_cases q : τ a = 1
        · rw [if_pos q] at hu
          refine stay 2 (by omega) hu (lc_loc_one (Or.inl k1) a2 (by omega) k2 ?_)
          rw [ri, ra _ _ a1, k1]
          exact ⟨fun _ => Or.inl ⟨(lc_oA_nil hT t2).mpr q, (lc_oA_line hT (by omega)).mpr rfl⟩, fun h => absurd h (by decide), fun h => absurd h (by decide)⟩
        · rw [if_neg q] at hu
          refine stay 0 (by omega) hu (lc_loc_one (Or.inl k1) a2 (by omega) k2 ?_)
          rw [ri, ra _ _ a1, k1]
          exact ⟨fun _ => Or.inr ⟨fun h => q ((lc_oA_nil hT t2).mp h), rfl⟩, fun h => absurd h (by decide), fun h => absurd h (by decide)⟩
      · have hu : fK_findType (nI i) y = if τ a = 2 then fT_pairOf 1 2 y else some (0, y) := by
          rw [hu]; simp only [k1, z2 _ t2]; rfl
        by_cases q : τ a = 2
        · rw [if_pos q] at hu
          obtain ⟨t, y', δ', n', g1, g2, g3, g4, g5, g6, g7, g8, g9⟩ := lc_pairA (a := 1) (b := 2) hT hn (by decide) (by omega) (by decide) (by omega)
          refine ⟨t, y', δ', n', hu.trans g1, g2, g3, g4, g6, g8, g9, lc_loc_one (Or.inr (Or.inl k1)) a2 (by omega) k2 ?_⟩
          rw [ri, ra _ _ a1, k1]
          refine ⟨fun h => absurd h (by decide), fun _ => Or.inl ⟨(lc_oA_line hT t2).mpr q, ?_⟩, fun h => absurd h (by decide)⟩
          unfold lc_oA; rw [if_neg (by omega), g7, hT.2.2.2.1, hT.2.2.2.2.1]
        · rw [if_neg q] at hu
          refine stay 0 (by omega) hu (lc_loc_one (Or.inr (Or.inl k1)) a2 (by omega) k2 ?_)
          rw [ri, ra _ _ a1, k1]
          exact ⟨fun h => absurd h (by decide), fun _ => Or.inr ⟨fun h => q ((lc_oA_line hT t2).mp h), rfl⟩, fun h => absurd h (by decide)⟩
      · have hu : fK_findType (nI i) y = if τ a = 2 then some (1, y) else some (0, y) := by
          rw [hu]; simp only [k1, z2 _ t2]; rfl
        by_cases q : τ a = 2
        · rw [if_pos q] at hu
          refine stay 1 (by omega) hu (lc_loc_one (Or.inr (Or.inr k1)) a2 (by omega) k2 ?_)
          rw [ri, ra _ _ a1, k1]
          exact ⟨fun h => absurd h (by decide), fun h => absurd h (by decide), fun _ => Or.inl ⟨(lc_oA_line hT t2).mpr q, (lc_oA_nil hT (by omega)).mpr rfl⟩⟩
        · rw [if_neg q] at hu
          refine stay 0 (by omega) hu (lc_loc_one (Or.inr (Or.inr k1)) a2 (by omega) k2 ?_)
          rw [ri, ra _ _ a1, k1]
          exact ⟨fun h => absurd h (by decide), fun h => absurd h (by decide), fun _ => Or.inr ⟨fun h => q ((lc_oA_line hT t2).mp h), rfl⟩⟩
    · have e2 : fK_typeOfPart (lcI y (o + 4) i) y = some (0, y) := by rw [k2]; exact p0
      obtain ⟨x, x', v1, v2, v3, v4, v5, v6⟩ := hv c c1
      have hin : lc_in (nI c) 4 := nI_in c1 (by decide)
      have hcl : (nI c).toNatClampNeg = c := nI_clamp (by omega)
      have hu : fK_findType (nI i) y = if τ a = x then some (nI x', y) else some (0, y) := by
        rw [lc_ftU hr ho hi e1 e2]; simp only [k1, c2, lc_chk_pos hin, hcl, v3, v4, lc_eqn (show τ a < 2147483648 by omega) (show x < 2147483648 by omega)]; rfl
      by_cases q : τ a = x
      · rw [if_pos q] at hu
        refine stay x' v2 hu (lc_loc_call k1 a2 (by omega) k2 c1 c2 ?_)
        rw [ri, ra _ _ a1]
        exact Or.inl ⟨by rw [q]; exact v5, v6⟩
      · rw [if_neg q] at hu
        refine stay 0 (by omega) hu (lc_loc_call k1 a2 (by omega) k2 c1 c2 ?_)
        rw [ri, ra _ _ a1]
        exact Or.inr ⟨fun h => q ((lc_oA_inj hT t2 v1).mp (h.trans v5.symm)), rfl⟩
    · obtain ⟨u1, u2⟩ := hτ s s1
      have e2 : fK_typeOfPart (lcI y (o + 4) i) y = some (nI (τ s), y) := by rw [s2, lc_partA1 (by omega), u1]
      have hu := lc_ftU hr ho hi e1 e2
      have go2 : ∀ t, t < n → fK_findType (nI i) y = some (nI t, y) → (lc_two (lcI y (o + 2) i) ∨ lcI y (o + 2) i = 58 ∨ lcI y (o + 2) i = 47) → lc_r2 (lcI y (o + 2) i) (lc_oA δ (τ a)) (lc_oA δ (τ s)) (lc_oA δ t) → ∃ t y' δ' n', fK_findType (nI i) y = some (nI t, y') ∧ lc_TA y' δ' n' ∧ n ≤ n' ∧ n' ≤ n + 1 ∧ t < n' ∧ (∀ s, s < n → δ' s = δ s) ∧ lc_kT y y' ∧ lc_loc y o k (lc_upd i (lc_oA δ' t) (fun j => lc_oA δ (τ j))) VT GT i := fun t ht e hK h =>
        stay t ht e (lc_loc_two hK a2 (by omega) s2 (by omega) (by rw [ri, ra _ _ a1, ra _ _ s1]; exact h))
      rcases hd with k1 | k1 | k1 | ⟨k1, a3, a31, a32⟩
      · by_cases k44 : lcI y (o + 2) i = 44
        · rw [if_neg (by rw [k44]; decide), if_pos k44] at hu
          by_cases q1 : τ a = 0
          · refine go2 0 (by omega) (by rw [hu, fT_pairOf, if_pos (by rw [q1]; rfl)]; rfl) (Or.inl k1) ?_
            rw [k44]
            exact ⟨fun h => absurd h (by decide), fun h => absurd h (by decide), fun _ => Or.inr ⟨Or.inl (lc_oA_none.mpr q1), rfl⟩, fun h => absurd h (by decide), fun h => absurd h (by decide)⟩
          · by_cases q2 : τ s = 0
            · refine go2 0 (by omega) (by rw [hu, fT_pairOf, if_neg (nI_ne0 (by omega) (by omega)), if_pos (by rw [q2]; rfl)]; rfl) (Or.inl k1) ?_
              rw [k44]
              exact ⟨fun h => absurd h (by decide), fun h => absurd h (by decide), fun _ => Or.inr ⟨Or.inr (lc_oA_none.mpr q2), rfl⟩, fun h => absurd h (by decide), fun h => absurd h (by decide)⟩
            · obtain ⟨t, y', δ', n', g1, g2, g3, g4, g5, g6, g7, g8, g9⟩ := lc_pairA (a := τ a) (b := τ s) hT hn (by omega) t2 (by omega) u2
              refine ⟨t, y', δ', n', hu.trans g1, g2, g3, g4, g6, g8, g9, lc_loc_two (Or.inl k1) a2 (by omega) s2 (by omega) ?_⟩
              rw [ri, ra _ _ a1, ra _ _ s1, k44]
              refine ⟨fun h => absurd h (by decide), fun h => absurd h (by decide), fun _ => Or.inl ⟨δ (τ a), δ (τ s), ?_, ?_, ?_⟩, fun h => absurd h (by decide), fun h => absurd h (by decide)⟩
              · unfold lc_oA; rw [if_neg q1]
              · unfold lc_oA; rw [if_neg q2]
              · unfold lc_oA; rw [if_neg (by omega), g7]
        · by_cases k112 : lcI y (o + 2) i = 112
          · have hu : fK_findType (nI i) y = if τ a = 2 then (if τ s = 1 then some (2, y) else some (0, y)) else some (0, y) := by
              rw [hu]; simp only [k112, z2 _ t2, z1 _ u2]; rfl
            by_cases q : τ a = 2 ∧ τ s = 1
            · rw [if_pos q.1, if_pos q.2] at hu
              refine go2 2 (by omega) hu (Or.inl k1) ?_
              rw [k112]
              exact ⟨fun h => absurd h (by decide), fun h => absurd h (by decide), fun h => absurd h (by decide), fun _ => Or.inl ⟨⟨(lc_oA_line hT t2).mpr q.1, (lc_oA_nil hT u2).mpr q.2⟩, (lc_oA_line hT (by omega)).mpr rfl⟩, fun h => absurd h (by decide)⟩
            · have hu : fK_findType (nI i) y = some (nI 0, y) := by
                rw [hu]
                by_cases q1 : τ a = 2
                · rw [if_pos q1, if_neg (fun h => q ⟨q1, h⟩)]; rfl
                · rw [if_neg q1]; rfl
              refine go2 0 (by omega) hu (Or.inl k1) ?_
              rw [k112]
              exact ⟨fun h => absurd h (by decide), fun h => absurd h (by decide), fun h => absurd h (by decide), fun _ => Or.inr ⟨fun h => q ⟨(lc_oA_line hT t2).mp h.1, (lc_oA_nil hT u2).mp h.2⟩, rfl⟩, fun h => absurd h (by decide)⟩
          · have kc : lc_cal (lcI y (o + 2) i) := by
              rcases k1 with g | g | g | g | g | g
              · exact Or.inl g
              · exact Or.inr (Or.inl g)
              · exact Or.inr (Or.inr (Or.inl g))
              · exact Or.inr (Or.inr (Or.inr g))
              · exact absurd g k44
              · exact absurd g k112
            have hu : fK_findType (nI i) y = if τ a = 1 then (if τ s = 1 then some (1, y) else some (0, y)) else some (0, y) := by
              rw [hu]
              rcases kc with g | g | g | g <;> (simp only [g, z1 _ t2, z1 _ u2]; rfl)
            have ne : ∀ K, lc_cal K → K ≠ 58 ∧ K ≠ 47 ∧ K ≠ 44 ∧ K ≠ 112 := fun K h => by rcases h with h | h | h | h <;> subst h <;> decide
            obtain ⟨m1, m2, m3, m4⟩ := ne _ kc
            by_cases q : τ a = 1 ∧ τ s = 1
            · rw [if_pos q.1, if_pos q.2] at hu
              refine go2 1 (by omega) hu (Or.inl k1) ?_
              exact ⟨fun h => absurd h m1, fun h => absurd h m2, fun h => absurd h m3, fun h => absurd h m4, fun _ => Or.inl ⟨⟨(lc_oA_nil hT t2).mpr q.1, (lc_oA_nil hT u2).mpr q.2⟩, (lc_oA_nil hT (by omega)).mpr rfl⟩⟩
            · have hu : fK_findType (nI i) y = some (nI 0, y) := by
                rw [hu]
                by_cases q1 : τ a = 1
                · rw [if_pos q1, if_neg (fun h => q ⟨q1, h⟩)]; rfl
                · rw [if_neg q1]; rfl
              refine go2 0 (by omega) hu (Or.inl k1) ?_
              exact ⟨fun h => absurd h m1, fun h => absurd h m2, fun h => absurd h m3, fun h => absurd h m4, fun _ => Or.inr ⟨fun h => q ⟨(lc_oA_nil hT t2).mp h.1, (lc_oA_nil hT u2).mp h.2⟩, rfl⟩⟩
      · have hu : fK_findType (nI i) y = if τ a = 0 then some (0, y) else some (nI (τ s), y) := by
          rw [hu]; simp only [k1, z0 _ t2]; rfl
        by_cases q : τ a = 0
        · rw [if_pos q] at hu
          refine go2 0 (by omega) hu (Or.inr (Or.inl k1)) ?_
          rw [k1]
          exact ⟨fun _ => Or.inr ⟨fun h => h (lc_oA_none.mpr q), rfl⟩, fun h => absurd h (by decide), fun h => absurd h (by decide), fun h => absurd h (by decide), fun h => absurd h (by decide)⟩
        · rw [if_neg q] at hu
          refine go2 (τ s) u2 hu (Or.inr (Or.inl k1)) ?_
          rw [k1]
          exact ⟨fun _ => Or.inl ⟨fun h => q (lc_oA_none.mp h), rfl⟩, fun h => absurd h (by decide), fun h => absurd h (by decide), fun h => absurd h (by decide), fun h => absurd h (by decide)⟩
      · have hu : fK_findType (nI i) y = if τ a < 3 then some (0, y) else some (nI (τ s), y) := by
          rw [hu, if_neg (by rw [k1]; decide), if_neg (by rw [k1]; decide), if_pos k1, fT_isPair]
          by_cases q : τ a < 3
          · rw [if_pos q, if_pos (show nI (τ a) < 3 from nI_lt (b := 3) q (by decide))]; rfl
          · rw [if_neg q, if_neg (show ¬ nI (τ a) < 3 from nI_nlt (b := 3) (by omega) (by omega))]; rfl
        rcases lc_oA_pair hT t2 with ⟨g0, x, x', g1, g2, g3, g4, g5, g6, g7⟩ | ⟨g0, g1, g2, g3⟩
        · rw [if_neg (by omega)] at hu
          refine go2 (τ s) u2 hu (Or.inr (Or.inr k1)) ?_
          rw [k1]
          exact ⟨fun h => absurd h (by decide), fun _ => Or.inl ⟨⟨_, _, g7⟩, rfl⟩, fun h => absurd h (by decide), fun h => absurd h (by decide), fun h => absurd h (by decide)⟩
        · rw [if_pos g0] at hu
          refine go2 0 (by omega) hu (Or.inr (Or.inr k1)) ?_
          rw [k1]
          exact ⟨fun h => absurd h (by decide), fun _ => Or.inr ⟨fun h => by obtain ⟨x, x', h⟩ := h; exact g3 x x' h, rfl⟩, fun h => absurd h (by decide), fun h => absurd h (by decide), fun h => absurd h (by decide)⟩
      · obtain ⟨w1, w2⟩ := hτ a3 a31
        have hu : fK_findType (nI i) y = if τ a = 1 then (if τ s = τ a3 then some (nI (τ s), y) else some (0, y)) else some (0, y) := by
          rw [hu]
          simp only [k1, z1 _ t2, a32, lc_partA1 (show a3 < 120 by omega), w1]
          show (if τ a = 1 then (if nI (τ s) = nI (τ a3) then _ else _) else _) = _
          simp only [lc_eqn (show τ s < 2147483648 by omega) (show τ a3 < 2147483648 by omega)]
        by_cases q : τ a = 1 ∧ τ s = τ a3
        · rw [if_pos q.1, if_pos q.2] at hu
          refine stay (τ s) u2 hu (lc_loc_cho k1 a2 (by omega) s2 (by omega) a32 (by omega) ?_)
          rw [ri, ra _ _ a1, ra _ _ s1, ra _ _ a31]
          exact Or.inl ⟨⟨(lc_oA_nil hT t2).mpr q.1, by rw [q.2]⟩, rfl⟩
        · have hu : fK_findType (nI i) y = some (nI 0, y) := by
            rw [hu]
            by_cases q1 : τ a = 1
            · rw [if_pos q1, if_neg (fun h => q ⟨q1, h⟩)]; rfl
            · rw [if_neg q1]; rfl
          refine stay 0 (by omega) hu (lc_loc_cho k1 a2 (by omega) s2 (by omega) a32 (by omega) ?_)
          rw [ri, ra _ _ a1, ra _ _ s1, ra _ _ a31]
          exact Or.inr ⟨fun h => q ⟨(lc_oA_nil hT t2).mp h.1, (lc_oA_inj hT u2 w2).mp h.2⟩, rfl⟩
