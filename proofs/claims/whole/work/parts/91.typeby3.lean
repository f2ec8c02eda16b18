/-! the reference finds the type of a part: all kinds -/
theorem lc_r1_none {K : Int32} {r : lc_ot} (hK : lc_one K) (h : lc_r1 K none r) : r = none := by
  obtain ⟨h1, h2, h3⟩ := h
  rcases hK with k | k | k
  · rcases h1 k with ⟨h, -⟩ | ⟨-, h⟩
    · cases h
    · exact h
  · rcases h2 k with ⟨h, -⟩ | ⟨-, h⟩
    · cases h
    · exact h
  · rcases h3 k with ⟨h, -⟩ | ⟨-, h⟩
    · cases h
    · exact h
theorem lc_cal_of {K : Int32} (h : lc_two K) (h1 : K ≠ 44) (h2 : K ≠ 112) : lc_cal K := by
  rcases h with g | g | g | g | g | g
  · exact Or.inl g
  · exact Or.inr (Or.inl g)
  · exact Or.inr (Or.inr (Or.inl g))
  · exact Or.inr (Or.inr (Or.inr g))
  · exact absurd g h1
  · exact absurd g h2
theorem lc_r2_none {K : Int32} {e f r : lc_ot} (hK : lc_two K ∨ K = 58 ∨ K = 47) (he : e = none ∨ f = none) (h : lc_r2 K e f r) : r = none := by
  obtain ⟨h1, h2, h3, h4, h5⟩ := h
  rcases hK with k | k | k
  · by_cases k44 : K = 44
    · rcases h3 k44 with ⟨a, b, q1, q2, -⟩ | ⟨-, h⟩
      · rcases he with he | he
        · rw [he] at q1; cases q1
        · rw [he] at q2; cases q2
      · exact h
    · by_cases k112 : K = 112
      · rcases h4 k112 with ⟨⟨q1, q2⟩, -⟩ | ⟨-, h⟩
        · rcases he with he | he
          · rw [he] at q1; cases q1
          · rw [he] at q2; cases q2
        · exact h
      · rcases h5 (lc_cal_of k k44 k112) with ⟨⟨q1, q2⟩, -⟩ | ⟨-, h⟩
        · rcases he with he | he
          · rw [he] at q1; cases q1
          · rw [he] at q2; cases q2
        · exact h
  · rcases h1 k with ⟨q, h⟩ | ⟨-, h⟩
    · rcases he with he | he
      · exact absurd he q
      · rw [h]; exact he
    · exact h
  · rcases h2 k with ⟨⟨a, b, q⟩, h⟩ | ⟨-, h⟩
    · rcases he with he | he
      · rw [he] at q; cases q
      · rw [h]; exact he
    · exact h
theorem lc_lt340 {z : lc_S} {δ : Nat → lc_tp} {n u : Nat} (hT : lc_TQ z δ n) (h : u < n) : u < 400 := by have := hT.2.2.1; omega
/-- one part -/
theorem lc_tyOne {y z0 z : lc_S} {o base cnt i p a n : Nat} {δ : Nat → lc_tp} {ρ : Nat → lc_ot} {K q : Int32} (hT : lc_TQ z δ n) (hn : n < 340) (hpr : lc_pp2 y z0 o base cnt a (p + 1)) (hai : a < i) (hI : lc_IV y z0 z o base cnt ρ δ n) (hK : lc_one K) (hr : lc_r1 K (ρ a) (ρ i)) : lc_tyG y z0 z o base cnt i δ n (ρ i) (fQ_typeBy_115 q K (lcI z 100 (p + 1)) 0 0 z) := by
  rcases hI a (p + 1) hpr with ia | ⟨ia, ib⟩ | ⟨u, u1, u2, u3⟩
  · refine lc_tyG_un hT ?_ ⟨a, p + 1, hpr, hai, ia⟩
    rw [ia, lc_115U (by decide) (by decide) (by decide), if_pos (by decide)]
  · rw [ib] at hr
    exact lc_tyG_no hT (by rw [ia]; exact lc_115N (Or.inl rfl)) (lc_r1_none hK hr)
  · rw [u3] at hr
    have n2 := hT.2.1
    have e := lc_115K (z := z) (x3 := q) (x4 := K) (a := u) (b := 0) (c := 0) (lc_lt340 hT u1) (by decide) (by decide)
    rw [u2]
    have e' : fQ_typeBy_115 q K (nI u) 0 0 z = _ := e
    rw [e']
    obtain ⟨h1, h2, h3⟩ := hr
    rcases hK with k | k | k
    · subst k
      rw [if_neg (by decide), if_neg (by decide), if_neg (by decide), if_neg (by decide), if_neg (by decide), if_neg (by decide), if_neg (by decide), if_neg (by decide), if_neg (by decide), if_neg (by decide), if_pos rfl]
      rcases h1 rfl with ⟨g1, g2⟩ | ⟨g1, g2⟩
      · rw [if_pos ((lc_dQ_nil hT u1).mp g1)]
        exact lc_tyG_id (u := 1) hT rfl (by omega) (by rw [g2, hT.2.2.2.2.1])
      · rw [if_neg (fun h => g1 ((lc_dQ_nil hT u1).mpr h))]
        exact lc_tyG_no hT rfl g2
    · subst k
      rw [if_neg (by decide), if_neg (by decide), if_neg (by decide), if_neg (by decide), if_neg (by decide), if_neg (by decide), if_neg (by decide), if_neg (by decide), if_neg (by decide), if_pos rfl]
      rcases h2 rfl with ⟨g1, g2⟩ | ⟨g1, g2⟩
      · rw [if_pos ((lc_dQ_line hT u1).mp g1)]
        exact lc_tyG_pair (a := 0) (b := 1) hT hn (by omega) (by omega) rfl (by rw [g2, hT.2.2.2.1, hT.2.2.2.2.1])
      · rw [if_neg (fun h => g1 ((lc_dQ_line hT u1).mpr h))]
        exact lc_tyG_no hT rfl g2
    · subst k
      rw [if_neg (by decide), if_neg (by decide), if_neg (by decide), if_neg (by decide), if_neg (by decide), if_neg (by decide), if_neg (by decide), if_neg (by decide), if_pos rfl]
      rcases h3 rfl with ⟨g1, g2⟩ | ⟨g1, g2⟩
      · rw [if_pos ((lc_dQ_line hT u1).mp g1)]
        exact lc_tyG_id (u := 0) hT rfl (by omega) (by rw [g2, hT.2.2.2.1])
      · rw [if_neg (fun h => g1 ((lc_dQ_line hT u1).mpr h))]
        exact lc_tyG_no hT rfl g2
/-- a call -/
theorem lc_tyCall {y z0 z : lc_S} {o base cnt i p a n q c : Nat} {δ : Nat → lc_tp} {ρ VT GT : Nat → lc_ot} {T S : Nat → lc_tp} {th : Nat → Prop} (hq : q < 600) (h83 : lcI z 83 q = nI c) (hc : c < 4) (hT : lc_TQ z δ n) (hpr : lc_pp2 y z0 o base cnt a (p + 1)) (hai : a < i) (hI : lc_IV y z0 z o base cnt ρ δ n) (hr : lc_yes (ρ a = VT c) (GT c) (ρ i)) (hVG : (th c ∧ VT c = some (T c) ∧ GT c = some (S c)) ∨ (¬ th c ∧ VT c = none ∧ GT c = none)) (hg : lc_gQ z δ n T S c (th c)) (h89 : th c ↔ 0 < lcI z 89 (c + 1)) : lc_tyG y z0 z o base cnt i δ n (ρ i) (fQ_typeBy_115 (nI q) 64 (lcI z 100 (p + 1)) 0 0 z) := by
  have c1 : lc_in (nI q) 600 := nI_in hq (by decide)
  have d1 : (nI q).toNatClampNeg = q := nI_clamp (by omega)
  have c2 : lc_in (nI c) 4 := nI_in hc (by decide)
  have d2 : (nI c).toNatClampNeg = c := nI_clamp (by omega)
  rcases hI a (p + 1) hpr with ia | ⟨ia, ib⟩ | ⟨u, u1, u2, u3⟩
  · refine lc_tyG_un hT ?_ ⟨a, p + 1, hpr, hai, ia⟩
    rw [ia, lc_115U (by decide) (by decide) (by decide), if_pos (by decide)]
  · refine lc_tyG_no hT (by rw [ia]; exact lc_115N (Or.inl rfl)) ?_
    rcases hr with ⟨g1, g2⟩ | ⟨-, g2⟩
    · rcases hVG with ⟨-, t1, t2⟩ | ⟨-, t1, t2⟩
      · rw [ib, t1] at g1; cases g1
      · rw [g2, t2]
    · exact g2
  · rw [u3] at hr
    have e' : fQ_typeBy_115 (nI q) 64 (nI u) 0 0 z = _ := lc_115K (z := z) (x3 := nI q) (x4 := 64) (a := u) (b := 0) (c := 0) (lc_lt340 hT u1) (by decide) (by decide)
    rw [u2, e', if_neg (by decide), if_neg (by decide), if_neg (by decide), if_neg (by decide), if_neg (by decide), if_neg (by decide), if_neg (by decide), if_neg (by decide), if_neg (by decide), if_neg (by decide), if_neg (by decide), if_neg (by decide)]
    simp only [lc_chk_pos c1, d1, h83]
    rw [lc_bnd_eq (lc_isThereQ hc)]
    rcases hVG with ⟨t0, t1, t2⟩ | ⟨t0, t1, t2⟩
    · obtain ⟨x, x', v1, v2, v3, v4, v5, v6⟩ := hg t0
      rw [if_pos (h89.mp t0), if_neg (by decide), h83]
      simp only [lc_chk_pos c2, d2, v3, v4, lc_eqn (show u < 2147483648 by have := lc_lt340 hT u1; omega) (show x < 2147483648 by have := lc_lt340 hT v1; omega), lc_chk_pos c1]
      rcases hr with ⟨g1, g2⟩ | ⟨g1, g2⟩
      · rw [t1, ← v5] at g1
        rw [if_pos ((lc_dQ_inj hT u1 v1).mp g1)]
        exact lc_tyG_id hT rfl v2 (by rw [g2, t2, v6])
      · rw [t1, ← v5] at g1
        rw [if_neg (fun h => g1 ((lc_dQ_inj hT u1 v1).mpr h))]
        exact lc_tyG_no hT rfl g2
    · rw [if_neg (fun h => t0 (h89.mpr h)), if_pos rfl]
      refine lc_tyG_no hT rfl ?_
      rcases hr with ⟨g1, g2⟩ | ⟨-, g2⟩
      · rw [t1] at g1; cases g1
      · exact g2
/-- two parts -/
theorem lc_tyTwo {y z0 z : lc_S} {o base cnt i p a a2 h1 n : Nat} {δ : Nat → lc_tp} {ρ : Nat → lc_ot} {K q : Int32} (hT : lc_TQ z δ n) (hn : n < 340) (hpr : lc_pp2 y z0 o base cnt a (p + 1)) (hai : a < i) (hpr2 : lc_pp2 y z0 o base cnt a2 h1) (hai2 : a2 < i) (hI : lc_IV y z0 z o base cnt ρ δ n) (hK : lc_two K ∨ K = 58 ∨ K = 47) (hr : lc_r2 K (ρ a) (ρ a2) (ρ i)) : lc_tyG y z0 z o base cnt i δ n (ρ i) (fQ_typeBy_115 q K (lcI z 100 (p + 1)) (lcI z 100 h1) 0 z) := by
  have i1 := hI a (p + 1) hpr
  have i2 := hI a2 h1 hpr2
  by_cases no : lcI z 100 (p + 1) = -1 ∨ lcI z 100 h1 = -1
  · refine lc_tyG_no hT (lc_115N (by rcases no with h | h; exact Or.inl h; exact Or.inr (Or.inl h))) (lc_r2_none hK ?_ hr)
    rcases no with h | h
    · rcases i1 with ia | ⟨-, ib⟩ | ⟨u, u1, u2, u3⟩
      · rw [ia] at h; exact absurd h (by decide)
      · exact Or.inl ib
      · rw [u2] at h; exact absurd h (lc_nne1 (by have := lc_lt340 hT u1; omega))
    · rcases i2 with ia | ⟨-, ib⟩ | ⟨u, u1, u2, u3⟩
      · rw [ia] at h; exact absurd h (by decide)
      · exact Or.inr ib
      · rw [u2] at h; exact absurd h (lc_nne1 (by have := lc_lt340 hT u1; omega))
  · have no1 : lcI z 100 (p + 1) ≠ -1 := fun h => no (Or.inl h)
    have no2 : lcI z 100 h1 ≠ -1 := fun h => no (Or.inr h)
    rcases i1 with ia | ⟨ia, -⟩ | ⟨u, u1, u2, u3⟩
    · refine lc_tyG_un hT ?_ ⟨a, p + 1, hpr, hai, ia⟩
      rw [lc_115U no1 no2 (by decide), ia, if_pos (by decide)]
    · exact absurd ia no1
    · rcases i2 with ia | ⟨ia, -⟩ | ⟨v, v1, v2, v3⟩
      · refine lc_tyG_un hT ?_ ⟨a2, h1, hpr2, hai2, ia⟩
        rw [lc_115U no1 no2 (by decide), u2, if_neg (nI_pos (by have := lc_lt340 hT u1; omega)), ia, if_pos (by decide)]
      · exact absurd ia no2
      · rw [u3, v3] at hr
        have n2 := hT.2.1
        have e' : fQ_typeBy_115 q K (nI u) (nI v) 0 z = _ := lc_115K (z := z) (x3 := q) (x4 := K) (a := u) (b := v) (c := 0) (lc_lt340 hT u1) (lc_lt340 hT v1) (by decide)
        rw [u2, v2, e']
        obtain ⟨r1, r2, r3, r4, r5⟩ := hr
        by_cases k44 : K = 44
        · subst k44
          rw [if_neg (by decide), if_neg (by decide), if_pos rfl]
          rcases r3 rfl with ⟨x, x', g1, g2, g3⟩ | ⟨g, -⟩
          · refine lc_tyG_pair hT hn u1 v1 rfl ?_
            rw [g3, ← Option.some.inj g1, ← Option.some.inj g2]
          · rcases g with g | g <;> cases g
        · by_cases k112 : K = 112
          · subst k112
            rw [if_neg (by decide), if_neg (by decide), if_neg (by decide), if_neg (by decide), if_neg (by decide), if_neg (by decide), if_neg (by decide), if_neg (by decide), if_neg (by decide), if_neg (by decide), if_neg (by decide), if_pos rfl]
            rcases r4 rfl with ⟨⟨g1, g2⟩, g3⟩ | ⟨g1, g2⟩
            · rw [if_pos ((lc_dQ_line hT u1).mp g1), if_pos ((lc_dQ_nil hT v1).mp g2)]
              exact lc_tyG_id (u := 1) hT rfl (by omega) (by rw [g3, hT.2.2.2.2.1])
            · refine lc_tyG_no hT ?_ g2
              by_cases c1 : u = 1
              · rw [if_pos c1, if_neg (fun h => g1 ⟨(lc_dQ_line hT u1).mpr c1, (lc_dQ_nil hT v1).mpr h⟩)]
              · rw [if_neg c1]
          · rcases hK with k | k | k
            · have kc := lc_cal_of k k44 k112
              have e2 : (if K = 42 then fQ_typeBy_264 (nI u) (nI v) z else if K = 43 then fQ_typeBy_264 (nI u) (nI v) z else if K = 44 then fQ_pairType (nI u) (nI v) z else if K = 45 then fQ_typeBy_264 (nI u) (nI v) z else if K = 47 then (if u ≤ 1 then some (-1, z) else some (nI v, z)) else if K = 58 then some (nI v, z) else if K = 60 then fQ_typeBy_264 (nI u) (nI v) z else
                  if K = 63 then (if u = 0 then (if v = 0 then some (nI v, z) else some (-1, z)) else some (-1, z)) else if K = 100 then (if u = 1 then some (0, z) else some (-1, z)) else if K = 103 then (if u = 1 then fQ_pairType 0 1 z else some (-1, z)) else if K = 110 then (if u = 0 then some (1, z) else some (-1, z)) else if K = 112 then (if u = 1 then (if v = 0 then some (1, z) else some (-1, z)) else some (-1, z)) else
                  lc_chk (lc_in q 600) (lc_bnd (fQ_isThere (lcI z 83 q.toNatClampNeg) z) (fun r388 z388 => if r388 = 0 then some (-1, z388) else (lc_chk (lc_in q 600) (lc_chk (lc_in (lcI z388 83 q.toNatClampNeg) 4) (if nI u = (lcI z388 101 (lcI z388 83 q.toNatClampNeg).toNatClampNeg) then (lc_chk (lc_in q 600) (lc_chk (lc_in (lcI z388 83 q.toNatClampNeg) 4) (some (lcI z388 102 (lcI z388 83 q.toNatClampNeg).toNatClampNeg, z388)))) else some (-1, z388))))))) = fQ_typeBy_264 (nI u) (nI v) z := by
                rcases kc with g | g | g | g <;> subst g <;> rfl
              rw [e2, lc_264 (lc_lt340 hT u1) (lc_lt340 hT v1)]
              rcases r5 kc with ⟨⟨g1, g2⟩, g3⟩ | ⟨g1, g2⟩
              · rw [if_pos ⟨(lc_dQ_nil hT u1).mp g1, (lc_dQ_nil hT v1).mp g2⟩]
                exact lc_tyG_id (u := 0) hT rfl (by omega) (by rw [g3, hT.2.2.2.1])
              · rw [if_neg (fun h => g1 ⟨(lc_dQ_nil hT u1).mpr h.1, (lc_dQ_nil hT v1).mpr h.2⟩)]
                exact lc_tyG_no hT rfl g2
            · subst k
              rw [if_neg (by decide), if_neg (by decide), if_neg (by decide), if_neg (by decide), if_neg (by decide), if_pos rfl]
              refine lc_tyG_id hT rfl v1 ?_
              rcases r1 rfl with ⟨-, g⟩ | ⟨g, -⟩
              · exact g
              · exact absurd (by simp) g
            · subst k
              rw [if_neg (by decide), if_neg (by decide), if_neg (by decide), if_neg (by decide), if_pos rfl]
              rcases lc_dQ_pair hT u1 with ⟨g0, xa, xb, g1, g2, g3, g4, g5⟩ | ⟨g0, g1⟩
              · rw [if_neg (show ¬ u ≤ 1 by omega)]
                refine lc_tyG_id hT rfl v1 ?_
                rcases r2 rfl with ⟨-, g⟩ | ⟨g, -⟩
                · exact g
                · exact absurd ⟨δ xa, δ xb, by rw [g5]⟩ g
              · rw [if_pos (show u ≤ 1 by omega)]
                refine lc_tyG_no hT rfl ?_
                rcases r2 rfl with ⟨⟨x, x', g⟩, -⟩ | ⟨-, g⟩
                · exact absurd g (g1 x x')
                · exact g
/-- three parts -/
theorem lc_tyCho {y z0 z : lc_S} {o base cnt i p a a2 a3 h1 h2 n : Nat} {δ : Nat → lc_tp} {ρ : Nat → lc_ot} {q : Int32} (hT : lc_TQ z δ n) (hpr : lc_pp2 y z0 o base cnt a (p + 1)) (hai : a < i) (hpr2 : lc_pp2 y z0 o base cnt a2 h1) (hai2 : a2 < i) (hpr3 : lc_pp2 y z0 o base cnt a3 h2) (hai3 : a3 < i) (hI : lc_IV y z0 z o base cnt ρ δ n) (hr : lc_yes (ρ a = some .nil ∧ ρ a2 = ρ a3) (ρ a2) (ρ i)) : lc_tyG y z0 z o base cnt i δ n (ρ i) (fQ_typeBy_115 q 63 (lcI z 100 (p + 1)) (lcI z 100 h1) (lcI z 100 h2) z) := by
  have i1 := hI a (p + 1) hpr
  have i2 := hI a2 h1 hpr2
  have i3 := hI a3 h2 hpr3
  by_cases no : lcI z 100 (p + 1) = -1 ∨ lcI z 100 h1 = -1 ∨ lcI z 100 h2 = -1
  · refine lc_tyG_no hT (lc_115N no) ?_
    have kn : ∀ {x : Int32} {r : lc_ot}, lc_uQ δ n x r → x = -1 → r = none := fun i1 h => by
      rcases i1 with ia | ⟨-, ib⟩ | ⟨u, u1, u2, u3⟩
      · rw [ia] at h; exact absurd h (by decide)
      · exact ib
      · rw [u2] at h; exact absurd h (lc_nne1 (by have := lc_lt340 hT u1; omega))
    rcases hr with ⟨⟨g1, g2⟩, g3⟩ | ⟨-, g⟩
    · rcases no with h | h | h
      · rw [kn i1 h] at g1; cases g1
      · rw [g3]; exact kn i2 h
      · rw [g3, g2]; exact kn i3 h
    · exact g
  · have no1 : lcI z 100 (p + 1) ≠ -1 := fun h => no (Or.inl h)
    have no2 : lcI z 100 h1 ≠ -1 := fun h => no (Or.inr (Or.inl h))
    have no3 : lcI z 100 h2 ≠ -1 := fun h => no (Or.inr (Or.inr h))
    rcases i1 with ia | ⟨ia, -⟩ | ⟨u, u1, u2, u3⟩
    · refine lc_tyG_un hT ?_ ⟨a, p + 1, hpr, hai, ia⟩
      rw [lc_115U no1 no2 no3, ia, if_pos (by decide)]
    · exact absurd ia no1
    · rcases i2 with ia | ⟨ia, -⟩ | ⟨v, v1, v2, v3⟩
      · refine lc_tyG_un hT ?_ ⟨a2, h1, hpr2, hai2, ia⟩
        rw [lc_115U no1 no2 no3, u2, if_neg (nI_pos (by have := lc_lt340 hT u1; omega)), ia, if_pos (by decide)]
      · exact absurd ia no2
      · rcases i3 with ia | ⟨ia, -⟩ | ⟨w, w1, w2, w3⟩
        · refine lc_tyG_un hT ?_ ⟨a3, h2, hpr3, hai3, ia⟩
          rw [lc_115U no1 no2 no3, u2, if_neg (nI_pos (by have := lc_lt340 hT u1; omega)), v2, if_neg (nI_pos (by have := lc_lt340 hT v1; omega)), ia, if_pos (by decide)]
        · exact absurd ia no3
        · rw [u3, v3, w3] at hr
          rw [u2, v2, w2, lc_115K (lc_lt340 hT u1) (lc_lt340 hT v1) (lc_lt340 hT w1), if_neg (by decide), if_neg (by decide), if_neg (by decide), if_neg (by decide), if_neg (by decide), if_neg (by decide), if_neg (by decide), if_pos rfl]
          rcases hr with ⟨⟨g1, g2⟩, g3⟩ | ⟨g1, g2⟩
          · rw [if_pos ((lc_dQ_nil hT u1).mp g1), if_pos ((lc_dQ_inj hT v1 w1).mp g2)]
            exact lc_tyG_id hT rfl v1 g3
          · refine lc_tyG_no hT ?_ g2
            by_cases c1 : u = 0
            · rw [if_pos c1, if_neg (fun h => g1 ⟨(lc_dQ_nil hT u1).mpr c1, (lc_dQ_inj hT v1 w1).mpr h⟩)]
            · rw [if_neg c1]
/-- what is known of the four procedures -/
def lc_VG (z : lc_S) (δ : Nat → lc_tp) (n : Nat) (T S : Nat → lc_tp) (th : Nat → Prop) (VT GT : Nat → lc_ot) : Prop := ∀ c, c < 4 → ((th c ∧ VT c = some (T c) ∧ GT c = some (S c)) ∨ (¬ th c ∧ VT c = none ∧ GT c = none)) ∧ lc_gQ z δ n T S c (th c) ∧ (th c ↔ 0 < lcI z 89 (c + 1))
theorem lc_tyQ {y z0 z : lc_S} {o k cnt i p n : Nat} {ρ VT GT : Nat → lc_ot} {T S : Nat → lc_tp} {th : Nat → Prop} {δ : Nat → lc_tp} (hk : k < 4) (hc : cnt ≤ 120) (hthk : th k) (hl : ∀ j, j < cnt → lc_loc y o k ρ VT GT j) (sz : lc_sz z0 z) (hT : lc_TQ z δ n) (hn : n < 340) (hVG : lc_VG z δ n T S th VT GT) (hI : lc_IV y z0 z o (120 * (k + 1)) cnt ρ δ n) (hpp : lc_pp2 y z0 o (120 * (k + 1)) cnt i p) : lc_tyG y z0 z o (120 * (k + 1)) cnt i δ n (ρ i) (fQ_typeBy (nI k) (nI p) z) := by
  obtain ⟨D, lo, hi, env, hR, he, hic, hhc⟩ := hpp
  obtain ⟨D, rfl⟩ : ∃ E, D = E + 1 := ⟨D - 1, by have := lc_R_D hR; omega⟩
  have hli := hl i hic
  rw [lc_R] at hR
  obtain ⟨g1, g2, g3, g4, h⟩ := hR
  have hp : p < 120 := by omega
  have es : ∀ c, 82 ≤ c → c ≤ 91 → lcI z c (120 * (k + 1) + p) = lcI z0 c (120 * (k + 1) + p) := fun c a b => sz c _ a b
  have n2 := hT.2.1
  rcases h with ⟨r1, r2, r3, r4, -⟩ | ⟨r1, r2, r3, r4, r5, r6, b, pt, r7, r8, r9⟩ | ⟨a, h1, r1, r2, r3, r4, h⟩
  · refine lc_tyG_id (u := 0) hT ?_ (by omega) (by rw [hT.2.2.2.1]; exact hli.1 r3)
    have c1 : lc_in (nI (120 * (k + 1) + p)) 600 := nI_in (by omega) (by decide)
    have d1 : (nI (120 * (k + 1) + p)).toNatClampNeg = 120 * (k + 1) + p := nI_clamp (by omega)
    have e82 : lcI z 82 (120 * (k + 1) + p) = 48 := by rw [es 82 (by decide) (by decide)]; exact r4
    rw [fQ_typeBy, lc_let_eq, lc_qkp]
    simp only [lc_chk_pos c1, d1, lc_let_eq, e82, ↓reduceIte]
    rfl
  · obtain ⟨v1, v2, v3⟩ := hVG k hk
    rcases v1 with ⟨-, v1, -⟩ | ⟨v1, -⟩
    · exact lc_tyVar (D := D) (hi := hi) (GT := GT) (T := T) (S := S) (th := th) hk hp he (by omega) hic hc (by omega) hli hthk v1 sz hT v2 hI r3 r4 r7 r8 r9
    · exact absurd hthk v1
  · have ra := lc_R_lo r4
    have hpr : ∀ hh : h1 ≤ cnt, a < i → lc_pp2 y z0 o (120 * (k + 1)) cnt a (p + 1) := fun hh hai => ⟨D, lo, h1, env, r4, lc_eo_mono (Nat.le_refl _) (by omega) env he, by omega, hh⟩
    obtain ⟨l1, l2, l3⟩ := hli.2.2 a r1 (by omega)
    have e82 : lcI z 82 (120 * (k + 1) + p) = lcI y (o + 2) i := by rw [es 82 (by decide) (by decide)]; exact r3
    have e84 : lcI z 84 (120 * (k + 1) + p) = nI (p + 1) := by rw [es 84 (by decide) (by decide)]; exact r2
    rcases h with ⟨k1, k2, k3, k4⟩ | ⟨k1, k2, k3, k4, c, c1, c2, c3⟩ | ⟨a2, h2, k1, k2, h⟩
    · have nn : lcI y (o + 2) i ≠ 48 ∧ lcI y (o + 2) i ≠ 120 := by rcases k1 with g | g | g <;> rw [g] <;> decide
      rw [lc_tb1 hk hp e82 nn.1 nn.2 (lc_partsQ1 k1 z) e84 (by omega)]
      exact lc_tyOne hT hn (hpr (by omega) (by omega)) (by omega) hI k1 l1
    · rw [k1] at e82
      rw [lc_tb1 hk hp e82 (by decide) (by decide) rfl e84 (by omega)]
      obtain ⟨v1, v2, v3⟩ := hVG c c1
      exact lc_tyCall (by omega) (by rw [es 83 (by decide) (by decide)]; exact c3) c1 hT (hpr (by omega) (by omega)) (by omega) hI (l2 k1 c c1 c2) v1 v2 v3
    · have e85 : lcI z 85 (120 * (k + 1) + p) = nI h1 := by rw [es 85 (by decide) (by decide)]; exact k2
      rcases h with ⟨m1, m2, m3, m4⟩ | ⟨m1, m2, m3, b, m4, m5, m6, m7, m8⟩ | ⟨m1, m2, m3, b, m4, m5, m6, m7, m8⟩ | ⟨m1, a3, m2, m3, m4, m5, m6⟩
      · have rb := lc_R_lo m4
        have nn : lcI y (o + 2) i ≠ 48 ∧ lcI y (o + 2) i ≠ 120 := by rcases m1 with g | g | g | g | g | g <;> rw [g] <;> decide
        obtain ⟨l4, -⟩ := l3 a2 k1 (by omega)
        rw [lc_tb2 hk hp e82 nn.1 nn.2 (lc_partsQ2 m1 z) e84 (by omega) e85 (by omega)]
        exact lc_tyTwo hT hn (hpr (by omega) (by omega)) (by omega) ⟨D, a + 1, h2, env, m4, lc_eo_mono (by omega) (by omega) env he, by omega, by omega⟩ (by omega) hI (Or.inl m1) l4
      · have rb := lc_R_lo m8
        obtain ⟨l4, -⟩ := l3 a2 k1 (by omega)
        rw [m1] at e82 l4
        rw [lc_tb2 hk hp e82 (by decide) (by decide) rfl e84 (by omega) e85 (by omega)]
        exact lc_tyTwo hT hn (hpr (by omega) (by omega)) (by omega) ⟨D, a + 1, h2, _, m8, lc_eo_let he r4 m4 m5 m7 r2 (by rw [r3]; exact m1) (by omega) (Nat.le_refl _), by omega, by omega⟩ (by omega) hI (Or.inr (Or.inl rfl)) l4
      · have rb := lc_R_lo m8
        obtain ⟨l4, -⟩ := l3 a2 k1 (by omega)
        rw [m1] at e82 l4
        rw [lc_tb2 hk hp e82 (by decide) (by decide) rfl e84 (by omega) e85 (by omega)]
        exact lc_tyTwo hT hn (hpr (by omega) (by omega)) (by omega) ⟨D, a + 1, h2, _, m8, lc_eo_split he r4 m4 m5 m7 r2 (by rw [r3]; exact m1) (by omega) (Nat.le_refl _), by omega, by omega⟩ (by omega) hI (Or.inr (Or.inr rfl)) l4
      · have rb := lc_R_lo m5
        have rc := lc_R_lo m6
        obtain ⟨-, l5⟩ := l3 a2 k1 (by omega)
        rw [m1] at e82
        rw [lc_tb3 hk hp e82 e84 (by omega) e85 (by omega) (by rw [es 86 (by decide) (by decide)]; exact m3) (by omega)]
        exact lc_tyCho hT (hpr (by omega) (by omega)) (by omega) ⟨D, a + 1, h2, env, m5, lc_eo_mono (by omega) (by omega) env he, by omega, by omega⟩ (by omega) ⟨D, a2 + 1, hi, env, m6, lc_eo_mono (by omega) (by omega) env he, by omega, hhc⟩ (by omega) hI (l5 m1 a3 m2 (by omega))
