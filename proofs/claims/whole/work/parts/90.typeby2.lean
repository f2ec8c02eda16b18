/-! the reference finds the type of a part: not known yet, or the class's -/
theorem lc_qkp {k p : Nat} : (120 : Int32) * (nI k + 1) + nI p = nI (120 * (k + 1) + p) := by rw [nI_1, show (120 : Int32) = nI 120 from rfl, pk_mul, nI_add]
theorem lc_tb1 {z : lc_S} {k p a : Nat} {S : Int32} (hk : k < 4) (hp : p < 120) (hS : lcI z 82 (120 * (k + 1) + p) = S) (n1 : S ≠ 48) (n2 : S ≠ 120) (hpo : fQ_partsOf S z = some (1, z)) (h84 : lcI z 84 (120 * (k + 1) + p) = nI a) (ha : a < 120) : fQ_typeBy (nI k) (nI p) z = fQ_typeBy_115 (nI (120 * (k + 1) + p)) S (lcI z 100 a) 0 0 z := by
  have c1 : lc_in (nI (120 * (k + 1) + p)) 600 := nI_in (by omega) (by decide)
  have d1 : (nI (120 * (k + 1) + p)).toNatClampNeg = 120 * (k + 1) + p := nI_clamp (by omega)
  have c2 : lc_in (nI a) 120 := nI_in ha (by decide)
  have d2 : (nI a).toNatClampNeg = a := nI_clamp (by omega)
  rw [fQ_typeBy, lc_let_eq, lc_qkp]
  simp only [lc_chk_pos c1, d1, hS, n1, n2, lc_let_eq, ↓reduceIte]
  rw [lc_bnd_eq hpo]
  simp only [h84, lc_chk_pos c1, lc_chk_pos c2, d1, d2, lc_let_eq]
  rfl
theorem lc_tb2 {z : lc_S} {k p a b : Nat} {S : Int32} (hk : k < 4) (hp : p < 120) (hS : lcI z 82 (120 * (k + 1) + p) = S) (n1 : S ≠ 48) (n2 : S ≠ 120) (hpo : fQ_partsOf S z = some (2, z)) (h84 : lcI z 84 (120 * (k + 1) + p) = nI a) (ha : a < 120) (h85 : lcI z 85 (120 * (k + 1) + p) = nI b) (hb : b < 120) : fQ_typeBy (nI k) (nI p) z = fQ_typeBy_115 (nI (120 * (k + 1) + p)) S (lcI z 100 a) (lcI z 100 b) 0 z := by
  have c1 : lc_in (nI (120 * (k + 1) + p)) 600 := nI_in (by omega) (by decide)
  have d1 : (nI (120 * (k + 1) + p)).toNatClampNeg = 120 * (k + 1) + p := nI_clamp (by omega)
  have c2 : lc_in (nI a) 120 := nI_in ha (by decide)
  have d2 : (nI a).toNatClampNeg = a := nI_clamp (by omega)
  have c3 : lc_in (nI b) 120 := nI_in hb (by decide)
  have d3 : (nI b).toNatClampNeg = b := nI_clamp (by omega)
  rw [fQ_typeBy, lc_let_eq, lc_qkp]
  simp only [lc_chk_pos c1, d1, hS, n1, n2, lc_let_eq, ↓reduceIte]
  rw [lc_bnd_eq hpo]
  simp only [h84, h85, lc_chk_pos c1, lc_chk_pos c2, lc_chk_pos c3, d1, d2, d3, lc_let_eq]
  rfl
theorem lc_tb3 {z : lc_S} {k p a b c : Nat} (hk : k < 4) (hp : p < 120) (hS : lcI z 82 (120 * (k + 1) + p) = 63) (h84 : lcI z 84 (120 * (k + 1) + p) = nI a) (ha : a < 120) (h85 : lcI z 85 (120 * (k + 1) + p) = nI b) (hb : b < 120) (h86 : lcI z 86 (120 * (k + 1) + p) = nI c) (hc : c < 120) : fQ_typeBy (nI k) (nI p) z = fQ_typeBy_115 (nI (120 * (k + 1) + p)) 63 (lcI z 100 a) (lcI z 100 b) (lcI z 100 c) z := by
  have c1 : lc_in (nI (120 * (k + 1) + p)) 600 := nI_in (by omega) (by decide)
  have d1 : (nI (120 * (k + 1) + p)).toNatClampNeg = 120 * (k + 1) + p := nI_clamp (by omega)
  have c2 : lc_in (nI a) 120 := nI_in ha (by decide)
  have d2 : (nI a).toNatClampNeg = a := nI_clamp (by omega)
  have c3 : lc_in (nI b) 120 := nI_in hb (by decide)
  have d3 : (nI b).toNatClampNeg = b := nI_clamp (by omega)
  have c4 : lc_in (nI c) 120 := nI_in hc (by decide)
  have d4 : (nI c).toNatClampNeg = c := nI_clamp (by omega)
  have n1 : ¬ (63 : Int32) = 48 := by decide
  have n2 : ¬ (63 : Int32) = 120 := by decide
  rw [fQ_typeBy, lc_let_eq, lc_qkp]
  simp only [lc_chk_pos c1, d1, hS, n1, n2, lc_let_eq, ↓reduceIte]
  rw [lc_bnd_eq (show fQ_partsOf 63 z = some (3, z) from rfl)]
  simp only [h84, h85, lc_chk_pos c1, lc_chk_pos c2, lc_chk_pos c3, d1, d2, d3, lc_let_eq, fQ_typeBy_92, h86, lc_chk_pos c4, d4]
  rfl
/-- pairs of expressions of one body: an expression of the class and its part of the reference -/
def lc_pp2 (y z0 : lc_S) (o base cnt i p : Nat) : Prop := ∃ D lo hi env, lc_R y z0 o base D lo i p hi env ∧ lc_eo y z0 o base env lo p ∧ i < cnt ∧ hi ≤ cnt
def lc_un (y z0 z : lc_S) (o base cnt i : Nat) : Prop := ∃ i' p', lc_pp2 y z0 o base cnt i' p' ∧ i' < i ∧ lcI z 100 p' = -2
def lc_IV (y z0 z : lc_S) (o base cnt : Nat) (ρ : Nat → lc_ot) (δ : Nat → lc_tp) (n : Nat) : Prop := ∀ i p, lc_pp2 y z0 o base cnt i p → lc_uQ δ n (lcI z 100 p) (ρ i)
/-- what typeBy gives -/
def lc_tyG (y z0 z : lc_S) (o base cnt i : Nat) (δ : Nat → lc_tp) (n : Nat) (r : lc_ot) (X : Option (Int32 × lc_S)) : Prop := ∃ x z' δ' n', X = some (x, z') ∧ lc_TQ z' δ' n' ∧ n ≤ n' ∧ n' ≤ n + 1 ∧ (∀ s, s < n → δ' s = δ s) ∧ lc_kQ z z' ∧ ((x = -2 ∧ z' = z ∧ n' = n ∧ lc_un y z0 z o base cnt i) ∨ (x ≠ -2 ∧ lc_xQ δ' n' x r))
theorem lc_nne2 {u : Nat} (h : u < 2147483648) : nI u ≠ -2 := fun e => by
  have := nI_pos (n := u) (by omega)
  rw [e] at this
  exact this (by decide)
theorem lc_tyG_un {y z0 z : lc_S} {o base cnt i n : Nat} {δ : Nat → lc_tp} {r : lc_ot} {X : Option (Int32 × lc_S)} (hT : lc_TQ z δ n) (e : X = some (-2, z)) (h : lc_un y z0 z o base cnt i) : lc_tyG y z0 z o base cnt i δ n r X := ⟨-2, z, δ, n, e, hT, Nat.le_refl _, by omega, fun _ _ => rfl, lc_kQ.rf, Or.inl ⟨rfl, rfl, rfl, h⟩⟩
theorem lc_tyG_no {y z0 z : lc_S} {o base cnt i n : Nat} {δ : Nat → lc_tp} {r : lc_ot} {X : Option (Int32 × lc_S)} (hT : lc_TQ z δ n) (e : X = some (-1, z)) (h : r = none) : lc_tyG y z0 z o base cnt i δ n r X := ⟨-1, z, δ, n, e, hT, Nat.le_refl _, by omega, fun _ _ => rfl, lc_kQ.rf, Or.inr ⟨by decide, Or.inl ⟨rfl, h⟩⟩⟩
theorem lc_tyG_id {y z0 z : lc_S} {o base cnt i n u : Nat} {δ : Nat → lc_tp} {r : lc_ot} {X : Option (Int32 × lc_S)} (hT : lc_TQ z δ n) (e : X = some (nI u, z)) (hu : u < n) (h : r = some (δ u)) : lc_tyG y z0 z o base cnt i δ n r X := ⟨nI u, z, δ, n, e, hT, Nat.le_refl _, by omega, fun _ _ => rfl, lc_kQ.rf, Or.inr ⟨lc_nne2 (by have := hT.2.2.1; omega), Or.inr ⟨u, hu, rfl, h⟩⟩⟩
theorem lc_tyG_pair {y z0 z : lc_S} {o base cnt i n a b : Nat} {δ : Nat → lc_tp} {r : lc_ot} {X : Option (Int32 × lc_S)} (hT : lc_TQ z δ n) (hn : n < 340) (ha : a < n) (hb : b < n) (e : X = fQ_pairType (nI a) (nI b) z) (h : r = some (lc_prr (δ a) (δ b))) : lc_tyG y z0 z o base cnt i δ n r X := by
  obtain ⟨t, z', δ', n', g1, g2, g3, g4, g5, g6, g7, g8, g9⟩ := lc_pairQ hT hn ha hb
  exact ⟨nI t, z', δ', n', e.trans g1, g2, g3, g4, g8, g9, Or.inr ⟨lc_nne2 (by omega), Or.inr ⟨t, g6, rfl, by rw [g7]; exact h⟩⟩⟩
theorem lc_tyVar {y z0 z : lc_S} {o k cnt D lo i p hi n bb pt : Nat} {env : List lc_en} {ρ VT GT : Nat → lc_ot} {T S : Nat → lc_tp} {th : Nat → Prop} {δ : Nat → lc_tp} (hk : k < 4) (hp : p < 120) (he : lc_eo y z0 o (120 * (k + 1)) env lo p) (hlo : lo ≤ i) (hic : i < cnt) (hic2 : cnt ≤ 120) (hpc : p ≤ cnt) (hl : lc_loc y o k ρ VT GT i) (hthk : th k) (hV : VT k = some (T k)) (sz : lc_sz z0 z) (hT : lc_TQ z δ n) (hg : lc_gQ z δ n T S k (th k)) (hI : lc_IV y z0 z o (120 * (k + 1)) cnt ρ δ n)
    (r3 : lcI y (o + 2) i = 118) (r4 : lcI z0 82 (120 * (k + 1) + p) = 120) (r7 : lc_lk (lcI z0 87 (120 * (k + 1) + p)) (lcI z0 88 (120 * (k + 1) + p)) env = some (bb, pt)) (r8 : lcI y (o + 7) i = nI bb) (r9 : lcI y (o + 6) i = nI pt) : lc_tyG y z0 z o (120 * (k + 1)) cnt i δ n (ρ i) (fQ_typeBy (nI k) (nI p) z) := by
  have c1 : lc_in (nI (120 * (k + 1) + p)) 600 := nI_in (by omega) (by decide)
  have d1 : (nI (120 * (k + 1) + p)).toNatClampNeg = 120 * (k + 1) + p := nI_clamp (by omega)
  have e82 : lcI z 82 (120 * (k + 1) + p) = 120 := by rw [sz _ _ (by omega) (by omega)]; exact r4
  have e87 := sz 87 (120 * (k + 1) + p) (by omega) (by omega)
  have e88 := sz 88 (120 * (k + 1) + p) (by omega) (by omega)
  have idp : ∀ x : Option (Int32 × lc_S), lc_bnd x (fun r z => some (r, z)) = x := fun x => by
    cases x with
    | none => rfl
    | some q => rfl
  have n48 : ¬ (120 : Int32) = 48 := by decide
  have hty : fQ_typeBy (nI k) (nI p) z = fQ_bindingType (nI k) (lcI z 87 (120 * (k + 1) + p)) (lcI z 88 (120 * (k + 1) + p)) z := by
    rw [fQ_typeBy, lc_let_eq, lc_qkp]
    simp only [lc_chk_pos c1, d1, e82, n48, lc_let_eq, ↓reduceIte, idp]
  rw [hty, e87, e88]
  obtain ⟨b1, b2⟩ := lc_eo_lk3 he r7
  obtain ⟨l1, l2⟩ := hl.2.1 r3 bb pt r8 r9 b1 b2
  have hn := hT.2.2.1
  rcases lc_eo_lk env lo p he r7 with ⟨q1, q2, q3, q4⟩ | ⟨pb, a, D', lo', hi', env', q1, q2, q3, q4, q5, q6, q7, q8, q9, q10, q11⟩
  · obtain ⟨x, x', v1, v2, v3, v4, v5, v6⟩ := hg hthk
    have hr : ρ i = some (δ x) := by
      rcases l1 q1 with ⟨-, h⟩ | ⟨h, -⟩ | ⟨h, -⟩
      · rw [h, hV, v5]
      · omega
      · omega
    refine lc_tyG_id hT ?_ v1 hr
    rw [fQ_bindingType, q3, if_neg (by decide), lc_chk_pos (nI_in hk (by decide)), nI_clamp (by omega), v3]
  · have ra := lc_R_lo q8
    have hpr : lc_pp2 y z0 o (120 * (k + 1)) cnt a (pb + 1) := ⟨D', lo', hi', env', q8, lc_eo_mono (Nat.le_refl _) (by omega) env' q9, by omega, by omega⟩
    have ia := hI a (pb + 1) hpr
    have hpart := l2 a q3 q5 (by omega)
    have c2 : lc_in (nI (120 * (k + 1) + pb)) 600 := nI_in (by omega) (by decide)
    have d2 : (nI (120 * (k + 1) + pb)).toNatClampNeg = 120 * (k + 1) + pb := nI_clamp (by omega)
    have c3 : lc_in (nI (pb + 1)) 120 := nI_in (by omega) (by decide)
    have d3 : (nI (pb + 1)).toNatClampNeg = pb + 1 := nI_clamp (by omega)
    have e84 : lcI z 84 (120 * (k + 1) + pb) = nI (pb + 1) := by rw [sz _ _ (by omega) (by omega)]; exact q7
    have e82b := sz 82 (120 * (k + 1) + pb) (by omega) (by omega)
    have hbt : fQ_bindingType (nI k) (nI pb) (lcI z0 88 (120 * (k + 1) + p)) z = if lcI z 100 (pb + 1) < 0 then some (lcI z 100 (pb + 1), z) else if lcI z0 82 (120 * (k + 1) + pb) = 58 then some (lcI z 100 (pb + 1), z) else if 2 ≤ lcI z 100 (pb + 1) then (if lcI z0 88 (120 * (k + 1) + p) = 0 then lc_chk (lc_in (lcI z 100 (pb + 1)) 340) (some (lcI z 98 (lcI z 100 (pb + 1)).toNatClampNeg, z)) else lc_chk (lc_in (lcI z 100 (pb + 1)) 340) (some (lcI z 99 (lcI z 100 (pb + 1)).toNatClampNeg, z))) else some (-1, z) := by
      rw [fQ_bindingType, if_pos (nI_pos' (by omega)), lc_qkp]
      simp only [lc_chk_pos c2, d2, e84, lc_chk_pos c3, d3, lc_let_eq, e82b]
      rfl
    rw [q1, hbt]
    rcases ia with ia | ⟨ia, ib⟩ | ⟨u, u1, u2, u3⟩
    · rw [ia, if_pos (by decide)]
      exact lc_tyG_un hT rfl ⟨a, pb + 1, hpr, by omega, ia⟩
    · rw [ia, if_pos (by decide)]
      refine lc_tyG_no hT rfl ?_
      rw [ib] at hpart
      rcases hpart with ⟨-, h⟩ | ⟨-, ⟨x, x', h, -⟩ | ⟨-, h⟩⟩ | ⟨-, ⟨x, x', h, -⟩ | ⟨-, h⟩⟩
      · exact h
      · cases h
      · exact h
      · cases h
      · exact h
    · rw [u2, if_neg (nI_pos (by omega))]
      rw [u3] at hpart
      rcases q11 with ⟨s1, s2, s3⟩ | ⟨s1, s2⟩
      · rw [if_pos s1]
        refine lc_tyG_id hT rfl u1 ?_
        rcases hpart with ⟨-, h⟩ | ⟨h, -⟩ | ⟨h, -⟩
        · exact h
        · omega
        · omega
      · rw [if_neg (by rw [s1]; decide)]
        have c4 : lc_in (nI u) 340 := nI_in (by omega) (by decide)
        have d4 : (nI u).toNatClampNeg = u := nI_clamp (by omega)
        rcases lc_dQ_pair hT u1 with ⟨g0, xa, xb, g1, g2, g3, g4, g5⟩ | ⟨g0, g1⟩
        · rw [if_pos (show (2 : Int32) ≤ nI u from nI_le (a := 2) g0 (by omega))]
          rcases s2 with ⟨s2, s3⟩ | ⟨s2, s3⟩
          · rw [s3, if_pos rfl, lc_chk_pos c4, d4, g3]
            refine lc_tyG_id hT rfl (by omega) ?_
            rcases hpart with ⟨h, -⟩ | ⟨-, ⟨x, x', h, h'⟩ | ⟨h, -⟩⟩ | ⟨h, -⟩
            · omega
            · rw [g5] at h
              injection h with h
              injection h with h1 h2
              rw [h', ← h1]
            · exact absurd (by rw [g5]) (h (δ xa) (δ xb))
            · omega
          · rw [s3, if_neg (by decide), lc_chk_pos c4, d4, g4]
            refine lc_tyG_id hT rfl (by omega) ?_
            rcases hpart with ⟨h, -⟩ | ⟨h, -⟩ | ⟨-, ⟨x, x', h, h'⟩ | ⟨h, -⟩⟩
            · omega
            · omega
            · rw [g5] at h
              injection h with h
              injection h with h1 h2
              rw [h', ← h2]
            · exact absurd (by rw [g5]) (h (δ xa) (δ xb))
        · rw [if_neg (show ¬ (2 : Int32) ≤ nI u from nI_ge (b := 2) (by omega) (by decide))]
          refine lc_tyG_no hT rfl ?_
          rcases hpart with ⟨h, -⟩ | ⟨-, ⟨x, x', h, h'⟩ | ⟨-, h⟩⟩ | ⟨-, ⟨x, x', h, h'⟩ | ⟨-, h⟩⟩
          · omega
          · exact absurd h (g1 x x')
          · exact h
          · exact absurd h (g1 x x')
          · exact h
