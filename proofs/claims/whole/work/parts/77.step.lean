/-! one step of class and reference -/
theorem lc_step {y z : lc_S} {t b N P st : Nat} (h : lc_J y z (t + 1) b N P st) : ∃ y' z', fM_takeStep y = some ((), y') ∧ fQ_step z = some ((), z') ∧ lc_O y' z' (st + 1) := by
  obtain ⟨dd, ee, o, k, D, lo, i, p, hi, s, s2, ht, f1, f2, f3, f4, f5, f6, f7, f8, f9, f10, f11, f12, hN, hR, hT, hV, hk⟩ := lc_J_T h
  obtain ⟨D, rfl⟩ : ∃ E, D = E + 1 := ⟨D - 1, by have := lc_R_D hR; omega⟩
  have hR0 := hR
  rw [lc_R] at hR
  obtain ⟨i1, i2, i3, i4, hR⟩ := hR
  have hA := lc_tkB s2 f1 ht f3 f4 f5 f6 f7 i1 f8
  have hQ := lc_stR (p := p) (base := 120 * (k + 1)) s2 f2 ht f9 f10 f11 (by omega)
  have e34 : lcL (lcUI y 33 t (nI (s + 1))) 34 t = lcL y 34 t := rfl
  have e110 : lcL (lcUI z 109 t (nI (s + 1))) 110 t = lcL z 110 t := rfl
  rw [← e34, ← e110] at hk
  rw [hA, hQ]
  generalize lcUI y 33 t (nI (s + 1)) = y1 at *
  generalize lcUI z 109 t (nI (s + 1)) = z1 at *
  show lc_GO y1 z1 t i (dd t) o (120 * (k + 1) + p) (120 * (k + 1)) s (st + 1)
  have hp : p < 120 := by omega
  rcases hR with ⟨-, -, r1, r2, -, -, v, -, r3, r4⟩ | ⟨-, -, r1, r2, -, -, bb, pt, r3, r4, r5⟩ | ⟨a, h1, r1, r2, r3, r4, hR⟩
  · exact lc_sNum hT r1 r2 r3 r4
  · exact lc_sVar hT i1 hN r1 r2 r3 r4 r5
  · have hkinds : lc_one (lcI y1 (o + 2) i) ∨ lcI y1 (o + 2) i = 64 ∨ lc_two (lcI y1 (o + 2) i) ∨ lcI y1 (o + 2) i = 58 ∨ lcI y1 (o + 2) i = 47 ∨ lcI y1 (o + 2) i = 63 := by
      rcases hR with ⟨g, -⟩ | ⟨g, -⟩ | ⟨a2, h2, -, -, ⟨g, -⟩ | ⟨g, -⟩ | ⟨g, -⟩ | ⟨g, -⟩⟩
      · exact Or.inl g
      · exact Or.inr (Or.inl g)
      · exact Or.inr (Or.inr (Or.inl g))
      · exact Or.inr (Or.inr (Or.inr (Or.inl g)))
      · exact Or.inr (Or.inr (Or.inr (Or.inr (Or.inl g))))
      · exact Or.inr (Or.inr (Or.inr (Or.inr (Or.inr g))))
    have hne : lcI y1 (o + 2) i ≠ 35 ∧ lcI y1 (o + 2) i ≠ 118 ∧ lcI y1 (o + 2) i ≠ 48 ∧ lcI y1 (o + 2) i ≠ 120 := by
      rcases hkinds with (g | g | g) | g | (g | g | g | g | g | g) | g | g | g <;> rw [g] <;> decide
    obtain ⟨n1, n2, n3, n4⟩ := hne
    obtain rfl | rfl | rfl : s = 0 ∨ s = 1 ∨ s = 2 := by omega
    · exact lc_sFirst hT hR0 n1 n2 (by rw [r3]; exact n3) (by rw [r3]; exact n4) r1 r2 r4
    · have hv := hV (by decide)
      rcases hR with ⟨g, -, -, -⟩ | ⟨g, -, -, -, c, c1, c2, c3⟩ | ⟨a2, h2, q1, q2, ⟨g, -, -, g1⟩ | ⟨g, -, -, bb, g1, g2, g3, -, g4⟩ | ⟨g, -, -, bb, g1, g2, g3, -, g4⟩ | ⟨g, a3, g1, g2, -, g3, g4⟩⟩
      · have fin : ∀ y' z' : lc_S, fM_finish (lcI y1 (o + 2) i) (lcL y1 34 t) (lcL y1 19 4) y1 = some ((), y') → fQ_one (lcI y1 (o + 2) i) (lcL z1 80 47) z1 = some ((), z') → lc_O y' z' (st + 1) → lc_GO y1 z1 t i (dd t) o (120 * (k + 1) + p) (120 * (k + 1)) 1 (st + 1) := fun y' z' e1 e2 e3 => by
          refine ⟨y', z', ?_, ?_, e3⟩
          · rw [lc_goA, if_neg n1, if_neg n2, if_neg (by decide), if_pos rfl, if_pos g]; exact e1
          · rw [lc_goQ, r3, if_neg n3, if_neg n4, if_neg (by decide), if_neg (by rcases g with g | g | g <;> rw [g] <;> decide), lc_bnd_eq (lc_partsQ1 g z1), if_neg (by decide), lc_225one g]; exact e2
        rcases g with g | g | g
        · obtain ⟨y', z', e1, e2, e3⟩ := lc_sMake hT hv
          refine fin y' z' ?_ (by rw [g]; exact e2) e3
          rw [g, fM_finish]
          simp only [lc_bnd_id]
          exact e1
        · obtain ⟨y', z', e1, e2, e3⟩ := lc_sGet hT hv
          refine fin y' z' ?_ (by rw [g]; exact e2) e3
          rw [g, fM_finish]
          simp only [lc_bnd_id]
          exact e1
        · obtain ⟨y', z', e1, e2, e3⟩ := lc_sFree hT hv
          refine fin y' z' ?_ (by rw [g]; exact e2) e3
          rw [g, fM_finish]
          simp only [lc_bnd_id]
          exact e1
      · exact lc_sCall hT ht hN i1 hp hR0 hv g r3 c1 c2 c3
      · exact lc_sTwo1 hT ht i1 hR0 hv g r3 q1 q2 g1
      · exact lc_sLet hT ht hN i1 hp hR0 hv g r3 q1 q2 g1 g2 g3 g4
      · exact lc_sSplit hT ht hN i1 hp hR0 hv g r3 q1 q2 g1 g2 g3 g4
      · exact lc_sChoose hT ht i1 hp hR0 hv g r3 q1 q2 g1 g2 g3 g4
    · have hv := hV (by decide)
      rcases hR with ⟨g, -, -, -⟩ | ⟨g, -, -, -, c, c1, c2, c3⟩ | ⟨a2, h2, q1, q2, ⟨g, -, -, g1⟩ | ⟨g, -, -, bb, g1, g2, g3, -, g4⟩ | ⟨g, -, -, bb, g1, g2, g3, -, g4⟩ | ⟨g, a3, g1, g2, -, g3, g4⟩⟩
      · have fin : ∀ y' z' : lc_S, fM_finish (lcI y1 (o + 2) i) (lcL y1 34 t) (lcL y1 19 4) y1 = some ((), y') → fQ_one (lcI y1 (o + 2) i) (lcL z1 80 47) z1 = some ((), z') → lc_O y' z' (st + 1) → lc_GO y1 z1 t i (dd t) o (120 * (k + 1) + p) (120 * (k + 1)) 2 (st + 1) := fun y' z' e1 e2 e3 => by
          refine ⟨y', z', ?_, ?_, e3⟩
          · rw [lc_goA, if_neg n1, if_neg n2, if_neg (by decide), if_neg (by decide)]; exact e1
          · rw [lc_goQ, r3, if_neg n3, if_neg n4, if_neg (by decide), if_neg (by rcases g with g | g | g <;> rw [g] <;> decide), lc_bnd_eq (lc_partsQ1 g z1), if_neg (by decide), lc_225one g]; exact e2
        rcases g with g | g | g
        · obtain ⟨y', z', e1, e2, e3⟩ := lc_sMake hT hv
          refine fin y' z' ?_ (by rw [g]; exact e2) e3
          rw [g, fM_finish]
          simp only [lc_bnd_id]
          exact e1
        · obtain ⟨y', z', e1, e2, e3⟩ := lc_sGet hT hv
          refine fin y' z' ?_ (by rw [g]; exact e2) e3
          rw [g, fM_finish]
          simp only [lc_bnd_id]
          exact e1
        · obtain ⟨y', z', e1, e2, e3⟩ := lc_sFree hT hv
          refine fin y' z' ?_ (by rw [g]; exact e2) e3
          rw [g, fM_finish]
          simp only [lc_bnd_id]
          exact e1
      · exact lc_sPass hT ht hp hv (Or.inr (Or.inr (Or.inr ⟨g, c3⟩))) r3
      · obtain ⟨k1, w1, u1, u2, u3⟩ := hk (by decide) g
        have fin : ∀ y' z' : lc_S, fM_finish (lcI y1 (o + 2) i) (lc_cv k1 w1) (lcL y1 19 4) y1 = some ((), y') → fQ_two (lcI y1 (o + 2) i) (lc_mv k1 w1) (lcL z1 80 47) z1 = some ((), z') → lc_O y' z' (st + 1) → lc_GO y1 z1 t i (dd t) o (120 * (k + 1) + p) (120 * (k + 1)) 2 (st + 1) := fun y' z' e1 e2 e3 => by
          refine ⟨y', z', ?_, ?_, e3⟩
          · rw [lc_goA, if_neg n1, if_neg n2, if_neg (by decide), if_neg (by decide), u2]; exact e1
          · rw [lc_goQ, r3, if_neg n3, if_neg n4, if_neg (by decide), if_neg (by rcases g with g | g | g | g | g | g <;> rw [g] <;> decide), lc_bnd_eq (lc_partsQ2 g z1), if_pos rfl, if_neg (by decide), lc_225two ht g, u3]; exact e2
        by_cases g44 : lcI y1 (o + 2) i = 44
        · obtain ⟨k', w', v1, v2, v3⟩ := hv
          obtain ⟨y', z', e1, e2, e3⟩ := lc_pairT hT u1 v1
          refine fin y' z' ?_ ?_ e3
          · rw [g44, fM_finish, if_pos rfl, lc_bnd_id, v2]; exact e1
          · rw [g44, fQ_two, if_pos rfl, lc_bnd_id, v3]; exact e2
        · by_cases g112 : lcI y1 (o + 2) i = 112
          · obtain ⟨y', z', e1, e2, e3⟩ := lc_sPut hT hv u1
            refine fin y' z' ?_ (by rw [g112]; exact e2) e3
            rw [g112, fM_finish]
            simp only [lc_bnd_id]
            exact e1
          · have g4 : lcI y1 (o + 2) i = 43 ∨ lcI y1 (o + 2) i = 45 ∨ lcI y1 (o + 2) i = 42 ∨ lcI y1 (o + 2) i = 60 := by
              rcases g with g | g | g | g | g | g
              · exact Or.inl g
              · exact Or.inr (Or.inl g)
              · exact Or.inr (Or.inr (Or.inl g))
              · exact Or.inr (Or.inr (Or.inr g))
              · exact absurd g g44
              · exact absurd g g112
            obtain ⟨y', z', e1, e2, e3⟩ := lc_sCalc hT hv u1 g4
            refine fin y' z' ?_ e2 e3
            have hf : ∀ K : Int32, (K = 43 ∨ K = 45 ∨ K = 42 ∨ K = 60) → fM_finish K (lc_cv k1 w1) (lcL y1 19 4) y1 = fM_calculate K (lc_cv k1 w1) (lcL y1 19 4) y1 := fun K hK => by
              rcases hK with h | h | h | h <;> subst h <;> (rw [fM_finish]; simp only [lc_bnd_id]; rfl)
            rw [hf _ g4]; exact e1
      · exact lc_sPass (c := 0) hT ht hp hv (Or.inl g) r3
      · exact lc_sPass (c := 0) hT ht hp hv (Or.inr (Or.inl g)) r3
      · exact lc_sPass (c := 0) hT ht hp hv (Or.inr (Or.inr (Or.inl g))) r3
