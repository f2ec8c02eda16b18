/-! the class finds the types of a whole body -/
theorem lc_loc_eq {y y' : lc_S} {o k : Nat} {ρ ρ' VT GT : Nat → lc_ot} {j : Nat} (ho : lc_sh o = (0, 1, 0)) (hy : lc_sy y y') (hd : lc_nd y o j) (hρ : ∀ a, a ≤ j → ρ' a = ρ a) (h : lc_loc y o k ρ VT GT j) : lc_loc y' o k ρ' VT GT j := by
  have ho' := lc_o ho
  have e2 := hy (o + 2) j (by omega) (by omega)
  have e3 := hy (o + 3) j (by omega) (by omega)
  have e4 := hy (o + 4) j (by omega) (by omega)
  have e5 := hy (o + 5) j (by omega) (by omega)
  have e6 := hy (o + 6) j (by omega) (by omega)
  have e7 := hy (o + 7) j (by omega) (by omega)
  have e8 := fun b => hy (o + 8) b (by omega) (by omega)
  have rj := hρ j (Nat.le_refl _)
  obtain ⟨h1, h2, h3⟩ := h
  obtain ⟨d0, hd⟩ := hd
  have fa : ∀ a, lcI y (o + 3) j = nI a → a < 120 → a < j := fun a e ha => by
    rcases hd with ⟨-, q, -⟩ | ⟨-, q, -⟩ | ⟨a0, q0, q, -⟩
    · rw [q] at e; exact absurd e (lc_nI_m1 (by omega))
    · rw [q] at e; exact absurd e (lc_nI_m1 (by omega))
    · have : a = a0 := (nI_eq (by omega) (by omega)).mp (e.symm.trans q)
      omega
  have fa2 : ∀ a, lcI y (o + 4) j = nI a → a < 120 → a < j := fun a e ha => by
    rcases hd with ⟨-, -, q⟩ | ⟨-, -, q, -⟩ | ⟨a0, -, -, ⟨-, q⟩ | ⟨-, q, -⟩ | ⟨a2, q0, q, -⟩⟩
    · rw [q] at e; exact absurd e (lc_nI_m1 (by omega))
    · rw [q] at e; exact absurd e (lc_nI_m1 (by omega))
    · rw [q] at e; exact absurd e (lc_nI_m1 (by omega))
    · rw [q] at e; exact absurd e (lc_nI_m1 (by omega))
    · have : a = a2 := (nI_eq (by omega) (by omega)).mp (e.symm.trans q)
      omega
  refine ⟨fun e => ?_, fun e b pt q1 q2 q3 q4 => ?_, fun a q ha => ?_⟩
  · rw [rj]; exact h1 (e2.symm.trans e)
  · obtain ⟨g1, g2⟩ := h2 (e2.symm.trans e) b pt (e7.symm.trans q1) (e6.symm.trans q2) q3 q4
    rw [rj]
    refine ⟨g1, fun a b0 q5 ha => ?_⟩
    have q5' := (e8 b).symm.trans q5
    have : a < j := by
      rcases hd with ⟨k1, -⟩ | ⟨-, -, -, b', pt', pb24, -, p1, -, p2⟩ | ⟨a0, -, -, k0⟩
      · rw [e2.symm.trans e] at k1; exact absurd k1 (by decide)
      · have : b' = b := (nI_eq (by omega) (by omega)).mp (p1.symm.trans (e7.symm.trans q1))
        subst this
        rcases p2 with p2 | ⟨-, a', p3, p4⟩
        · omega
        · have : a = a' := (nI_eq (by omega) (by omega)).mp (q5'.symm.trans p4)
          omega
      · rw [e2.symm.trans e] at k0
        rcases k0 with ⟨k0, -⟩ | ⟨k0, -⟩ | ⟨a2, -, -, k0 | k0 | k0 | ⟨k0, -⟩⟩ <;> exact absurd k0 (by decide)
    rw [hρ a (by omega)]
    exact g2 a b0 q5' ha
  · have q' := e3.symm.trans q
    obtain ⟨g1, g2, g3⟩ := h3 a q' ha
    have la := fa a q' ha
    rw [hρ a (by omega), rj, e2]
    refine ⟨g1, fun e c hc q6 => g2 e c hc (e6.symm.trans q6), fun a2 q4 ha2 => ?_⟩
    have q4' := e4.symm.trans q4
    obtain ⟨g4, g5⟩ := g3 a2 q4' ha2
    have la2 := fa2 a2 q4' ha2
    rw [hρ a2 (by omega)]
    refine ⟨g4, fun e a3 q5 ha3 => ?_⟩
    have q5' := e5.symm.trans q5
    have la3 : a3 < j := by
      rcases hd with ⟨k1, -⟩ | ⟨k1, -⟩ | ⟨a0, -, -, ⟨k1, -⟩ | ⟨k1, -⟩ | ⟨a2', -, -, k1 | k1 | k1 | ⟨-, a3', p1, p2⟩⟩⟩
      · rw [e] at k1; exact absurd k1 (by decide)
      · rw [e] at k1; exact absurd k1 (by decide)
      · rw [e] at k1; exact absurd k1 (by decide)
      · rw [e] at k1; exact absurd k1 (by decide)
      · rw [e] at k1; exact absurd k1 (by decide)
      · rw [e] at k1; exact absurd k1 (by decide)
      · rw [e] at k1; exact absurd k1 (by decide)
      · have : a3 = a3' := (nI_eq (by omega) (by omega)).mp (q5'.symm.trans p2)
        omega
    rw [hρ a3 (by omega)]
    exact g5 e a3 q5' ha3
def lc_kZ (y y' : lc_S) : Prop := (∀ c k, ¬ (c = 9 ∧ k = 4) → ¬ (10 ≤ c ∧ c ≤ 13) → c ≠ 17 → lcI y' c k = lcI y c k) ∧ (∀ c k, lcL y' c k = lcL y c k) ∧ ∀ c k, lcR y' c k = lcR y c k
theorem lc_kZ.rf {y : lc_S} : lc_kZ y y := ⟨fun _ _ _ _ _ => rfl, fun _ _ => rfl, fun _ _ => rfl⟩
theorem lc_kZ.tr {x y z : lc_S} (h : lc_kZ x y) (g : lc_kZ y z) : lc_kZ x z := ⟨fun c k a b d => (g.1 c k a b d).trans (h.1 c k a b d), fun c k => (g.2.1 c k).trans (h.2.1 c k), fun c k => (g.2.2 c k).trans (h.2.2 c k)⟩
theorem lc_kT.z {x y : lc_S} (h : lc_kT x y) : lc_kZ x y := ⟨fun c k a b _ => h.1 c k a b, h.2.1, h.2.2⟩
theorem lc_kZ.u {y : lc_S} (k : Nat) (v : Int32) : lc_kZ y (lcUI y 17 k v) := ⟨fun c' k' a b d => by rw [lcI_UI, if_neg (by omega)], fun _ _ => rfl, fun _ _ => rfl⟩
theorem lc_kZ.sy {x y : lc_S} (h : lc_kZ x y) : lc_sy x y := fun c k a b => h.1 c k (by omega) (by omega) (by omega)
theorem lc_nd_eq {y y' : lc_S} {o i : Nat} (ho : lc_sh o = (0, 1, 0)) (hy : lc_sy y y') (h : lc_nd y o i) : lc_nd y' o i := by
  have ho' := lc_o ho
  have e8 := fun b => hy (o + 8) b (by omega) (by omega)
  unfold lc_nd at h ⊢
  rw [hy (o + 2) i (by omega) (by omega), hy (o + 3) i (by omega) (by omega), hy (o + 4) i (by omega) (by omega), hy (o + 5) i (by omega) (by omega), hy (o + 6) i (by omega) (by omega), hy (o + 7) i (by omega) (by omega)]
  obtain ⟨h0, h⟩ := h
  refine ⟨h0, ?_⟩
  rcases h with h | ⟨h1, h2, h3, b, pt, h4, h5, h6, h7, h8⟩ | h
  · exact Or.inl h
  · refine Or.inr (Or.inl ⟨h1, h2, h3, b, pt, h4, h5, h6, h7, ?_⟩)
    rcases h8 with h8 | ⟨h8, a, h9, h10⟩
    · exact Or.inl h8
    · exact Or.inr ⟨h8, a, h9, by rw [e8]; exact h10⟩
  · exact Or.inr (Or.inr h)
/-- the types of all expressions of the body of procedure k -/
def lc_TT (y : lc_S) (o k cnt : Nat) (δ : Nat → lc_tp) (n : Nat) (τ : Nat → Nat) (VT GT : Nat → lc_ot) : Prop := lc_TA y δ n ∧ (∀ j, j < cnt → lcI y 17 j = nI (τ j) ∧ τ j < n) ∧ (∀ c, c < 4 → ∃ a b, a < n ∧ b < n ∧ lcI y 15 c = nI a ∧ lcI y 16 c = nI b ∧ lc_oA δ a = VT c ∧ lc_oA δ b = GT c) ∧ ∀ j, j < cnt → lc_loc y o k (fun j => lc_oA δ (τ j)) VT GT j
theorem lc_oA_le {δ δ' : Nat → lc_tp} {n t : Nat} (hd : ∀ s, s < n → δ' s = δ s) (ht : t < n) : lc_oA δ' t = lc_oA δ t := by unfold lc_oA; rw [hd t ht]
theorem lc_bodyAL {o k cnt : Nat} {VT GT : Nat → lc_ot} (ho : lc_sh o = (0, 1, 0)) (hk : k < 4) (hc0 : 0 < cnt) (hc : cnt ≤ 120) : ∀ (m i f : Nat) (y : lc_S) (δ : Nat → lc_tp) (n : Nat) (τ : Nat → Nat), i + m = cnt → m < f → lcR y 8 4 = some o → lcI y 8 3 = nI k → lcI y o 11 = nI cnt → n ≤ 123 + i → lc_TT y o k i δ n τ VT GT → (∀ j, j < cnt → lc_nd y o j) →
    ∃ y' δ' n' τ', fK_findBodyType_19 f (nI i) y = some (nI (τ' (cnt - 1)), y') ∧ lc_TT y' o k cnt δ' n' τ' VT GT ∧ lc_kZ y y'
  | 0, i, f + 1, y, δ, n, τ, hi, _, hr, h83, h11, hn, hT, hnd => by
    have hi : i = cnt := by omega
    subst hi
    refine ⟨y, δ, n, τ, ?_, hT, lc_kZ.rf⟩
    have hb : fP_body o y = some (nI (i - 1), y) := by rw [fP_body, lc_chk_pos ho, h11, show i = i - 1 + 1 by omega, nI_pred]; rfl
    rw [fK_findBodyType_19, lc_bnr_eq hr, lc_chk_pos ho, h11, if_pos (nI_le (Nat.le_refl _) (by omega)), lc_bnr_eq hr, lc_chk_pos ho, lc_bnd_eq hb, lc_bnd_eq (lc_partA1 (by omega)), (hT.2.1 (i - 1) (by omega)).1]
  | m + 1, i, f + 1, y, δ, n, τ, hi, hf, hr, h83, h11, hn, hT, hnd => by
    obtain ⟨h1, h2, h3, h4⟩ := hT
    have ho' := lc_o ho
    have c1 : lc_in (nI i) 120 := nI_in (by omega) (by decide)
    have d1 : (nI i).toNatClampNeg = i := nI_clamp (by omega)
    obtain ⟨t, y1, δ1, n1, g1, g2, g3, g4, g5, g6, g7, g8⟩ := lc_ftA hr ho hk h83 h1 (by omega) h2 h3 (hnd i (by omega))
    obtain ⟨τ', ti, tn⟩ : ∃ τ' : Nat → Nat, τ' i = t ∧ ∀ j, j ≠ i → τ' j = τ j := ⟨fun j => if j = i then t else τ j, if_pos rfl, fun j h => if_neg h⟩
    have kz : lc_kZ y (lcUI y1 17 i (nI t)) := g7.z.tr (lc_kZ.u _ _)
    obtain ⟨y', δ', n', τ2, q1, q2, q3⟩ := lc_bodyAL (VT := VT) (GT := GT) ho hk hc0 hc m (i + 1) f (lcUI y1 17 i (nI t)) δ1 n1 τ' (by omega) (by omega) (by rw [kz.2.2]; exact hr) (by rw [kz.1 _ _ (by omega) (by omega) (by omega)]; exact h83) (by rw [kz.1 _ _ (by omega) (by omega) (by omega)]; exact h11) (by omega) (by
      refine ⟨lc_TA_eq (fun c j a b => by rw [lcI_UI, if_neg (by omega)]) g2, fun j hj => ?_, fun c hc => ?_, fun j hj => ?_⟩
      · by_cases hji : j = i
        · subst hji
          rw [lcI_UI, if_pos ⟨rfl, rfl⟩, ti]
          exact ⟨rfl, g5⟩
        · rw [lcI_UI, if_neg (by omega), g7.1 _ _ (by omega) (by omega), tn j hji]
          obtain ⟨p1, p2⟩ := h2 j (by omega)
          exact ⟨p1, by omega⟩
      · obtain ⟨a, b, p1, p2, p3, p4, p5, p6⟩ := h3 c hc
        exact ⟨a, b, by omega, by omega, by rw [kz.1 _ _ (by omega) (by omega) (by omega)]; exact p3, by rw [kz.1 _ _ (by omega) (by omega) (by omega)]; exact p4, by rw [lc_oA_le g6 p1]; exact p5, by rw [lc_oA_le g6 p2]; exact p6⟩
      · by_cases hji : j = i
        · subst hji
          refine lc_loc_eq ho kz.sy (hnd j (by omega)) (fun a ha => ?_) g8
          by_cases haj : a = j
          · subst haj
            show lc_oA δ1 (τ' a) = lc_upd a (lc_oA δ1 t) _ a
            rw [ti]; unfold lc_upd; rw [if_pos rfl]
          · show lc_oA δ1 (τ' a) = lc_upd j (lc_oA δ1 t) _ a
            unfold lc_upd; rw [if_neg haj, tn a haj]
            exact lc_oA_le g6 (h2 a (by omega)).2
        · refine lc_loc_eq ho kz.sy (hnd j (by omega)) (fun a ha => ?_) (h4 j (by omega))
          show lc_oA δ1 (τ' a) = lc_oA δ (τ a)
          rw [tn a (by omega)]
          exact lc_oA_le g6 (h2 a (by omega)).2) (fun j hj => lc_nd_eq ho kz.sy (hnd j hj))
    refine ⟨y', δ', n', τ2, ?_, q2, kz.tr q3⟩
    rw [fK_findBodyType_19, lc_bnr_eq hr, lc_chk_pos ho, h11, if_neg (nI_ge (by omega) (by omega)), lc_bnd_eq g1, lc_chk_pos c1, lc_let_eq, d1, nI_1]
    exact q1
/-- all but the class's checker stays -/
def lc_kC (y y' : lc_S) : Prop := (∀ c k, ¬ (8 ≤ c ∧ c ≤ 18) → lcI y' c k = lcI y c k) ∧ (∀ c k, lcL y' c k = lcL y c k) ∧ ∀ c k, ¬ (c = 8 ∧ k = 4) → lcR y' c k = lcR y c k
theorem lc_bodyA {y z : lc_S} {T S : Nat → lc_tp} {ok : Nat → Nat} {th : Nat → Prop} {k cnt : Nat} (h3 : lc_t3 y) (hP : ∀ k, k < 4 → lcR y 3 k = some (ok k) ∧ lc_sh (ok k) = (0, 1, 0) ∧ (th k ↔ lcI y (ok k) 0 ≠ 0) ∧ (th k → lc_PT y z k (ok k) (T k) (S k))) (hk : k < 4) (hc0 : 0 < cnt) (hc : cnt ≤ 120) (h11 : lcI y (ok k) 11 = nI cnt) (hnd : ∀ j, j < cnt → lc_nd y (ok k) j) :
    ∃ y' δ' n' τ' VT GT, fK_findBodyType 3 (nI k) y = some (nI (τ' (cnt - 1)), y') ∧ lc_TT y' (ok k) k cnt δ' n' τ' VT GT ∧ (∀ c, c < 4 → (th c ∧ VT c = some (T c) ∧ GT c = some (S c)) ∨ (¬ th c ∧ VT c = none ∧ GT c = none)) ∧ lc_kC y y' ∧ lcR y' 8 4 = some (ok k) ∧ lcI y' 8 3 = nI k := by
  obtain ⟨y1, δ1, n1, a1, a2, a3, a4, a5⟩ := lc_fwA h3 hP
  obtain ⟨p1, p2, p3, p4⟩ := hP k hk
  have ho' := lc_o p2
  have s3 : lc_sh 3 = (3, 4, 4) := by decide +kernel
  have c1 : lc_in (nI k) 4 := nI_in hk (by decide)
  have d1 : (nI k).toNatClampNeg = k := nI_clamp (by omega)
  have hex : ∃ VT GT : Nat → lc_ot, (∀ c, c < 4 → (th c ∧ VT c = some (T c) ∧ GT c = some (S c)) ∨ (¬ th c ∧ VT c = none ∧ GT c = none)) := by
    have : ∀ c, ∃ p : lc_ot × lc_ot, (th c ∧ p.1 = some (T c) ∧ p.2 = some (S c)) ∨ (¬ th c ∧ p.1 = none ∧ p.2 = none) := fun c => by
      rcases Classical.em (th c) with h | h
      · exact ⟨(some (T c), some (S c)), Or.inl ⟨h, rfl, rfl⟩⟩
      · exact ⟨(none, none), Or.inr ⟨h, rfl, rfl⟩⟩
    exact ⟨fun c => (Classical.choose (this c)).1, fun c => (Classical.choose (this c)).2, fun c _ => Classical.choose_spec (this c)⟩
  obtain ⟨VT, GT, hVG⟩ := hex
  obtain ⟨y2, ey⟩ : ∃ x, x = lcUR (lcUI y1 8 3 (nI k)) 8 4 (some (ok k)) := ⟨_, rfl⟩
  have yI : ∀ c j, ¬ (c = 8 ∧ j = 3) → lcI y2 c j = lcI y1 c j := fun c j h => by rw [ey, lcI_UR, lcI_UI, if_neg h]
  have yR : ∀ c j, ¬ (c = 8 ∧ j = 4) → lcR y2 c j = lcR y1 c j := fun c j h => by rw [ey, lcR_UR, if_neg h]; rfl
  have sy : lc_sy y y2 := fun c j a b => by rw [yI c j (by omega)]; exact a5.1 c j (by omega) (by omega)
  obtain ⟨y', δ', n', τ', q1, q2, q3⟩ := lc_bodyAL (o := ok k) (k := k) (cnt := cnt) (VT := VT) (GT := GT) p2 hk hc0 hc cnt 0 lc_FU y2 δ1 n1 (fun _ => 0) (by omega) (by unfold lc_FU; omega) (by rw [ey, lcR_UR, if_pos ⟨rfl, rfl⟩]) (by rw [ey, lcI_UR, lcI_UI, if_pos ⟨rfl, rfl⟩]) (by rw [sy _ _ (by omega) (by omega)]; exact h11) (by omega) (by
    refine ⟨lc_TA_eq (fun c j a b => yI c j (by omega)) a2, fun j hj => absurd hj (by omega), fun c hc => ?_, fun j hj => absurd hj (by omega)⟩
    have n3 := a2.2.1
    rw [yI _ _ (by omega), yI _ _ (by omega)]
    rcases hVG c hc with ⟨t1, t2, t3⟩ | ⟨t1, t2, t3⟩
    · rcases a4 c hc with ⟨g, -⟩ | ⟨-, a, b, g1, g2, g3, g4, g5, g6, g7, g8⟩
      · exact absurd t1 g
      · exact ⟨a, b, g2, g4, g5, g6, by unfold lc_oA; rw [if_neg (by omega), g7, t2], by unfold lc_oA; rw [if_neg (by omega), g8, t3]⟩
    · rcases a4 c hc with ⟨-, g1, g2⟩ | ⟨g, -⟩
      · exact ⟨0, 0, by omega, by omega, g1, g2, t2.symm, t3.symm⟩
      · exact absurd g t1) (fun j hj => lc_nd_eq p2 sy (hnd j hj))
  refine ⟨y', δ', n', τ', VT, GT, ?_, q2, hVG, ⟨fun c j h => ?_, fun c j => ?_, fun c j h => ?_⟩, ?_, ?_⟩
  · rw [fK_findBodyType, lc_bnd_eq a1, lc_chk_pos s3, lc_chk_pos c1, lc_bnr_eq (show lcR (lcUI y1 8 3 (nI k)) 3 (nI k).toNatClampNeg = some (ok k) by rw [d1, lcR_UI, a5.2.2]; exact p1), ← ey]
    exact q1
  · rw [q3.1 c j (by omega) (by omega) (by omega), yI c j (by omega), a5.1 c j (by omega) (by omega)]
  · rw [q3.2.1, ey]; show lcL y1 c j = _; rw [a5.2.1]
  · rw [q3.2.2, yR c j h, a5.2.2]
  · rw [q3.2.2, ey, lcR_UR, if_pos ⟨rfl, rfl⟩]
  · rw [q3.1 _ _ (by omega) (by omega) (by omega), ey, lcI_UR, lcI_UI, if_pos ⟨rfl, rfl⟩]
