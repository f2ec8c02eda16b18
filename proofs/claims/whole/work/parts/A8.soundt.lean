/-! a turn of sound: class and reference answer alike -/
def lc_PCs (y z : lc_S) (g : Nat → Nat) : Prop := ∀ k, k < 4 → ∃ o, lcR y 3 k = some o ∧ g k < 16 ∧ (lcI y o 0 = 0 → g k = 0) ∧ (lcI y o 0 ≠ 0 → lcI y (o + 8) 0 = -1 ∧ lcI y o 1 = nI (g k) ∧ ∀ n, lcI z 89 (k + 1) = nI n → n ≤ 120 → lc_gq z k n (g k))
theorem lc_rho {y : lc_S} {z : lc_S} {T S : Nat → lc_tp} {ok : Nat → Nat} {th : Nat → Prop} {k cnt : Nat} {VT GT : Nat → lc_ot} (h3 : lc_t3 y) (hP : ∀ k, k < 4 → lcR y 3 k = some (ok k) ∧ lc_sh (ok k) = (0, 1, 0) ∧ (th k ↔ lcI y (ok k) 0 ≠ 0) ∧ (th k → lc_PT y z k (ok k) (T k) (S k))) (hk : k < 4) (hc0 : 0 < cnt) (hc : cnt ≤ 120) (h11 : lcI y (ok k) 11 = nI cnt) (hR : lc_R y z (ok k) (120 * (k + 1)) 17 0 (cnt - 1) 0 cnt [(0, 0, -1, 0)])
    (hVG : ∀ c, c < 4 → (th c ∧ VT c = some (T c) ∧ GT c = some (S c)) ∨ (¬ th c ∧ VT c = none ∧ GT c = none)) : ∃ ρ : Nat → lc_ot, ∀ j, j < cnt → lc_loc y (ok k) k ρ VT GT j := by
  obtain ⟨p1, p2, p3, p4⟩ := hP k hk
  have hroot : lc_eo y z (ok k) (120 * (k + 1)) [(0, 0, -1, 0)] 0 0 := rfl
  have hnd0 := lc_R_nd 17 0 (cnt - 1) 0 cnt _ hR hroot
  obtain ⟨y1, δ1, m1, τ, VT', GT', a1, ⟨t1, t2, t3, t4⟩, a3, a4, a5, a6⟩ := lc_bodyA (y := y) (z := z) (T := T) (S := S) (ok := ok) (th := th) h3 hP hk hc0 hc h11 (fun j hj => hnd0 j (by omega) (by omega))
  have sy1 : lc_sy y y1 := fun c j a b => a4.1 c j (by omega)
  have sy1' : lc_sy y1 y := fun c j a b => (sy1 c j a b).symm
  have hV : ∀ c, c < 4 → VT' c = VT c ∧ GT' c = GT c := fun c hc => by
    rcases a3 c hc with ⟨u1, u2, u3⟩ | ⟨u1, u2, u3⟩
    · rcases hVG c hc with ⟨-, v2, v3⟩ | ⟨v1, -⟩
      · exact ⟨by rw [u2, v2], by rw [u3, v3]⟩
      · exact absurd u1 v1
    · rcases hVG c hc with ⟨v1, -⟩ | ⟨-, v2, v3⟩
      · exact absurd v1 u1
      · exact ⟨by rw [u2, v2], by rw [u3, v3]⟩
  refine ⟨fun j => lc_oA δ1 (τ j), fun j hj => ?_⟩
  have hj0 := lc_loc_eq (ρ' := fun j => lc_oA δ1 (τ j)) p2 sy1' (lc_nd_eq p2 sy1 (hnd0 j (by omega) (by omega))) (fun _ _ => rfl) (t4 j hj)
  obtain ⟨q1, q2, q3⟩ := hj0
  refine ⟨q1, fun e b pt w1 w2 w3 w4 => ?_, fun a w1 w2 => ?_⟩
  · obtain ⟨r1, r2⟩ := q2 e b pt w1 w2 w3 w4
    exact ⟨fun hb => by rw [← (hV k hk).1]; exact r1 hb, r2⟩
  · obtain ⟨r1, r2, r3⟩ := q3 a w1 w2
    exact ⟨r1, fun e c hc w => by rw [← (hV c hc).1, ← (hV c hc).2]; exact r2 e c hc w, r3⟩
theorem lc_soundT (z : lc_S) (b : Int32) {T S : Nat → lc_tp} {g : Nat → Nat} (hPR : lc_PR z z) (hPT : lc_PTs z z T S) (hPC : lc_PCs z z g) (h3 : lc_t3 z) : ∃ z', lc_tB (fA_sound b) (fQ_sound b) z z' ∧ lc_ck z z' ∧ lc_t3 z' := by
  obtain ⟨ok, th, hP⟩ := lc_okth hPR hPT
  have hG : ∀ k, k < 4 → g k < 16 ∧ (¬ th k → g k = 0) ∧ (th k → lcI z (ok k + 8) 0 = -1 ∧ lcI z (ok k) 1 = nI (g k) ∧ ∀ n, lcI z 89 (k + 1) = nI n → n ≤ 120 → lc_gq z k n (g k)) := fun k hk => by
    obtain ⟨p1, p2, p3, p4, p5, p6⟩ := hP k hk
    obtain ⟨o, q1, q2, q3, q4⟩ := hPC k hk
    rw [p1] at q1
    cases q1
    exact ⟨q2, fun h => q3 (Classical.byContradiction (fun h' => h (p3.mpr h'))), fun h => q4 (p3.mp h)⟩
  obtain ⟨VT, GT, hVG⟩ : ∃ VT GT : Nat → lc_ot, (∀ c, c < 4 → (th c ∧ VT c = some (T c) ∧ GT c = some (S c)) ∨ (¬ th c ∧ VT c = none ∧ GT c = none)) := by
    have : ∀ c, ∃ p : lc_ot × lc_ot, (th c ∧ p.1 = some (T c) ∧ p.2 = some (S c)) ∨ (¬ th c ∧ p.1 = none ∧ p.2 = none) := fun c => by
      rcases Classical.em (th c) with h | h
      · exact ⟨(some (T c), some (S c)), Or.inl ⟨h, rfl, rfl⟩⟩
      · exact ⟨(none, none), Or.inr ⟨h, rfl, rfl⟩⟩
    exact ⟨fun c => (Classical.choose (this c)).1, fun c => (Classical.choose (this c)).2, fun c _ => Classical.choose_spec (this c)⟩
  have hPA : ∀ k, k < 4 → lcR z 3 k = some (ok k) ∧ lc_sh (ok k) = (0, 1, 0) ∧ (th k ↔ lcI z (ok k) 0 ≠ 0) ∧ (th k → lc_PT z z k (ok k) (T k) (S k)) := fun k hk => ⟨(hP k hk).1, (hP k hk).2.1, (hP k hk).2.2.1, (hP k hk).2.2.2.1⟩
  have hex : ∀ k, ∃ q : Nat × (Nat → lc_ot), k < 4 → th k → 0 < q.1 ∧ q.1 ≤ 120 ∧ lcI z (ok k) 11 = nI q.1 ∧ lcI z 89 (k + 1) = nI q.1 ∧ lc_R z z (ok k) (120 * (k + 1)) 17 0 (q.1 - 1) 0 q.1 [(0, 0, -1, 0)] ∧ ∀ j, j < q.1 → lc_loc z (ok k) k q.2 VT GT j := fun k => by
    rcases Classical.em (k < 4 ∧ th k) with ⟨hk, ht⟩ | h
    · obtain ⟨cnt, n1, n2, n3, n4, n5⟩ := (hP k hk).2.2.2.2.2 ht
      obtain ⟨ρ, hρ⟩ := lc_rho (VT := VT) (GT := GT) h3 hPA hk n1 n2 n3 n5 hVG
      exact ⟨(cnt, ρ), fun _ _ => ⟨n1, n2, n3, n4, n5, hρ⟩⟩
    · exact ⟨(0, fun _ => none), fun hk ht => absurd ⟨hk, ht⟩ h⟩
  obtain ⟨q, hq⟩ : ∃ q : Nat → Nat × (Nat → lc_ot), ∀ k, k < 4 → th k → 0 < (q k).1 ∧ (q k).1 ≤ 120 ∧ lcI z (ok k) 11 = nI (q k).1 ∧ lcI z 89 (k + 1) = nI (q k).1 ∧ lc_R z z (ok k) (120 * (k + 1)) 17 0 ((q k).1 - 1) 0 (q k).1 [(0, 0, -1, 0)] ∧ ∀ j, j < (q k).1 → lc_loc z (ok k) k (q k).2 VT GT j := ⟨fun k => Classical.choose (hex k), fun k => Classical.choose_spec (hex k)⟩
  obtain ⟨P, hPd⟩ : ∃ P : Nat → Prop, ∀ j, P j ↔ th j ∧ lc_CK z z (ok j) j (q j).1 (q j).2 (T j) (S j) := ⟨fun j => th j ∧ lc_CK z z (ok j) j (q j).1 (q j).2 (T j) (S j), fun _ => Iff.rfl⟩
  -- the class
  have hF : ∀ j, j < 4 → ∀ y, lc_kC z y → lc_t3 y → ∃ x y', fK_findsNoFault 3 (nI j) y = some (x, y') ∧ lc_kC z y' ∧ lc_t3 y' ∧ (x = 0 ∨ x = 1) ∧ (x = 1 ↔ P j) := fun j hj y hy ht => by
    have sy : lc_sy z y := fun c k a b => hy.1 c k (by omega)
    have hPy : ∀ k, k < 4 → lcR y 3 k = some (ok k) ∧ lc_sh (ok k) = (0, 1, 0) ∧ (th k ↔ lcI y (ok k) 0 ≠ 0) ∧ (th k → lc_PT y z k (ok k) (T k) (S k)) := fun k hk => by
      obtain ⟨w1, w2, w3, w4⟩ := hPA k hk
      have ho2 := lc_o w2
      exact ⟨by rw [hy.2.2 _ _ (by omega)]; exact w1, w2, by rw [sy _ _ (by omega) (by omega)]; exact w3, fun h => lc_PT_eq (y := z) (z := z) (y' := y) (z' := z) w2 sy (fun _ _ _ _ => rfl) (w4 h)⟩
    rcases Classical.em (th j) with hth | hth
    · obtain ⟨n1, n2, n3, n4, n5, n6⟩ := hq j hj hth
      obtain ⟨x, y', e1, e2, e3, e4, e5⟩ := lc_faultA (y0 := z) (z0 := z) (y := y) (ρ := (q j).2) (VT := VT) (GT := GT) ht sy hPy hj hth n1 n2 n3 ((hG j hj).2.2 hth).1 n5 hVG n6
      exact ⟨x, y', e1, ⟨fun c k h => (e2.1 c k h).trans (hy.1 c k h), fun c k => (e2.2.1 c k).trans (hy.2.1 c k), fun c k h => (e2.2.2 c k h).trans (hy.2.2 c k h)⟩, e3, e4, by rw [e5, hPd]; exact ⟨fun h => ⟨hth, h⟩, fun h => h.2⟩⟩
    · obtain ⟨w1, w2, w3, w4⟩ := hPy j hj
      refine ⟨0, y, ?_, hy, ht, Or.inl rfl, ⟨fun h => absurd h (by decide), fun h => absurd ((hPd j).mp h).1 hth⟩⟩
      have s3 : lc_sh 3 = (3, 4, 4) := by decide +kernel
      have c1 : lc_in (nI j) 4 := nI_in hj (by decide)
      have d1 : (nI j).toNatClampNeg = j := nI_clamp (by omega)
      rw [fK_findsNoFault, lc_chk_pos s3, lc_chk_pos c1, lc_bnr_eq (by rw [d1]; exact w1), lc_chk_pos w2, if_pos (Classical.byContradiction (fun h => hth (w3.mpr h)))]
  -- the reference
  have hgo : ∀ z0, lc_sz z z0 → lc_goS z0 P g := fun z0 sz0 j hj z1 hz1 K X x3 hX => by
    have sz : lc_sz z z1 := fun c k a b => (hz1.sz c k a b).trans (sz0 c k a b)
    obtain ⟨w1, w2, w3, w4, w5, w6⟩ := hP j hj
    have e89 : lcI z1 89 (j + 1) = lcI z 89 (j + 1) := sz _ _ (by decide) (by decide)
    rcases Classical.em (th j) with hth | hth
    · obtain ⟨n1, n2, n3, n4, n5, n6⟩ := hq j hj hth
      obtain ⟨g1, g2, g3⟩ := (hG j hj).2.2 hth
      have hthQ : fQ_isThere (nI j) z1 = some (1, z1) := by rw [lc_isThereQ hj, e89, if_pos (w5.mp hth)]
      obtain ⟨x, z2, e1, e2, e3, e4⟩ := lc_faultQ (y0 := z) (z0 := z) (z := z1) (ok := ok) (th := th) (T := T) (S := S) (ρ := (q j).2) (VT := VT) (GT := GT) sz (fun k hk => ⟨(hP k hk).2.2.2.2.1, (hP k hk).2.1, (hP k hk).2.2.2.1⟩) hj hth n1 n2 n4 n5 hVG n6
      have sz2 : lc_sz z z2 := fun c k a b => (e2.sz c k a b).trans (sz c k a b)
      obtain ⟨X', f1, f2, f3⟩ := lc_scanQ (z := z2) (j := j) (n := (q j).1) hj n2 (by rw [sz2 _ _ (by decide) (by decide)]; exact n4) (fun p hp h64 => by
        obtain ⟨D', lo', i', hi', env', r1, r2, r3, r4, r5⟩ := lc_R_sub 17 0 ((q j).1 - 1) 0 (q j).1 _ n5 (rfl : lc_eo z z (ok j) (120 * (j + 1)) [(0, 0, -1, 0)] 0 0) p (by omega) hp
        rw [sz2 _ _ (by decide) (by decide)] at h64
        rw [sz2 _ _ (by decide) (by decide)]
        obtain ⟨D', rfl⟩ : ∃ E, D' = E + 1 := ⟨D' - 1, by have := lc_R_D r1; omega⟩
        rw [lc_R] at r1
        obtain ⟨-, -, -, -, h⟩ := r1
        rcases h with ⟨-, -, -, t, -⟩ | ⟨-, -, -, t, -⟩ | ⟨a, h1, -, -, t, -, h⟩
        · rw [t] at h64; exact absurd h64 (by decide)
        · rw [t] at h64; exact absurd h64 (by decide)
        · rw [t] at h64
          rcases h with ⟨k1', -⟩ | ⟨k1', -, -, -, c, c1, c2, c3⟩ | ⟨a2, h2, -, -, ⟨m1, -⟩ | ⟨m1, -⟩ | ⟨m1, -⟩ | ⟨m1, -⟩⟩
          · rw [h64] at k1'; exact absurd k1' (by decide)
          · exact ⟨c, c1, c3⟩
          · rw [h64] at m1; exact absurd m1 (by decide)
          · rw [h64] at m1; exact absurd m1 (by decide)
          · rw [h64] at m1; exact absurd m1 (by decide)
          · rw [h64] at m1; exact absurd m1 (by decide)) K x3 x (q j).1 0 lc_FU X (by omega) (by unfold lc_FU; omega) hX
      have hX' : X' = X ||| g j := lc_bits f2 (lc_or16 hX (hG j hj).1) (fun c hc => by
        have h1 := f3 c hc
        have h2 := g3 (q j).1 n4 n2 c hc
        have conv : (∃ q', 0 ≤ q' ∧ q' < (q j).1 ∧ lcI z2 82 (120 * (j + 1) + q') = 64 ∧ lcI z2 83 (120 * (j + 1) + q') = nI c) ↔ (g j).testBit c = true := by
          rw [h2]
          refine ⟨fun ⟨p, _, a, b, d⟩ => ⟨p, a, by rw [sz2 _ _ (by decide) (by decide)] at b; exact b, by rw [sz2 _ _ (by decide) (by decide)] at d; exact d⟩, fun ⟨p, a, b, d⟩ => ⟨p, by omega, a, by rw [sz2 _ _ (by decide) (by decide)]; exact b, by rw [sz2 _ _ (by decide) (by decide)]; exact d⟩⟩
        rw [conv] at h1
        rw [Nat.testBit_or]
        cases e1 : X.testBit c with
        | true => rw [Bool.true_or]; exact h1.mpr (Or.inl e1)
        | false =>
          rw [Bool.false_or]
          cases e2 : (g j).testBit c with
          | true => exact h1.mpr (Or.inr e2)
          | false =>
            cases e3 : X'.testBit c with
            | false => rfl
            | true =>
              rcases h1.mp e3 with h | h
              · rw [e1] at h; cases h
              · rw [e2] at h; cases h)
      refine ⟨x, z2, ?_, hz1.tr e2, e3, by rw [e4, hPd]; exact ⟨fun h => ⟨hth, h⟩, fun h => h.2⟩⟩
      rw [lc_bnd_eq hthQ, if_neg (by decide), lc_bnd_eq e1, ← hX']
      rcases e3 with hx | hx
      · rw [if_pos hx]; subst hx; exact f1
      · rw [if_neg (by rw [hx]; decide)]; subst hx; exact f1
    · have n0 : ¬ 0 < lcI z1 89 (j + 1) := by rw [e89]; exact fun h => hth (w5.mpr h)
      have hthQ : fQ_isThere (nI j) z1 = some (0, z1) := by rw [lc_isThereQ hj, if_neg n0]
      have e89' : lcI z1 89 (j + 1) = nI 0 := by
        obtain ⟨o, p1, p2, p3⟩ := hPR j hj
        rw [e89]
        rcases p3 with ⟨-, p4⟩ | ⟨p4, n, m1, m2, m3, m4, -⟩
        · exact p4
        · exfalso
          apply hth
          rw [w5, m4]
          exact nI_lt (a := 0) m1 (by omega)
      obtain ⟨X', f1, f2, f3⟩ := lc_scanQ (z := z1) (j := j) (n := 0) hj (by decide) e89' (fun p hp => absurd hp (by omega)) K x3 0 0 0 lc_FU X (by omega) (by unfold lc_FU; omega) hX
      have hX' : X' = X ||| g j := by
        rw [(hG j hj).2.1 hth, Nat.or_zero]
        refine lc_bits f2 hX (fun c hc => ?_)
        have h1 := f3 c hc
        cases e1 : X.testBit c with
        | true => exact h1.mpr (Or.inl e1)
        | false =>
          cases e3 : X'.testBit c with
          | false => rfl
          | true =>
            rcases h1.mp e3 with h | ⟨p, -, h, -⟩
            · rw [e1] at h; cases h
            · omega
      refine ⟨0, z1, ?_, hz1, Or.inl rfl, ⟨fun h => absurd h (by decide), fun h => absurd ((hPd j).mp h).1 hth⟩⟩
      rw [lc_bnd_eq hthQ, if_pos rfl, ← hX']
      exact f1
  rcases lc_isThereA b (lc_PR_o hPR b) with ⟨k, o, hk, rfl, r1, r2, r3⟩ | ⟨r3, r4⟩
  · have hgc : lc_gc z ok g := fun j hj => by
      obtain ⟨w1, w2, w3, w4⟩ := hPA j hj
      obtain ⟨v1, v2, v3⟩ := hG j hj
      exact ⟨w1, w2, v1, fun h => v2 (fun h' => w3.mp h' h), fun h => (v3 (w3.mpr h)).2.1⟩
    have hg16 : ∀ j, j < 4 → g j < 16 := fun j hj => (hG j hj).1
    obtain ⟨r, y1, e1, e2, e3, e4, e5⟩ := lc_soundAL (y0 := z) (P := P) (lc_rc_16 hk hg16) hF 4 0 lc_FU z rfl (by unfold lc_FU; omega) ⟨fun _ _ _ => rfl, fun _ _ => rfl, fun _ _ _ => rfl⟩ h3
    have hA : fA_sound (nI k) z = some (r, y1) := by
      rw [fA_sound, lc_bnd_eq r3, if_neg (by decide), lc_bnd_eq (lc_reachA hk hgc)]; exact e1
    have hlo := g3A_sound hA
    obtain ⟨z1, ez1⟩ : ∃ x, x = lcUI y1 80 0 0 := ⟨_, rfl⟩
    have sz1 : lc_sz z z1 := fun c k a b => by rw [ez1, lcI_UI, if_neg (by omega)]; exact (hlo c k (lc_a3_f (by omega))).1
    have hth : th k := by
      obtain ⟨w1, w2, w3, w4⟩ := hPA k hk
      rw [r1] at w1
      cases w1
      exact w3.mpr r2
    have hthQ : fQ_isThere (nI k) z1 = some (1, z1) := by
      rw [lc_isThereQ hk, sz1 _ _ (by decide) (by decide), if_pos ((hP k hk).2.2.2.2.1.mp hth)]
    have p0 := lc_pow16 k hk
    obtain ⟨x, z', f1, f2, f3, f4⟩ := lc_soundQL (z0 := z1) (P := P) (g := g) (R := lc_rc g k) (k := k) hg16 (hgo z1 sz1) lc_rc_k (lc_rc_cld hk hg16) (fun N h1 h2 => lc_rc_min h1 h2) 4 lc_FU z1 (2 ^ k) 0 (by decide) (by unfold lc_FU; omega) lc_kS.rf p0 (by decide) (Nat.zero_or _) lc_rc_k lc_sub.rf (fun j hj h => by rw [Nat.zero_testBit] at h; cases h)
    have hx : x = r := by
      have h1 := f4.trans (Iff.trans ⟨fun h i _ a b => h i a b, fun h i a b => h i (by omega) a b⟩ e5.symm)
      rcases f3 with hx | hx
      · rcases e4 with hr | hr
        · rw [hx, hr]
        · rw [hx] at h1; exact absurd (h1.mpr hr) (by decide)
      · rcases e4 with hr | hr
        · rw [hr] at h1; exact absurd (h1.mp hx) (by decide)
        · rw [hx, hr]
    subst hx
    have hQ : fQ_sound (nI k) y1 = some (x, z') := by
      rw [fQ_sound, ← ez1, lc_bnd_eq hthQ, if_neg (by decide), lc_let_eq, lc_shlI k hk]; exact f1
    have hfr := g4Q_sound hQ
    have hhi := lc_hi_eq (gQ_sound hQ)
    refine ⟨z', ⟨x, y1, hA, hQ⟩, fun c k h0 ha hb => ?_, lc_t3_eq (y := y1) (fun c j a b => hhi.1 c j (by omega)) e3⟩
    obtain ⟨x1, x2, x3⟩ := hfr c k hb
    obtain ⟨w1, w2, w3⟩ := hlo c k ha
    exact ⟨by rw [x1, w1], by rw [x2, w2], by rw [x3, w3]⟩
  · have hq0 : fQ_isThere b (lcUI z 80 0 0) = some (0, lcUI z 80 0 0) := lc_isThereQ0 b (fun k hk e => by
      obtain ⟨o, p1, p2, p3⟩ := hPR k hk
      have h0 := r4 k o hk e p1
      rcases p3 with ⟨-, p4⟩ | ⟨p4, -⟩
      · simp only [lcI_UI, lcI_UL, lcI_UR, lcL_UI, lcL_UL, lcL_UR, lcR_UI, lcR_UL, lcR_UR, false_and, and_false, true_and, and_true, and_self, ↓reduceIte, Nat.reduceEqDiff, lc_let_eq]; exact p4
      · exact absurd h0 p4)
    refine ⟨lcUI z 80 0 0, ⟨0, z, ?_, ?_⟩, fun c k h0 ha hb => ⟨?_, rfl, rfl⟩, lc_t3_eq (y := z) (fun c j a b => by rw [lcI_UI, if_neg (by omega)]) h3⟩
    · rw [fA_sound, lc_bnd_eq r3, if_pos rfl]
    · rw [fQ_sound, lc_bnd_eq hq0, if_pos rfl]
    · rw [lcI_UI, if_neg (fun e => by rw [e.1, e.2] at hb; cases hb)]
