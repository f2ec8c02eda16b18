theorem lc_let_eq {α β : Type} (a : α) (f : α → β) : lc_let a f = f a := congrFun (rfl : lc_let a = fun (g : α → β) => g a) f
theorem lc_on_mono {A B : Nat → Prop} (h : ∀ c, A c → B c) {z z' : lc_S} (hz : lc_on A z z') : lc_on B z z' := ⟨fun c k hc => hz.1 c k (fun ha => hc (h c ha)), hz.2.1, hz.2.2⟩
theorem lc_sumL {g : Nat → Nat → Int64} {P : Nat} (hP1 : P ≤ 120) : ∀ (m i f : Nat) (z : lc_S), i + m = P → m < f → lcI z 20 10 = nI P → (∀ j, j < P → lc_pp g z j) → (∀ j, j < i → lc_pg g z j) →
    ∃ z', fY_sumUpPairs_2 f (nI i) z = some ((), z') ∧ lc_on lc_C4 z z' ∧ ∀ j, j < P → lc_pg g z' j
  | 0, i, f + 1, z, h, _, hP, hp, hr => by
    have hi : i = P := by omega
    subst hi
    refine ⟨z, ?_, lc_on_refl _ _, hr⟩
    rw [fY_sumUpPairs_2, hP, if_pos (nI_le (Nat.le_refl _) (by omega))]
  | m + 1, i, f + 1, z, h, hf, hP, hp, hr => by
    have hi : i < P := by omega
    have hc : (nI i).toNatClampNeg = i := nI_clamp (by omega)
    have hin : lc_in (nI i) 120 := nI_in (show i < 120 by omega) (by decide)
    obtain ⟨k, w, k', w', o1, o2, p1, p2, p3, p4⟩ := hp i hi
    have O1 : lc_ok P k w := lc_ok_le o1 (by omega)
    have O2 : lc_ok P k' w' := lc_ok_le o2 (by omega)
    have hz : ∀ j, j < i → lc_zok (lcI z 27 j) := fun j hj => by
      obtain ⟨a, b, c, d, q1, q2, q3, q4, q5, q6, q7, q8, q9, -⟩ := hr j hj
      rcases q9 with q9 | q9 <;> rw [q9] <;> decide
    obtain ⟨s1, es1⟩ : ∃ x, x = lc_sm z 25 2 k w + lc_sm z 25 2 k' w' := ⟨_, rfl⟩
    obtain ⟨s2, es2⟩ : ∃ x, x = lc_sm z 26 1 k w + lc_sm z 26 1 k' w' := ⟨_, rfl⟩
    obtain ⟨t, et⟩ : ∃ x : Int32, x = if lc_h z k w = 0 then (if lc_h z k' w' = 0 then 0 else 1) else 1 := ⟨_, rfl⟩
    obtain ⟨v, ev⟩ : ∃ x : Int32, x = if lc_h z k w = 0 then lc_fn z k' w' else lc_fn z k w := ⟨_, rfl⟩
    obtain ⟨za, ea⟩ : ∃ x, x = lcUI z 25 i s1 := ⟨_, rfl⟩
    obtain ⟨zb, eb⟩ : ∃ x, x = lcUI za 26 i s2 := ⟨_, rfl⟩
    obtain ⟨zc, ec⟩ : ∃ x, x = lcUI zb 27 i t := ⟨_, rfl⟩
    obtain ⟨zd, ed⟩ : ∃ x, x = lcUI zc 28 i v := ⟨_, rfl⟩
    have ha : ∀ c j, lcI za c j = if c = 25 ∧ j = i then s1 else lcI z c j := fun c j => by rw [ea]; rfl
    have hb : ∀ c j, lcI zb c j = if c = 26 ∧ j = i then s2 else lcI za c j := fun c j => by rw [eb]; rfl
    have hcc : ∀ c j, lcI zc c j = if c = 27 ∧ j = i then t else lcI zb c j := fun c j => by rw [ec]; rfl
    have hd : ∀ c j, lcI zd c j = if c = 28 ∧ j = i then v else lcI zc c j := fun c j => by rw [ed]; rfl
    have hL : ∀ c j, lcL zd c j = lcL z c j := fun c j => by rw [ed, ec, eb, ea]; rfl
    have hR : ∀ c j, lcR zd c j = lcR z c j := fun c j => by rw [ed, ec, eb, ea]; rfl
    have la : ∀ c j, j ≠ i ∨ c < 25 → lcI za c j = lcI z c j := fun c j h => by rw [ha, if_neg (by omega)]
    have lb : ∀ c j, j ≠ i ∨ c < 25 → lcI zb c j = lcI z c j := fun c j h => by rw [hb, if_neg (by omega), la c j h]
    have lc : ∀ c j, j ≠ i ∨ c < 25 → lcI zc c j = lcI z c j := fun c j h => by rw [hcc, if_neg (by omega), lb c j h]
    have ld : ∀ c j, j ≠ i ∨ c < 25 → lcI zd c j = lcI z c j := fun c j h => by rw [hd, if_neg (by omega), lc c j h]
    have ht : t = 1 ∨ t = 0 := by
      by_cases c1 : lc_h z k w = 0
      · by_cases c2 : lc_h z k' w' = 0
        · right; rw [et, if_pos c1, if_pos c2]
        · left; rw [et, if_pos c1, if_neg c2]
      · left; rw [et, if_neg c1]
    have hon : lc_on lc_C4 z zd := ⟨fun c j h => by rw [hd, if_neg (fun e => h (by rw [e.1]; exact ⟨by decide, by decide⟩)), hcc, if_neg (fun e => h (by rw [e.1]; exact ⟨by decide, by decide⟩)), hb, if_neg (fun e => h (by rw [e.1]; exact ⟨by decide, by decide⟩)), ha, if_neg (fun e => h (by rw [e.1]; exact ⟨by decide, by decide⟩))], hL, hR⟩
    have hpr : ∀ j, j < i + 1 → lc_pg g zd j := fun j hj => by
      by_cases hji : j < i
      · exact lc_pr_lt (n := i) (fun c q _ _ hq => ld c q (by omega)) (fun c q _ => hL c q) hji (hr j hji)
      · have : j = i := by omega
        subst this
        have e1 : ∀ c q, q < j → lcI zd c q = lcI z c q := fun c q hq => ld c q (by omega)
        have v25 : lcI zd 25 j = s1 := by rw [hd, if_neg (by omega), hcc, if_neg (by omega), hb, if_neg (by omega), ha, if_pos ⟨rfl, rfl⟩]
        have v26 : lcI zd 26 j = s2 := by rw [hd, if_neg (by omega), hcc, if_neg (by omega), hb, if_pos ⟨rfl, rfl⟩]
        have v27 : lcI zd 27 j = t := by rw [hd, if_neg (by omega), hcc, if_pos ⟨rfl, rfl⟩]
        have v28 : lcI zd 28 j = v := by rw [hd, if_pos ⟨rfl, rfl⟩]
        have b1 : lc_hb zd k w ↔ lc_h z k w ≠ 0 := by rw [← lc_h_iff, lc_h_lt (e1 27) o1]
        have b2 : lc_hb zd k' w' ↔ lc_h z k' w' ≠ 0 := by rw [← lc_h_iff, lc_h_lt (e1 27) o2]
        refine ⟨k, w, k', w', o1, o2, (by rw [hL]; exact p1), p2, (by rw [hL]; exact p3), p4, ?_, ?_, ?_, ?_, fun h => ?_, fun h => ?_⟩
        · rw [v25, es1, lc_sm_lt (e1 25) o1, lc_sm_lt (e1 25) o2]
        · rw [v26, es2, lc_sm_lt (e1 26) o1, lc_sm_lt (e1 26) o2]
        · rw [v27]; exact ht
        · rw [v27, b1, b2, et]
          by_cases c1 : lc_h z k w = 0
          · rw [if_pos c1]
            by_cases c2 : lc_h z k' w' = 0
            · rw [if_pos c2]; simp [c1, c2]
            · rw [if_neg c2]; simp [c2]
          · rw [if_neg c1]; simp [c1]
        · rw [v28, lc_fn_lt (e1 28) o1]
          rw [ev]
          rw [if_neg (b1.mp h)]
        · rw [v28, lc_fn_lt (e1 28) o2]
          rw [ev]
          rw [if_pos (Classical.byContradiction (fun h' => h (b1.mpr h')))]
    obtain ⟨z', g1, g2, g3⟩ := lc_sumL hP1 m (i + 1) f zd (by omega) (by omega) (by rw [ld 20 10 (by omega)]; exact hP) (fun j hj => by
      obtain ⟨a, b, c, d, q1, q2, q3, q4, q5, q6⟩ := hp j hj
      exact ⟨a, b, c, d, q1, q2, (by rw [hL]; exact q3), q4, (by rw [hL]; exact q5), q6⟩) hpr
    refine ⟨z', ?_, lc_on_trans hon g2, g3⟩
    have x1 : fY_cellsIn (lc_cv k w) z = some (lc_sm z 25 2 k w, z) := lc_cellsIn z hP hP1 O1.2
    have x2 : fY_cellsIn (lc_cv k' w') z = some (lc_sm z 25 2 k' w', z) := lc_cellsIn z hP hP1 O2.2
    have Pa : lcI za 20 10 = nI P := by rw [la 20 10 (by omega)]; exact hP
    have Pb : lcI zb 20 10 = nI P := by rw [lb 20 10 (by omega)]; exact hP
    have Pc : lcI zc 20 10 = nI P := by rw [lc 20 10 (by omega)]; exact hP
    have x3 : fY_numbersIn (lc_cv k w) za = some (lc_sm z 26 1 k w, za) := by rw [lc_numbersIn za Pa hP1 O1.2, lc_sm_lt (fun j hj => la 26 j (by omega)) o1]
    have x4 : fY_numbersIn (lc_cv k' w') za = some (lc_sm z 26 1 k' w', za) := by rw [lc_numbersIn za Pa hP1 O2.2, lc_sm_lt (fun j hj => la 26 j (by omega)) o2]
    have x5 : fY_hasNumber (lc_cv k w) zb = some (lc_h z k w, zb) := by rw [lc_hasNum zb Pb hP1 O1 (fun h3 => by have := o1.2.2.2 h3; rw [lb 27 w (by omega)]; exact hz w this), lc_h_lt (fun j hj => lb 27 j (by omega)) o1]
    have x6 : fY_hasNumber (lc_cv k' w') zb = some (lc_h z k' w', zb) := by rw [lc_hasNum zb Pb hP1 O2 (fun h3 => by have := o2.2.2.2 h3; rw [lb 27 w' (by omega)]; exact hz w' this), lc_h_lt (fun j hj => lb 27 j (by omega)) o2]
    have x7 : fY_hasNumber (lc_cv k w) zc = some (lc_h z k w, zc) := by rw [lc_hasNum zc Pc hP1 O1 (fun h3 => by have := o1.2.2.2 h3; rw [lc 27 w (by omega)]; exact hz w this), lc_h_lt (fun j hj => lc 27 j (by omega)) o1]
    have x8 : fY_firstNumberIn (lc_cv k w) zc = some (lc_fn z k w, zc) := by rw [lc_firstIn zc Pc hP1 O1.2, lc_fn_lt (fun j hj => lc 28 j (by omega)) o1]
    have x9 : fY_firstNumberIn (lc_cv k' w') zc = some (lc_fn z k' w', zc) := by rw [lc_firstIn zc Pc hP1 O2.2, lc_fn_lt (fun j hj => lc 28 j (by omega)) o2]
    have fin : fY_sumUpPairs_88 (fY_sumUpPairs_2 f) (nI i) (lc_cv k w) (lc_cv k' w') (nI i) t zb = some ((), z') := by
      rw [fY_sumUpPairs_88, lc_chk_pos hin, lc_chk_pos (by rcases ht with h | h <;> rw [h] <;> decide), hc, ← ec, lc_bnd_eq x7]
      by_cases c1 : lc_h z k w = 0
      · have hv : v = lc_fn z k' w' := by rw [ev, if_pos c1]
        rw [if_pos c1, lc_bnd_eq x9, fY_sumUpPairs_116, lc_chk_pos hin, hc, ← hv, ← ed]
        rw [lc_let_eq, nI_1]; exact g1
      · have hv : v = lc_fn z k w := by rw [ev, if_neg c1]
        rw [if_neg c1, lc_bnd_eq x8, fY_sumUpPairs_116, lc_chk_pos hin, hc, ← hv, ← ed]
        rw [lc_let_eq, nI_1]; exact g1
    have y1 : lcL z 23 (nI i).toNatClampNeg = lc_cv k w := by rw [hc]; exact p1
    have y3 : lcL z 24 (nI i).toNatClampNeg = lc_cv k' w' := by rw [hc]; exact p3
    have y4 : fY_numbersIn (lc_cv k w) (lcUI z 25 (nI i).toNatClampNeg (lc_sm z 25 2 k w + lc_sm z 25 2 k' w')) = some (lc_sm z 26 1 k w, za) := by rw [hc, ← es1, ← ea]; exact x3
    have y5 : fY_hasNumber (lc_cv k w) (lcUI za 26 (nI i).toNatClampNeg (lc_sm z 26 1 k w + lc_sm z 26 1 k' w')) = some (lc_h z k w, zb) := by rw [hc, ← es2, ← eb]; exact x5
    rw [fY_sumUpPairs_2, hP, if_neg (nI_ge hi (by omega)), lc_chk_pos hin, y1, y3, lc_let_eq, lc_chk_pos hin, lc_let_eq]
    rw [lc_bnd_eq x1, lc_bnd_eq x2, lc_chk_pos hin, lc_bnd_eq y4, lc_bnd_eq x4, lc_chk_pos hin, lc_bnd_eq y5]
    by_cases c1 : lc_h z k w = 0
    · rw [if_pos c1, lc_bnd_eq x6]
      by_cases c2 : lc_h z k' w' = 0
      · have hT : t = 0 := by rw [et, if_pos c1, if_pos c2]
        rw [if_pos c2, ← hT]; exact fin
      · have hT : t = 1 := by rw [et, if_pos c1, if_neg c2]
        rw [if_neg c2, fY_sumUpPairs_83, ← hT]; exact fin
    · have hT : t = 1 := by rw [et, if_neg c1]
      rw [if_neg c1, fY_sumUpPairs_83, ← hT]; exact fin
theorem lc_sum {g : Nat → Nat → Int64} {P : Nat} (hP1 : P ≤ 120) (z : lc_S) (hP : lcI z 20 10 = nI P) (hp : ∀ j, j < P → lc_pp g z j) : ∃ z', fY_sumUpPairs z = some ((), z') ∧ lc_on lc_C4 z z' ∧ ∀ j, j < P → lc_pg g z' j :=
  lc_sumL hP1 P 0 lc_FU z (by omega) (by unfold lc_FU; omega) hP hp (fun j hj => absurd hj (by omega))
