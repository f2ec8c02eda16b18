/-! finer frames: what a function may write, by cell and slot -/
def lc_fr (A : Nat → Nat → Bool) (z z' : lc_S) : Prop := ∀ c k, A c k = false → lcI z' c k = lcI z c k ∧ lcL z' c k = lcL z c k ∧ lcR z' c k = lcR z c k
theorem lc_fr.rf {A : Nat → Nat → Bool} {z : lc_S} : lc_fr A z z := fun _ _ _ => ⟨rfl, rfl, rfl⟩
theorem lc_fr.tr {A : Nat → Nat → Bool} {z z1 z2 : lc_S} (h : lc_fr A z z1) (g : lc_fr A z1 z2) : lc_fr A z z2 := fun c k hc => ⟨(g c k hc).1.trans (h c k hc).1, (g c k hc).2.1.trans (h c k hc).2.1, (g c k hc).2.2.trans (h c k hc).2.2⟩
theorem lc_fr_ne {A : Nat → Nat → Bool} {o j c k : Nat} (hb : A o j = true) (hc : A c k = false) : ¬ (c = o ∧ k = j) := fun q => by rw [q.1, q.2, hb] at hc; cases hc
theorem lc_fr.ui {A : Nat → Nat → Bool} {z z1 : lc_S} (h : lc_fr A z z1) {o j : Nat} {v : Int32} (hb : A o j = true) : lc_fr A z (lcUI z1 o j v) := fun c k hc => ⟨by rw [lcI_UI, if_neg (lc_fr_ne hb hc)]; exact (h c k hc).1, (h c k hc).2.1, (h c k hc).2.2⟩
theorem lc_fr.ul {A : Nat → Nat → Bool} {z z1 : lc_S} (h : lc_fr A z z1) {o j : Nat} {v : Int64} (hb : A o j = true) : lc_fr A z (lcUL z1 o j v) := fun c k hc => ⟨(h c k hc).1, by rw [lcL_UL, if_neg (lc_fr_ne hb hc)]; exact (h c k hc).2.1, (h c k hc).2.2⟩
theorem lc_fr.ur {A : Nat → Nat → Bool} {z z1 : lc_S} (h : lc_fr A z z1) {o j : Nat} {v : Option Nat} (hb : A o j = true) : lc_fr A z (lcUR z1 o j v) := fun c k hc => ⟨(h c k hc).1, (h c k hc).2.1, by rw [lcR_UR, if_neg (lc_fr_ne hb hc)]; exact (h c k hc).2.2⟩

def lc_a1 (c _k : Nat) : Bool := Nat.ble 19 c && Nat.ble c 34
set_option maxHeartbeats 1000000 in
theorem g1P_body {o0 : Nat} {z : lc_S} {r} {z' : lc_S} (hf : fP_body o0 z = some (r, z')) : lc_fr lc_a1 z z' := by
  rw [fP_body] at hf
  obtain ⟨hw1, hf⟩ := lc_chk_some hf
  cases hf
  exact lc_fr.rf

set_option maxHeartbeats 1000000 in
theorem g1Y_clear_2 : ∀ {n : Nat} {x1 : Int32} {z : lc_S} {r} {z' : lc_S}, fY_clear_2 n x1 z = some (r, z') → lc_fr lc_a1 z z' := by
  intro n
  induction n with
  | zero =>
    intro x1 z r z' hf
    cases (show none = some (r, z') from hf)
  | succ n ih =>
    intro x1 z r z' hf
    rw [fY_clear_2] at hf
    by_cases hc1 : 12 ≤ x1
    · replace hf := lc_ite_pos hc1 hf
      cases hf
      exact (((lc_fr.rf.ui rfl).ui rfl).ui rfl)
    · replace hf := lc_ite_neg hc1 hf
      obtain ⟨hw2, hf⟩ := lc_chk_some hf
      obtain ⟨x15, ex15⟩ : ∃ x, x = x1 + 1 := ⟨_, rfl⟩
      replace hf := lc_let_of ex15 hf
      exact (lc_fr.rf.ui rfl).tr (ih hf)

set_option maxHeartbeats 1000000 in
theorem g1Y_clear {z : lc_S} {r} {z' : lc_S} (hf : fY_clear z = some (r, z')) : lc_fr lc_a1 z z' := by
  rw [fY_clear] at hf
  exact lc_fr.rf.tr (g1Y_clear_2 hf)

set_option maxHeartbeats 1000000 in
theorem g1V_of {a0 : Int32} {a1 : Int32} {z : lc_S} {r} {z' : lc_S} (hf : fV_of a0 a1 z = some (r, z')) : lc_fr lc_a1 z z' := by
  rw [fV_of] at hf
  cases hf
  exact lc_fr.rf

set_option maxHeartbeats 1000000 in
theorem g1M_bind {a1 : Int32} {a2 : Int32} {z : lc_S} {r} {z' : lc_S} (hf : fM_bind a1 a2 z = some (r, z')) : lc_fr lc_a1 z z' := by
  rw [fM_bind] at hf
  obtain ⟨hw1, hf⟩ := lc_chk_some hf
  cases hf
  exact (lc_fr.rf.ul rfl)

set_option maxHeartbeats 1000000 in
theorem g1M_begin_20 {z : lc_S} {r} {z' : lc_S} (hf : fM_begin_20 z = some (r, z')) : lc_fr lc_a1 z z' := by
  rw [fM_begin_20] at hf
  cases hf
  exact (lc_fr.rf.ui rfl)

set_option maxHeartbeats 1000000 in
theorem g1M_begin {a1 : Int32} {a2 : Int32} {z : lc_S} {r} {z' : lc_S} (hf : fM_begin a1 a2 z = some (r, z')) : lc_fr lc_a1 z z' := by
  rw [fM_begin] at hf
  by_cases hc1 : 2000 ≤ (lcI z 19 2)
  · replace hf := lc_ite_pos hc1 hf
    exact lc_fr.rf.tr (g1M_begin_20 hf)
  · replace hf := lc_ite_neg hc1 hf
    by_cases hc2 : (lcI z 19 11) < 408
    · replace hf := lc_ite_pos hc2 hf
      obtain ⟨hw3, hf⟩ := lc_chk_some hf
      obtain ⟨hw4, hf⟩ := lc_chk_some hf
      obtain ⟨hw5, hf⟩ := lc_chk_some hf
      cases hf
      exact (((((lc_fr.rf.ui rfl).ui rfl).ui rfl).ui rfl).ui rfl)
    · replace hf := lc_ite_neg hc2 hf
      exact lc_fr.rf.tr (g1M_begin_20 hf)

set_option maxHeartbeats 1000000 in
theorem g1M_enter {a1 : Int32} {a2 : Int32} {z : lc_S} {r} {z' : lc_S} (hf : fM_enter a1 a2 z = some (r, z')) : lc_fr lc_a1 z z' := by
  rw [fM_enter] at hf
  obtain ⟨q1, hq1, hf⟩ := lc_bnr_some hf
  obtain ⟨hw1, hf⟩ := lc_chk_some hf
  obtain ⟨hw2, hf⟩ := lc_chk_some hf
  obtain ⟨q5, hq5, hf⟩ := lc_bnr_some hf
  obtain ⟨hw3, hf⟩ := lc_chk_some hf
  by_cases hc4 : (lcI z q5 0) = 0
  · replace hf := lc_ite_pos hc4 hf
    cases hf
    exact (lc_fr.rf.ui rfl)
  · replace hf := lc_ite_neg hc4 hf
    by_cases hc5 : a2 ≤ 24
    · replace hf := lc_ite_pos hc5 hf
      obtain ⟨q40, hq40, hf⟩ := lc_bnr_some hf
      obtain ⟨hw6, hf⟩ := lc_chk_some hf
      obtain ⟨hw7, hf⟩ := lc_chk_some hf
      obtain ⟨q44, hq44, hf⟩ := lc_bnr_some hf
      obtain ⟨hw8, hf⟩ := lc_chk_some hf
      obtain ⟨hw9, hf⟩ := lc_chk_some hf
      obtain ⟨r49, z49, hz49, hf⟩ := lc_bnd_some hf
      have gz49 : lc_fr lc_a1 z z49 := (lc_fr.rf.ur rfl).tr (g1M_bind hz49)
      obtain ⟨q54, hq54, hf⟩ := lc_bnr_some hf
      obtain ⟨hw10, hf⟩ := lc_chk_some hf
      obtain ⟨hw11, hf⟩ := lc_chk_some hf
      obtain ⟨q58, hq58, hf⟩ := lc_bnr_some hf
      obtain ⟨hw12, hf⟩ := lc_chk_some hf
      obtain ⟨r59, z59, hz59, hf⟩ := lc_bnd_some hf
      have gz59 : lc_fr lc_a1 z z59 := gz49.tr (g1P_body hz59)
      obtain ⟨r63, z63, hz63, hf⟩ := lc_bnd_some hf
      have gz63 : lc_fr lc_a1 z z63 := gz59.tr (g1M_begin hz63)
      cases hf
      exact gz63
    · replace hf := lc_ite_neg hc5 hf
      cases hf
      exact (lc_fr.rf.ui rfl)

set_option maxHeartbeats 1000000 in
theorem g1M_end {a1 : Int64} {z : lc_S} {r} {z' : lc_S} (hf : fM_end a1 z = some (r, z')) : lc_fr lc_a1 z z' := by
  rw [fM_end] at hf
  cases hf
  exact ((lc_fr.rf.ul rfl).ui rfl)

set_option maxHeartbeats 1000000 in
theorem g1V_wordOf {a0 : Int64} {z : lc_S} {r} {z' : lc_S} (hf : fV_wordOf a0 z = some (r, z')) : lc_fr lc_a1 z z' := by
  rw [fV_wordOf] at hf
  cases hf
  exact lc_fr.rf

set_option maxHeartbeats 1000000 in
theorem g1V_isPair {a0 : Int64} {z : lc_S} {r} {z' : lc_S} (hf : fV_isPair a0 z = some (r, z')) : lc_fr lc_a1 z z' := by
  rw [fV_isPair] at hf
  by_cases hc1 : (lg_cmp (a0 >>> ((32 : Int32).toInt64 &&& 63)) 3) = 0
  · replace hf := lc_ite_pos hc1 hf
    cases hf
    exact lc_fr.rf
  · replace hf := lc_ite_neg hc1 hf
    cases hf
    exact lc_fr.rf

set_option maxHeartbeats 1000000 in
theorem g1Y_isMade_16 {z : lc_S} {r} {z' : lc_S} (hf : fY_isMade_16 z = some (r, z')) : lc_fr lc_a1 z z' := by
  rw [fY_isMade_16] at hf
  cases hf
  exact lc_fr.rf

set_option maxHeartbeats 1000000 in
theorem g1Y_isMade {a1 : Int32} {z : lc_S} {r} {z' : lc_S} (hf : fY_isMade a1 z = some (r, z')) : lc_fr lc_a1 z z' := by
  rw [fY_isMade] at hf
  by_cases hc1 : a1 < 0
  · replace hf := lc_ite_pos hc1 hf
    exact lc_fr.rf.tr (g1Y_isMade_16 hf)
  · replace hf := lc_ite_neg hc1 hf
    by_cases hc2 : (lcI z 20 10) ≤ a1
    · replace hf := lc_ite_pos hc2 hf
      exact lc_fr.rf.tr (g1Y_isMade_16 hf)
    · replace hf := lc_ite_neg hc2 hf
      cases hf
      exact lc_fr.rf

set_option maxHeartbeats 1000000 in
theorem g1Y_partOf_26 {x1 : Int64} {z : lc_S} {r} {z' : lc_S} (hf : fY_partOf_26 x1 z = some (r, z')) : lc_fr lc_a1 z z' := by
  rw [fY_partOf_26] at hf
  cases hf
  exact lc_fr.rf

set_option maxHeartbeats 1000000 in
theorem g1Y_partOf {a1 : Int64} {a3 : Int32} {z : lc_S} {r} {z' : lc_S} (hf : fY_partOf a1 a3 z = some (r, z')) : lc_fr lc_a1 z z' := by
  rw [fY_partOf] at hf
  obtain ⟨r1, z1, hz1, hf⟩ := lc_bnd_some hf
  have gz1 : lc_fr lc_a1 z z1 := lc_fr.rf.tr (g1V_wordOf hz1)
  by_cases hc1 : a3 = 0
  · replace hf := lc_ite_pos hc1 hf
    exact gz1.tr (g1Y_partOf_26 hf)
  · replace hf := lc_ite_neg hc1 hf
    obtain ⟨r11, z11, hz11, hf⟩ := lc_bnd_some hf
    have gz11 : lc_fr lc_a1 z z11 := gz1.tr (g1V_isPair hz11)
    by_cases hc2 : r11 = 0
    · replace hf := lc_ite_pos hc2 hf
      exact gz11.tr (g1Y_partOf_26 hf)
    · replace hf := lc_ite_neg hc2 hf
      obtain ⟨r20, z20, hz20, hf⟩ := lc_bnd_some hf
      have gz20 : lc_fr lc_a1 z z20 := gz11.tr (g1Y_isMade hz20)
      by_cases hc3 : r20 = 0
      · replace hf := lc_ite_pos hc3 hf
        exact gz20.tr (g1Y_partOf_26 hf)
      · replace hf := lc_ite_neg hc3 hf
        by_cases hc4 : a3 = 1
        · replace hf := lc_ite_pos hc4 hf
          obtain ⟨hw5, hf⟩ := lc_chk_some hf
          cases hf
          exact gz20
        · replace hf := lc_ite_neg hc4 hf
          obtain ⟨hw6, hf⟩ := lc_chk_some hf
          cases hf
          exact gz20

set_option maxHeartbeats 1000000 in
theorem g1M_valueOfVariable {a1 : Int32} {a2 : Int32} {z : lc_S} {r} {z' : lc_S} (hf : fM_valueOfVariable a1 a2 z = some (r, z')) : lc_fr lc_a1 z z' := by
  rw [fM_valueOfVariable] at hf
  obtain ⟨hw1, hf⟩ := lc_chk_some hf
  obtain ⟨q5, hq5, hf⟩ := lc_bnr_some hf
  obtain ⟨hw2, hf⟩ := lc_chk_some hf
  obtain ⟨hw3, hf⟩ := lc_chk_some hf
  obtain ⟨hw4, hf⟩ := lc_chk_some hf
  obtain ⟨x23, ex23⟩ : ∃ x, x = lcL z 30 ((a2 * 24) + (lcI z (q5 + 7) a1.toNatClampNeg)).toNatClampNeg := ⟨_, rfl⟩
  replace hf := lc_let_of ex23 hf
  obtain ⟨hw5, hf⟩ := lc_chk_some hf
  obtain ⟨r37, z37, hz37, hf⟩ := lc_bnd_some hf
  have gz37 : lc_fr lc_a1 z z37 := lc_fr.rf.tr (g1Y_partOf hz37)
  cases hf
  exact gz37

set_option maxHeartbeats 1000000 in
theorem g1V_isNumber {a0 : Int64} {z : lc_S} {r} {z' : lc_S} (hf : fV_isNumber a0 z = some (r, z')) : lc_fr lc_a1 z z' := by
  rw [fV_isNumber] at hf
  by_cases hc1 : (lg_cmp (a0 >>> ((32 : Int32).toInt64 &&& 63)) 1) = 0
  · replace hf := lc_ite_pos hc1 hf
    cases hf
    exact lc_fr.rf
  · replace hf := lc_ite_neg hc1 hf
    cases hf
    exact lc_fr.rf

set_option maxHeartbeats 1000000 in
theorem g1M_choose {a1 : Int32} {a2 : Int32} {z : lc_S} {r} {z' : lc_S} (hf : fM_choose a1 a2 z = some (r, z')) : lc_fr lc_a1 z z' := by
  rw [fM_choose] at hf
  obtain ⟨r4, z4, hz4, hf⟩ := lc_bnd_some hf
  have gz4 : lc_fr lc_a1 z z4 := lc_fr.rf.tr (g1V_isNumber hz4)
  by_cases hc1 : r4 = 0
  · replace hf := lc_ite_pos hc1 hf
    cases hf
    exact (gz4.ui rfl)
  · replace hf := lc_ite_neg hc1 hf
    obtain ⟨r22, z22, hz22, hf⟩ := lc_bnd_some hf
    have gz22 : lc_fr lc_a1 z z22 := gz4.tr (g1V_wordOf hz22)
    by_cases hc2 : r22 = 0
    · replace hf := lc_ite_pos hc2 hf
      obtain ⟨hw3, hf⟩ := lc_chk_some hf
      obtain ⟨q53, hq53, hf⟩ := lc_bnr_some hf
      obtain ⟨hw4, hf⟩ := lc_chk_some hf
      obtain ⟨hw5, hf⟩ := lc_chk_some hf
      obtain ⟨r60, z60, hz60, hf⟩ := lc_bnd_some hf
      have gz60 : lc_fr lc_a1 z z60 := gz22.tr (g1M_begin hz60)
      cases hf
      exact gz60
    · replace hf := lc_ite_neg hc2 hf
      obtain ⟨hw6, hf⟩ := lc_chk_some hf
      obtain ⟨q34, hq34, hf⟩ := lc_bnr_some hf
      obtain ⟨hw7, hf⟩ := lc_chk_some hf
      obtain ⟨hw8, hf⟩ := lc_chk_some hf
      obtain ⟨r41, z41, hz41, hf⟩ := lc_bnd_some hf
      have gz41 : lc_fr lc_a1 z z41 := gz22.tr (g1M_begin hz41)
      cases hf
      exact gz41

set_option maxHeartbeats 1000000 in
theorem g1M_split {a1 : Int32} {a2 : Int32} {z : lc_S} {r} {z' : lc_S} (hf : fM_split a1 a2 z = some (r, z')) : lc_fr lc_a1 z z' := by
  rw [fM_split] at hf
  obtain ⟨r4, z4, hz4, hf⟩ := lc_bnd_some hf
  have gz4 : lc_fr lc_a1 z z4 := lc_fr.rf.tr (g1V_isPair hz4)
  by_cases hc1 : r4 = 0
  · replace hf := lc_ite_pos hc1 hf
    cases hf
    exact (gz4.ui rfl)
  · replace hf := lc_ite_neg hc1 hf
    obtain ⟨hw2, hf⟩ := lc_chk_some hf
    obtain ⟨q25, hq25, hf⟩ := lc_bnr_some hf
    obtain ⟨hw3, hf⟩ := lc_chk_some hf
    obtain ⟨hw4, hf⟩ := lc_chk_some hf
    obtain ⟨r31, z31, hz31, hf⟩ := lc_bnd_some hf
    have gz31 : lc_fr lc_a1 z z31 := gz4.tr (g1M_bind hz31)
    obtain ⟨hw5, hf⟩ := lc_chk_some hf
    obtain ⟨q40, hq40, hf⟩ := lc_bnr_some hf
    obtain ⟨hw6, hf⟩ := lc_chk_some hf
    obtain ⟨hw7, hf⟩ := lc_chk_some hf
    obtain ⟨r47, z47, hz47, hf⟩ := lc_bnd_some hf
    have gz47 : lc_fr lc_a1 z z47 := gz31.tr (g1M_begin hz47)
    cases hf
    exact gz47

set_option maxHeartbeats 1000000 in
theorem g1M_goOn {a1 : Int32} {a2 : Int32} {z : lc_S} {r} {z' : lc_S} (hf : fM_goOn a1 a2 z = some (r, z')) : lc_fr lc_a1 z z' := by
  rw [fM_goOn] at hf
  obtain ⟨hw1, hf⟩ := lc_chk_some hf
  obtain ⟨q5, hq5, hf⟩ := lc_bnr_some hf
  obtain ⟨hw2, hf⟩ := lc_chk_some hf
  obtain ⟨hw3, hf⟩ := lc_chk_some hf
  by_cases hc4 : (lcI z (q5 + 2) a1.toNatClampNeg) = 47
  · replace hf := lc_ite_pos hc4 hf
    obtain ⟨r84, z84, hz84, hf⟩ := lc_bnd_some hf
    have gz84 : lc_fr lc_a1 z z84 := lc_fr.rf.tr (g1M_split hz84)
    cases hf
    exact gz84
  · replace hf := lc_ite_neg hc4 hf
    by_cases hc5 : (lcI z (q5 + 2) a1.toNatClampNeg) = 58
    · replace hf := lc_ite_pos hc5 hf
      obtain ⟨hw6, hf⟩ := lc_chk_some hf
      obtain ⟨r98, z98, hz98, hf⟩ := lc_bnd_some hf
      have gz98 : lc_fr lc_a1 z z98 := lc_fr.rf.tr (g1M_bind hz98)
      obtain ⟨hw7, hf⟩ := lc_chk_some hf
      obtain ⟨r109, z109, hz109, hf⟩ := lc_bnd_some hf
      have gz109 : lc_fr lc_a1 z z109 := gz98.tr (g1M_begin hz109)
      cases hf
      exact gz109
    · replace hf := lc_ite_neg hc5 hf
      by_cases hc8 : (lcI z (q5 + 2) a1.toNatClampNeg) = 63
      · replace hf := lc_ite_pos hc8 hf
        obtain ⟨r75, z75, hz75, hf⟩ := lc_bnd_some hf
        have gz75 : lc_fr lc_a1 z z75 := lc_fr.rf.tr (g1M_choose hz75)
        cases hf
        exact gz75
      · replace hf := lc_ite_neg hc8 hf
        by_cases hc9 : (lcI z (q5 + 2) a1.toNatClampNeg) = 64
        · replace hf := lc_ite_pos hc9 hf
          obtain ⟨hw10, hf⟩ := lc_chk_some hf
          obtain ⟨r66, z66, hz66, hf⟩ := lc_bnd_some hf
          have gz66 : lc_fr lc_a1 z z66 := lc_fr.rf.tr (g1M_enter hz66)
          cases hf
          exact gz66
        · replace hf := lc_ite_neg hc9 hf
          obtain ⟨hw11, hf⟩ := lc_chk_some hf
          obtain ⟨hw12, hf⟩ := lc_chk_some hf
          obtain ⟨r138, z138, hz138, hf⟩ := lc_bnd_some hf
          have gz138 : lc_fr lc_a1 z z138 := (lc_fr.rf.ul rfl).tr (g1M_begin hz138)
          cases hf
          exact gz138

set_option maxHeartbeats 1000000 in
theorem g1Y_takePlace_2 : ∀ {n : Nat} {x1 : Int32} {x2 : Int32} {z : lc_S} {r} {z' : lc_S}, fY_takePlace_2 n x1 x2 z = some (r, z') → lc_fr lc_a1 z z' := by
  intro n
  induction n with
  | zero =>
    intro x1 x2 z r z' hf
    cases (show none = some (r, z') from hf)
  | succ n ih =>
    intro x1 x2 z r z' hf
    rw [fY_takePlace_2] at hf
    by_cases hc1 : 12 ≤ x2
    · replace hf := lc_ite_pos hc1 hf
      cases hf
      exact lc_fr.rf
    · replace hf := lc_ite_neg hc1 hf
      obtain ⟨hw2, hf⟩ := lc_chk_some hf
      by_cases hc3 : (lcI z 21 x2.toNatClampNeg) = 0
      · replace hf := lc_ite_pos hc3 hf
        obtain ⟨hw4, hf⟩ := lc_chk_some hf
        obtain ⟨hw5, hf⟩ := lc_chk_some hf
        cases hf
        exact (((lc_fr.rf.ui rfl).ui rfl).ui rfl)
      · replace hf := lc_ite_neg hc3 hf
        obtain ⟨x43, ex43⟩ : ∃ x, x = x2 + 1 := ⟨_, rfl⟩
        replace hf := lc_let_of ex43 hf
        exact lc_fr.rf.tr (ih hf)

set_option maxHeartbeats 1000000 in
theorem g1Y_takePlace {a1 : Int32} {z : lc_S} {r} {z' : lc_S} (hf : fY_takePlace a1 z = some (r, z')) : lc_fr lc_a1 z z' := by
  rw [fY_takePlace] at hf
  exact lc_fr.rf.tr (g1Y_takePlace_2 hf)

set_option maxHeartbeats 1000000 in
theorem g1M_makeCell {a1 : Int64} {z : lc_S} {r} {z' : lc_S} (hf : fM_makeCell a1 z = some (r, z')) : lc_fr lc_a1 z z' := by
  rw [fM_makeCell] at hf
  obtain ⟨r1, z1, hz1, hf⟩ := lc_bnd_some hf
  have gz1 : lc_fr lc_a1 z z1 := lc_fr.rf.tr (g1V_isNumber hz1)
  by_cases hc1 : r1 = 0
  · replace hf := lc_ite_pos hc1 hf
    cases hf
    exact (gz1.ui rfl)
  · replace hf := lc_ite_neg hc1 hf
    obtain ⟨r18, z18, hz18, hf⟩ := lc_bnd_some hf
    have gz18 : lc_fr lc_a1 z z18 := gz1.tr (g1V_wordOf hz18)
    obtain ⟨r21, z21, hz21, hf⟩ := lc_bnd_some hf
    have gz21 : lc_fr lc_a1 z z21 := gz18.tr (g1Y_takePlace hz21)
    by_cases hc2 : r21 = (-1)
    · replace hf := lc_ite_pos hc2 hf
      cases hf
      exact (gz21.ui rfl)
    · replace hf := lc_ite_neg hc2 hf
      obtain ⟨r41, z41, hz41, hf⟩ := lc_bnd_some hf
      have gz41 : lc_fr lc_a1 z z41 := gz21.tr (g1V_of hz41)
      obtain ⟨r44, z44, hz44, hf⟩ := lc_bnd_some hf
      have gz44 : lc_fr lc_a1 z z44 := gz41.tr (g1M_end hz44)
      cases hf
      exact gz44

set_option maxHeartbeats 1000000 in
theorem g1V_isCell {a0 : Int64} {z : lc_S} {r} {z' : lc_S} (hf : fV_isCell a0 z = some (r, z')) : lc_fr lc_a1 z z' := by
  rw [fV_isCell] at hf
  by_cases hc1 : (lg_cmp (a0 >>> ((32 : Int32).toInt64 &&& 63)) 2) = 0
  · replace hf := lc_ite_pos hc1 hf
    cases hf
    exact lc_fr.rf
  · replace hf := lc_ite_neg hc1 hf
    cases hf
    exact lc_fr.rf

set_option maxHeartbeats 1000000 in
theorem g1Y_isFree_19 {z : lc_S} {r} {z' : lc_S} (hf : fY_isFree_19 z = some (r, z')) : lc_fr lc_a1 z z' := by
  rw [fY_isFree_19] at hf
  cases hf
  exact lc_fr.rf

set_option maxHeartbeats 1000000 in
theorem g1Y_isFree {a1 : Int32} {z : lc_S} {r} {z' : lc_S} (hf : fY_isFree a1 z = some (r, z')) : lc_fr lc_a1 z z' := by
  rw [fY_isFree] at hf
  by_cases hc1 : a1 < 0
  · replace hf := lc_ite_pos hc1 hf
    exact lc_fr.rf.tr (g1Y_isFree_19 hf)
  · replace hf := lc_ite_neg hc1 hf
    by_cases hc2 : 12 ≤ a1
    · replace hf := lc_ite_pos hc2 hf
      exact lc_fr.rf.tr (g1Y_isFree_19 hf)
    · replace hf := lc_ite_neg hc2 hf
      obtain ⟨hw3, hf⟩ := lc_chk_some hf
      by_cases hc4 : (lcI z 21 a1.toNatClampNeg) = 0
      · replace hf := lc_ite_pos hc4 hf
        exact lc_fr.rf.tr (g1Y_isFree_19 hf)
      · replace hf := lc_ite_neg hc4 hf
        cases hf
        exact lc_fr.rf

set_option maxHeartbeats 1000000 in
theorem g1M_isLivingCell_34 {z : lc_S} {r} {z' : lc_S} (hf : fM_isLivingCell_34 z = some (r, z')) : lc_fr lc_a1 z z' := by
  rw [fM_isLivingCell_34] at hf
  by_cases hc1 : (lcI z 19 3) = 0
  · replace hf := lc_ite_pos hc1 hf
    cases hf
    exact lc_fr.rf
  · replace hf := lc_ite_neg hc1 hf
    cases hf
    exact lc_fr.rf

set_option maxHeartbeats 1000000 in
theorem g1M_isLivingCell {a1 : Int64} {z : lc_S} {r} {z' : lc_S} (hf : fM_isLivingCell a1 z = some (r, z')) : lc_fr lc_a1 z z' := by
  rw [fM_isLivingCell] at hf
  obtain ⟨r1, z1, hz1, hf⟩ := lc_bnd_some hf
  have gz1 : lc_fr lc_a1 z z1 := lc_fr.rf.tr (g1V_isCell hz1)
  by_cases hc1 : r1 = 0
  · replace hf := lc_ite_pos hc1 hf
    exact (gz1.ui rfl).tr (g1M_isLivingCell_34 hf)
  · replace hf := lc_ite_neg hc1 hf
    obtain ⟨r20, z20, hz20, hf⟩ := lc_bnd_some hf
    have gz20 : lc_fr lc_a1 z z20 := gz1.tr (g1V_wordOf hz20)
    obtain ⟨r23, z23, hz23, hf⟩ := lc_bnd_some hf
    have gz23 : lc_fr lc_a1 z z23 := gz20.tr (g1Y_isFree hz23)
    by_cases hc2 : r23 = 0
    · replace hf := lc_ite_pos hc2 hf
      exact gz23.tr (g1M_isLivingCell_34 hf)
    · replace hf := lc_ite_neg hc2 hf
      exact (gz23.ui rfl).tr (g1M_isLivingCell_34 hf)

set_option maxHeartbeats 1000000 in
theorem g1Y_numberAt {a1 : Int32} {z : lc_S} {r} {z' : lc_S} (hf : fY_numberAt a1 z = some (r, z')) : lc_fr lc_a1 z z' := by
  rw [fY_numberAt] at hf
  obtain ⟨r2, z2, hz2, hf⟩ := lc_bnd_some hf
  have gz2 : lc_fr lc_a1 z z2 := lc_fr.rf.tr (g1Y_isFree hz2)
  by_cases hc1 : r2 = 0
  · replace hf := lc_ite_pos hc1 hf
    obtain ⟨hw2, hf⟩ := lc_chk_some hf
    cases hf
    exact gz2
  · replace hf := lc_ite_neg hc1 hf
    cases hf
    exact gz2

set_option maxHeartbeats 1000000 in
theorem g1Y_addPair {a1 : Int64} {a3 : Int64} {z : lc_S} {r} {z' : lc_S} (hf : fY_addPair a1 a3 z = some (r, z')) : lc_fr lc_a1 z z' := by
  rw [fY_addPair] at hf
  by_cases hc1 : (lcI z 20 10) < 120
  · replace hf := lc_ite_pos hc1 hf
    obtain ⟨hw2, hf⟩ := lc_chk_some hf
    obtain ⟨hw3, hf⟩ := lc_chk_some hf
    cases hf
    exact (((lc_fr.rf.ul rfl).ul rfl).ui rfl)
  · replace hf := lc_ite_neg hc1 hf
    cases hf
    exact lc_fr.rf

set_option maxHeartbeats 1000000 in
theorem g1Y_pairsMade {z : lc_S} {r} {z' : lc_S} (hf : fY_pairsMade z = some (r, z')) : lc_fr lc_a1 z z' := by
  rw [fY_pairsMade] at hf
  cases hf
  exact lc_fr.rf

set_option maxHeartbeats 1000000 in
theorem g1M_makePair {a1 : Int64} {a3 : Int64} {z : lc_S} {r} {z' : lc_S} (hf : fM_makePair a1 a3 z = some (r, z')) : lc_fr lc_a1 z z' := by
  rw [fM_makePair] at hf
  obtain ⟨r6, z6, hz6, hf⟩ := lc_bnd_some hf
  have gz6 : lc_fr lc_a1 z z6 := lc_fr.rf.tr (g1Y_addPair hz6)
  by_cases hc1 : r6 = 0
  · replace hf := lc_ite_pos hc1 hf
    cases hf
    exact (gz6.ui rfl)
  · replace hf := lc_ite_neg hc1 hf
    obtain ⟨r18, z18, hz18, hf⟩ := lc_bnd_some hf
    have gz18 : lc_fr lc_a1 z z18 := gz6.tr (g1Y_pairsMade hz18)
    obtain ⟨r23, z23, hz23, hf⟩ := lc_bnd_some hf
    have gz23 : lc_fr lc_a1 z z23 := gz18.tr (g1V_of hz23)
    obtain ⟨r26, z26, hz26, hf⟩ := lc_bnd_some hf
    have gz26 : lc_fr lc_a1 z z26 := gz23.tr (g1M_end hz26)
    cases hf
    exact gz26

set_option maxHeartbeats 1000000 in
theorem g1M_getNumber {a1 : Int64} {z : lc_S} {r} {z' : lc_S} (hf : fM_getNumber a1 z = some (r, z')) : lc_fr lc_a1 z z' := by
  rw [fM_getNumber] at hf
  obtain ⟨r2, z2, hz2, hf⟩ := lc_bnd_some hf
  have gz2 : lc_fr lc_a1 z z2 := lc_fr.rf.tr (g1M_isLivingCell hz2)
  by_cases hc1 : r2 = 0
  · replace hf := lc_ite_pos hc1 hf
    cases hf
    exact gz2
  · replace hf := lc_ite_neg hc1 hf
    obtain ⟨r13, z13, hz13, hf⟩ := lc_bnd_some hf
    have gz13 : lc_fr lc_a1 z z13 := gz2.tr (g1V_wordOf hz13)
    obtain ⟨r16, z16, hz16, hf⟩ := lc_bnd_some hf
    have gz16 : lc_fr lc_a1 z z16 := gz13.tr (g1Y_numberAt hz16)
    obtain ⟨r23, z23, hz23, hf⟩ := lc_bnd_some hf
    have gz23 : lc_fr lc_a1 z z23 := gz16.tr (g1V_of hz23)
    obtain ⟨r27, z27, hz27, hf⟩ := lc_bnd_some hf
    have gz27 : lc_fr lc_a1 z z27 := gz23.tr (g1M_makePair hz27)
    cases hf
    exact gz27

set_option maxHeartbeats 1000000 in
theorem g1Y_freePlace {a1 : Int32} {z : lc_S} {r} {z' : lc_S} (hf : fY_freePlace a1 z = some (r, z')) : lc_fr lc_a1 z z' := by
  rw [fY_freePlace] at hf
  obtain ⟨r2, z2, hz2, hf⟩ := lc_bnd_some hf
  have gz2 : lc_fr lc_a1 z z2 := lc_fr.rf.tr (g1Y_isFree hz2)
  by_cases hc1 : r2 = 0
  · replace hf := lc_ite_pos hc1 hf
    obtain ⟨hw2, hf⟩ := lc_chk_some hf
    cases hf
    exact ((gz2.ui rfl).ui rfl)
  · replace hf := lc_ite_neg hc1 hf
    cases hf
    exact gz2

set_option maxHeartbeats 1000000 in
theorem g1M_freeCell {a1 : Int64} {z : lc_S} {r} {z' : lc_S} (hf : fM_freeCell a1 z = some (r, z')) : lc_fr lc_a1 z z' := by
  rw [fM_freeCell] at hf
  obtain ⟨r2, z2, hz2, hf⟩ := lc_bnd_some hf
  have gz2 : lc_fr lc_a1 z z2 := lc_fr.rf.tr (g1M_isLivingCell hz2)
  by_cases hc1 : r2 = 0
  · replace hf := lc_ite_pos hc1 hf
    cases hf
    exact gz2
  · replace hf := lc_ite_neg hc1 hf
    obtain ⟨r13, z13, hz13, hf⟩ := lc_bnd_some hf
    have gz13 : lc_fr lc_a1 z z13 := gz2.tr (g1V_wordOf hz13)
    obtain ⟨r16, z16, hz16, hf⟩ := lc_bnd_some hf
    have gz16 : lc_fr lc_a1 z z16 := gz13.tr (g1Y_numberAt hz16)
    obtain ⟨r25, z25, hz25, hf⟩ := lc_bnd_some hf
    have gz25 : lc_fr lc_a1 z z25 := gz16.tr (g1V_wordOf hz25)
    obtain ⟨r28, z28, hz28, hf⟩ := lc_bnd_some hf
    have gz28 : lc_fr lc_a1 z z28 := gz25.tr (g1Y_freePlace hz28)
    obtain ⟨r34, z34, hz34, hf⟩ := lc_bnd_some hf
    have gz34 : lc_fr lc_a1 z z34 := gz28.tr (g1V_of hz34)
    obtain ⟨r37, z37, hz37, hf⟩ := lc_bnd_some hf
    have gz37 : lc_fr lc_a1 z z37 := gz34.tr (g1M_end hz37)
    cases hf
    exact gz37

set_option maxHeartbeats 1000000 in
theorem g1Y_putNumber {a1 : Int32} {a2 : Int32} {z : lc_S} {r} {z' : lc_S} (hf : fY_putNumber a1 a2 z = some (r, z')) : lc_fr lc_a1 z z' := by
  rw [fY_putNumber] at hf
  obtain ⟨r2, z2, hz2, hf⟩ := lc_bnd_some hf
  have gz2 : lc_fr lc_a1 z z2 := lc_fr.rf.tr (g1Y_isFree hz2)
  by_cases hc1 : r2 = 0
  · replace hf := lc_ite_pos hc1 hf
    obtain ⟨hw2, hf⟩ := lc_chk_some hf
    cases hf
    exact (gz2.ui rfl)
  · replace hf := lc_ite_neg hc1 hf
    cases hf
    exact gz2

set_option maxHeartbeats 1000000 in
theorem g1M_putNumber {a1 : Int64} {a3 : Int64} {z : lc_S} {r} {z' : lc_S} (hf : fM_putNumber a1 a3 z = some (r, z')) : lc_fr lc_a1 z z' := by
  rw [fM_putNumber] at hf
  obtain ⟨r1, z1, hz1, hf⟩ := lc_bnd_some hf
  have gz1 : lc_fr lc_a1 z z1 := lc_fr.rf.tr (g1V_isNumber hz1)
  by_cases hc1 : r1 = 0
  · replace hf := lc_ite_pos hc1 hf
    cases hf
    exact (gz1.ui rfl)
  · replace hf := lc_ite_neg hc1 hf
    obtain ⟨r17, z17, hz17, hf⟩ := lc_bnd_some hf
    have gz17 : lc_fr lc_a1 z z17 := gz1.tr (g1M_isLivingCell hz17)
    by_cases hc2 : r17 = 0
    · replace hf := lc_ite_pos hc2 hf
      cases hf
      exact gz17
    · replace hf := lc_ite_neg hc2 hf
      obtain ⟨r28, z28, hz28, hf⟩ := lc_bnd_some hf
      have gz28 : lc_fr lc_a1 z z28 := gz17.tr (g1V_wordOf hz28)
      obtain ⟨r32, z32, hz32, hf⟩ := lc_bnd_some hf
      have gz32 : lc_fr lc_a1 z z32 := gz28.tr (g1V_wordOf hz32)
      obtain ⟨r35, z35, hz35, hf⟩ := lc_bnd_some hf
      have gz35 : lc_fr lc_a1 z z35 := gz32.tr (g1Y_putNumber hz35)
      obtain ⟨r40, z40, hz40, hf⟩ := lc_bnd_some hf
      have gz40 : lc_fr lc_a1 z z40 := gz35.tr (g1M_end hz40)
      cases hf
      exact gz40

set_option maxHeartbeats 1000000 in
theorem g1M_numberOf_44 {x1 : Int32} {x2 : Int32} {z : lc_S} {r} {z' : lc_S} (hf : fM_numberOf_44 x1 x2 z = some (r, z')) : lc_fr lc_a1 z z' := by
  rw [fM_numberOf_44] at hf
  by_cases hc1 : x2 ≤ x1
  · replace hf := lc_ite_pos hc1 hf
    cases hf
    exact lc_fr.rf
  · replace hf := lc_ite_neg hc1 hf
    cases hf
    exact lc_fr.rf

set_option maxHeartbeats 1000000 in
theorem g1M_numberOf {a0 : Int32} {a1 : Int32} {a2 : Int32} {z : lc_S} {r} {z' : lc_S} (hf : fM_numberOf a0 a1 a2 z = some (r, z')) : lc_fr lc_a1 z z' := by
  rw [fM_numberOf] at hf
  by_cases hc1 : a0 = 42
  · replace hf := lc_ite_pos hc1 hf
    cases hf
    exact lc_fr.rf
  · replace hf := lc_ite_neg hc1 hf
    by_cases hc2 : a0 = 43
    · replace hf := lc_ite_pos hc2 hf
      cases hf
      exact lc_fr.rf
    · replace hf := lc_ite_neg hc2 hf
      by_cases hc3 : a0 = 44
      · replace hf := lc_ite_pos hc3 hf
        exact lc_fr.rf.tr (g1M_numberOf_44 hf)
      · replace hf := lc_ite_neg hc3 hf
        by_cases hc4 : a0 = 45
        · replace hf := lc_ite_pos hc4 hf
          cases hf
          exact lc_fr.rf
        · replace hf := lc_ite_neg hc4 hf
          exact lc_fr.rf.tr (g1M_numberOf_44 hf)

set_option maxHeartbeats 1000000 in
theorem g1M_calculate_15 {z : lc_S} {r} {z' : lc_S} (hf : fM_calculate_15 z = some (r, z')) : lc_fr lc_a1 z z' := by
  rw [fM_calculate_15] at hf
  cases hf
  exact (lc_fr.rf.ui rfl)

set_option maxHeartbeats 1000000 in
theorem g1M_calculate {a1 : Int32} {a2 : Int64} {a4 : Int64} {z : lc_S} {r} {z' : lc_S} (hf : fM_calculate a1 a2 a4 z = some (r, z')) : lc_fr lc_a1 z z' := by
  rw [fM_calculate] at hf
  obtain ⟨r1, z1, hz1, hf⟩ := lc_bnd_some hf
  have gz1 : lc_fr lc_a1 z z1 := lc_fr.rf.tr (g1V_isNumber hz1)
  by_cases hc1 : r1 = 0
  · replace hf := lc_ite_pos hc1 hf
    exact gz1.tr (g1M_calculate_15 hf)
  · replace hf := lc_ite_neg hc1 hf
    obtain ⟨r9, z9, hz9, hf⟩ := lc_bnd_some hf
    have gz9 : lc_fr lc_a1 z z9 := gz1.tr (g1V_isNumber hz9)
    by_cases hc2 : r9 = 0
    · replace hf := lc_ite_pos hc2 hf
      exact gz9.tr (g1M_calculate_15 hf)
    · replace hf := lc_ite_neg hc2 hf
      obtain ⟨r23, z23, hz23, hf⟩ := lc_bnd_some hf
      have gz23 : lc_fr lc_a1 z z23 := gz9.tr (g1V_wordOf hz23)
      obtain ⟨r28, z28, hz28, hf⟩ := lc_bnd_some hf
      have gz28 : lc_fr lc_a1 z z28 := gz23.tr (g1V_wordOf hz28)
      obtain ⟨r31, z31, hz31, hf⟩ := lc_bnd_some hf
      have gz31 : lc_fr lc_a1 z z31 := gz28.tr (g1M_numberOf hz31)
      obtain ⟨r40, z40, hz40, hf⟩ := lc_bnd_some hf
      have gz40 : lc_fr lc_a1 z z40 := gz31.tr (g1V_of hz40)
      obtain ⟨r43, z43, hz43, hf⟩ := lc_bnd_some hf
      have gz43 : lc_fr lc_a1 z z43 := gz40.tr (g1M_end hz43)
      cases hf
      exact gz43

set_option maxHeartbeats 1000000 in
theorem g1M_finish_84 {x4 : Int64} {z : lc_S} {r} {z' : lc_S} (hf : fM_finish_84 x4 z = some (r, z')) : lc_fr lc_a1 z z' := by
  rw [fM_finish_84] at hf
  obtain ⟨r87, z87, hz87, hf⟩ := lc_bnd_some hf
  have gz87 : lc_fr lc_a1 z z87 := lc_fr.rf.tr (g1M_end hz87)
  cases hf
  exact gz87

set_option maxHeartbeats 1000000 in
theorem g1M_finish {a1 : Int32} {a2 : Int64} {a4 : Int64} {z : lc_S} {r} {z' : lc_S} (hf : fM_finish a1 a2 a4 z = some (r, z')) : lc_fr lc_a1 z z' := by
  rw [fM_finish] at hf
  by_cases hc1 : a1 = 44
  · replace hf := lc_ite_pos hc1 hf
    obtain ⟨r134, z134, hz134, hf⟩ := lc_bnd_some hf
    have gz134 : lc_fr lc_a1 z z134 := lc_fr.rf.tr (g1M_makePair hz134)
    cases hf
    exact gz134
  · replace hf := lc_ite_neg hc1 hf
    by_cases hc2 : a1 = 47
    · replace hf := lc_ite_pos hc2 hf
      exact lc_fr.rf.tr (g1M_finish_84 hf)
    · replace hf := lc_ite_neg hc2 hf
      by_cases hc3 : a1 = 58
      · replace hf := lc_ite_pos hc3 hf
        exact lc_fr.rf.tr (g1M_finish_84 hf)
      · replace hf := lc_ite_neg hc3 hf
        by_cases hc4 : a1 = 63
        · replace hf := lc_ite_pos hc4 hf
          exact lc_fr.rf.tr (g1M_finish_84 hf)
        · replace hf := lc_ite_neg hc4 hf
          by_cases hc5 : a1 = 64
          · replace hf := lc_ite_pos hc5 hf
            exact lc_fr.rf.tr (g1M_finish_84 hf)
          · replace hf := lc_ite_neg hc5 hf
            by_cases hc6 : a1 = 100
            · replace hf := lc_ite_pos hc6 hf
              obtain ⟨r114, z114, hz114, hf⟩ := lc_bnd_some hf
              have gz114 : lc_fr lc_a1 z z114 := lc_fr.rf.tr (g1M_freeCell hz114)
              cases hf
              exact gz114
            · replace hf := lc_ite_neg hc6 hf
              by_cases hc7 : a1 = 103
              · replace hf := lc_ite_pos hc7 hf
                obtain ⟨r105, z105, hz105, hf⟩ := lc_bnd_some hf
                have gz105 : lc_fr lc_a1 z z105 := lc_fr.rf.tr (g1M_getNumber hz105)
                cases hf
                exact gz105
              · replace hf := lc_ite_neg hc7 hf
                by_cases hc8 : a1 = 110
                · replace hf := lc_ite_pos hc8 hf
                  obtain ⟨r96, z96, hz96, hf⟩ := lc_bnd_some hf
                  have gz96 : lc_fr lc_a1 z z96 := lc_fr.rf.tr (g1M_makeCell hz96)
                  cases hf
                  exact gz96
                · replace hf := lc_ite_neg hc8 hf
                  by_cases hc9 : a1 = 112
                  · replace hf := lc_ite_pos hc9 hf
                    obtain ⟨r124, z124, hz124, hf⟩ := lc_bnd_some hf
                    have gz124 : lc_fr lc_a1 z z124 := lc_fr.rf.tr (g1M_putNumber hz124)
                    cases hf
                    exact gz124
                  · replace hf := lc_ite_neg hc9 hf
                    obtain ⟨r145, z145, hz145, hf⟩ := lc_bnd_some hf
                    have gz145 : lc_fr lc_a1 z z145 := lc_fr.rf.tr (g1M_calculate hz145)
                    cases hf
                    exact gz145

set_option maxHeartbeats 1000000 in
theorem g1M_takeStep_161 {x1 : Int32} {x5 : Int32} {z : lc_S} {r} {z' : lc_S} (hf : fM_takeStep_161 x1 x5 z = some (r, z')) : lc_fr lc_a1 z z' := by
  rw [fM_takeStep_161] at hf
  obtain ⟨hw1, hf⟩ := lc_chk_some hf
  obtain ⟨r174, z174, hz174, hf⟩ := lc_bnd_some hf
  have gz174 : lc_fr lc_a1 z z174 := lc_fr.rf.tr (g1M_finish hz174)
  cases hf
  exact gz174

set_option maxHeartbeats 1000000 in
theorem g1M_takeStep {z : lc_S} {r} {z' : lc_S} (hf : fM_takeStep z = some (r, z')) : lc_fr lc_a1 z z' := by
  rw [fM_takeStep] at hf
  obtain ⟨x6, ex6⟩ : ∃ x, x = (lcI z 19 11) - 1 := ⟨_, rfl⟩
  replace hf := lc_let_of ex6 hf
  obtain ⟨hw1, hf⟩ := lc_chk_some hf
  obtain ⟨x13, ex13⟩ : ∃ x, x = lcI z 32 x6.toNatClampNeg := ⟨_, rfl⟩
  replace hf := lc_let_of ex13 hf
  obtain ⟨hw2, hf⟩ := lc_chk_some hf
  obtain ⟨x20, ex20⟩ : ∃ x, x = lcI z 31 x6.toNatClampNeg := ⟨_, rfl⟩
  replace hf := lc_let_of ex20 hf
  obtain ⟨hw3, hf⟩ := lc_chk_some hf
  obtain ⟨x27, ex27⟩ : ∃ x, x = lcI z 33 x6.toNatClampNeg := ⟨_, rfl⟩
  replace hf := lc_let_of ex27 hf
  obtain ⟨hw4, hf⟩ := lc_chk_some hf
  obtain ⟨q34, hq34, hf⟩ := lc_bnr_some hf
  obtain ⟨hw5, hf⟩ := lc_chk_some hf
  obtain ⟨hw6, hf⟩ := lc_chk_some hf
  obtain ⟨x40, ex40⟩ : ∃ x, x = lcI z (q34 + 2) x20.toNatClampNeg := ⟨_, rfl⟩
  replace hf := lc_let_of ex40 hf
  obtain ⟨hw7, hf⟩ := lc_chk_some hf
  obtain ⟨hw8, hf⟩ := lc_chk_some hf
  by_cases hc9 : x40 = 35
  · replace hf := lc_ite_pos hc9 hf
    obtain ⟨hw10, hf⟩ := lc_chk_some hf
    obtain ⟨q66, hq66, hf⟩ := lc_bnr_some hf
    obtain ⟨hw11, hf⟩ := lc_chk_some hf
    obtain ⟨hw12, hf⟩ := lc_chk_some hf
    obtain ⟨r72, z72, hz72, hf⟩ := lc_bnd_some hf
    have gz72 : lc_fr lc_a1 z z72 := (lc_fr.rf.ui rfl).tr (g1V_of hz72)
    obtain ⟨r75, z75, hz75, hf⟩ := lc_bnd_some hf
    have gz75 : lc_fr lc_a1 z z75 := gz72.tr (g1M_end hz75)
    cases hf
    exact gz75
  · replace hf := lc_ite_neg hc9 hf
    by_cases hc13 : x40 = 118
    · replace hf := lc_ite_pos hc13 hf
      obtain ⟨r92, z92, hz92, hf⟩ := lc_bnd_some hf
      have gz92 : lc_fr lc_a1 z z92 := (lc_fr.rf.ui rfl).tr (g1M_valueOfVariable hz92)
      obtain ⟨r95, z95, hz95, hf⟩ := lc_bnd_some hf
      have gz95 : lc_fr lc_a1 z z95 := gz92.tr (g1M_end hz95)
      cases hf
      exact gz95
    · replace hf := lc_ite_neg hc13 hf
      by_cases hc14 : x27 = 0
      · replace hf := lc_ite_pos hc14 hf
        obtain ⟨hw15, hf⟩ := lc_chk_some hf
        obtain ⟨q112, hq112, hf⟩ := lc_bnr_some hf
        obtain ⟨hw16, hf⟩ := lc_chk_some hf
        obtain ⟨hw17, hf⟩ := lc_chk_some hf
        obtain ⟨r119, z119, hz119, hf⟩ := lc_bnd_some hf
        have gz119 : lc_fr lc_a1 z z119 := (lc_fr.rf.ui rfl).tr (g1M_begin hz119)
        cases hf
        exact gz119
      · replace hf := lc_ite_neg hc14 hf
        by_cases hc18 : x27 = 1
        · replace hf := lc_ite_pos hc18 hf
          by_cases hc19 : x40 = 110
          · replace hf := lc_ite_pos hc19 hf
            exact (lc_fr.rf.ui rfl).tr (g1M_takeStep_161 hf)
          · replace hf := lc_ite_neg hc19 hf
            by_cases hc20 : x40 = 103
            · replace hf := lc_ite_pos hc20 hf
              exact (lc_fr.rf.ui rfl).tr (g1M_takeStep_161 hf)
            · replace hf := lc_ite_neg hc20 hf
              by_cases hc21 : x40 = 100
              · replace hf := lc_ite_pos hc21 hf
                exact (lc_fr.rf.ui rfl).tr (g1M_takeStep_161 hf)
              · replace hf := lc_ite_neg hc21 hf
                obtain ⟨r155, z155, hz155, hf⟩ := lc_bnd_some hf
                have gz155 : lc_fr lc_a1 z z155 := (lc_fr.rf.ui rfl).tr (g1M_goOn hz155)
                cases hf
                exact gz155
        · replace hf := lc_ite_neg hc18 hf
          exact (lc_fr.rf.ui rfl).tr (g1M_takeStep_161 hf)

set_option maxHeartbeats 1000000 in
theorem g1Y_cellsIn_27 {x1 : Int64} {z : lc_S} {r} {z' : lc_S} (hf : fY_cellsIn_27 x1 z = some (r, z')) : lc_fr lc_a1 z z' := by
  rw [fY_cellsIn_27] at hf
  obtain ⟨r28, z28, hz28, hf⟩ := lc_bnd_some hf
  have gz28 : lc_fr lc_a1 z z28 := lc_fr.rf.tr (g1V_isCell hz28)
  by_cases hc1 : r28 = 0
  · replace hf := lc_ite_pos hc1 hf
    cases hf
    exact gz28
  · replace hf := lc_ite_neg hc1 hf
    cases hf
    exact gz28

set_option maxHeartbeats 1000000 in
theorem g1Y_cellsIn {a1 : Int64} {z : lc_S} {r} {z' : lc_S} (hf : fY_cellsIn a1 z = some (r, z')) : lc_fr lc_a1 z z' := by
  rw [fY_cellsIn] at hf
  obtain ⟨r1, z1, hz1, hf⟩ := lc_bnd_some hf
  have gz1 : lc_fr lc_a1 z z1 := lc_fr.rf.tr (g1V_wordOf hz1)
  obtain ⟨r6, z6, hz6, hf⟩ := lc_bnd_some hf
  have gz6 : lc_fr lc_a1 z z6 := gz1.tr (g1V_isPair hz6)
  by_cases hc1 : r6 = 0
  · replace hf := lc_ite_pos hc1 hf
    exact gz6.tr (g1Y_cellsIn_27 hf)
  · replace hf := lc_ite_neg hc1 hf
    obtain ⟨r14, z14, hz14, hf⟩ := lc_bnd_some hf
    have gz14 : lc_fr lc_a1 z z14 := gz6.tr (g1Y_isMade hz14)
    by_cases hc2 : r14 = 0
    · replace hf := lc_ite_pos hc2 hf
      exact gz14.tr (g1Y_cellsIn_27 hf)
    · replace hf := lc_ite_neg hc2 hf
      obtain ⟨hw3, hf⟩ := lc_chk_some hf
      cases hf
      exact gz14

set_option maxHeartbeats 1000000 in
theorem g1Y_numbersIn_27 {x1 : Int64} {z : lc_S} {r} {z' : lc_S} (hf : fY_numbersIn_27 x1 z = some (r, z')) : lc_fr lc_a1 z z' := by
  rw [fY_numbersIn_27] at hf
  obtain ⟨r28, z28, hz28, hf⟩ := lc_bnd_some hf
  have gz28 : lc_fr lc_a1 z z28 := lc_fr.rf.tr (g1V_isNumber hz28)
  by_cases hc1 : r28 = 0
  · replace hf := lc_ite_pos hc1 hf
    cases hf
    exact gz28
  · replace hf := lc_ite_neg hc1 hf
    cases hf
    exact gz28

set_option maxHeartbeats 1000000 in
theorem g1Y_numbersIn {a1 : Int64} {z : lc_S} {r} {z' : lc_S} (hf : fY_numbersIn a1 z = some (r, z')) : lc_fr lc_a1 z z' := by
  rw [fY_numbersIn] at hf
  obtain ⟨r1, z1, hz1, hf⟩ := lc_bnd_some hf
  have gz1 : lc_fr lc_a1 z z1 := lc_fr.rf.tr (g1V_wordOf hz1)
  obtain ⟨r6, z6, hz6, hf⟩ := lc_bnd_some hf
  have gz6 : lc_fr lc_a1 z z6 := gz1.tr (g1V_isPair hz6)
  by_cases hc1 : r6 = 0
  · replace hf := lc_ite_pos hc1 hf
    exact gz6.tr (g1Y_numbersIn_27 hf)
  · replace hf := lc_ite_neg hc1 hf
    obtain ⟨r14, z14, hz14, hf⟩ := lc_bnd_some hf
    have gz14 : lc_fr lc_a1 z z14 := gz6.tr (g1Y_isMade hz14)
    by_cases hc2 : r14 = 0
    · replace hf := lc_ite_pos hc2 hf
      exact gz14.tr (g1Y_numbersIn_27 hf)
    · replace hf := lc_ite_neg hc2 hf
      obtain ⟨hw3, hf⟩ := lc_chk_some hf
      cases hf
      exact gz14

set_option maxHeartbeats 1000000 in
theorem g1Y_hasNumber_27 {x1 : Int64} {z : lc_S} {r} {z' : lc_S} (hf : fY_hasNumber_27 x1 z = some (r, z')) : lc_fr lc_a1 z z' := by
  rw [fY_hasNumber_27] at hf
  obtain ⟨r28, z28, hz28, hf⟩ := lc_bnd_some hf
  have gz28 : lc_fr lc_a1 z z28 := lc_fr.rf.tr (g1V_isNumber hz28)
  obtain ⟨hw1, hf⟩ := lc_chk_some hf
  cases hf
  exact gz28

set_option maxHeartbeats 1000000 in
theorem g1Y_hasNumber {a1 : Int64} {z : lc_S} {r} {z' : lc_S} (hf : fY_hasNumber a1 z = some (r, z')) : lc_fr lc_a1 z z' := by
  rw [fY_hasNumber] at hf
  obtain ⟨r1, z1, hz1, hf⟩ := lc_bnd_some hf
  have gz1 : lc_fr lc_a1 z z1 := lc_fr.rf.tr (g1V_wordOf hz1)
  obtain ⟨r6, z6, hz6, hf⟩ := lc_bnd_some hf
  have gz6 : lc_fr lc_a1 z z6 := gz1.tr (g1V_isPair hz6)
  by_cases hc1 : r6 = 0
  · replace hf := lc_ite_pos hc1 hf
    exact gz6.tr (g1Y_hasNumber_27 hf)
  · replace hf := lc_ite_neg hc1 hf
    obtain ⟨r14, z14, hz14, hf⟩ := lc_bnd_some hf
    have gz14 : lc_fr lc_a1 z z14 := gz6.tr (g1Y_isMade hz14)
    by_cases hc2 : r14 = 0
    · replace hf := lc_ite_pos hc2 hf
      exact gz14.tr (g1Y_hasNumber_27 hf)
    · replace hf := lc_ite_neg hc2 hf
      obtain ⟨hw3, hf⟩ := lc_chk_some hf
      obtain ⟨hw4, hf⟩ := lc_chk_some hf
      cases hf
      exact gz14

set_option maxHeartbeats 1000000 in
theorem g1Y_firstNumberIn_27 {x1 : Int64} {x3 : Int32} {z : lc_S} {r} {z' : lc_S} (hf : fY_firstNumberIn_27 x1 x3 z = some (r, z')) : lc_fr lc_a1 z z' := by
  rw [fY_firstNumberIn_27] at hf
  obtain ⟨r28, z28, hz28, hf⟩ := lc_bnd_some hf
  have gz28 : lc_fr lc_a1 z z28 := lc_fr.rf.tr (g1V_isNumber hz28)
  by_cases hc1 : r28 = 0
  · replace hf := lc_ite_pos hc1 hf
    cases hf
    exact gz28
  · replace hf := lc_ite_neg hc1 hf
    cases hf
    exact gz28

set_option maxHeartbeats 1000000 in
theorem g1Y_firstNumberIn {a1 : Int64} {z : lc_S} {r} {z' : lc_S} (hf : fY_firstNumberIn a1 z = some (r, z')) : lc_fr lc_a1 z z' := by
  rw [fY_firstNumberIn] at hf
  obtain ⟨r1, z1, hz1, hf⟩ := lc_bnd_some hf
  have gz1 : lc_fr lc_a1 z z1 := lc_fr.rf.tr (g1V_wordOf hz1)
  obtain ⟨r6, z6, hz6, hf⟩ := lc_bnd_some hf
  have gz6 : lc_fr lc_a1 z z6 := gz1.tr (g1V_isPair hz6)
  by_cases hc1 : r6 = 0
  · replace hf := lc_ite_pos hc1 hf
    exact gz6.tr (g1Y_firstNumberIn_27 hf)
  · replace hf := lc_ite_neg hc1 hf
    obtain ⟨r14, z14, hz14, hf⟩ := lc_bnd_some hf
    have gz14 : lc_fr lc_a1 z z14 := gz6.tr (g1Y_isMade hz14)
    by_cases hc2 : r14 = 0
    · replace hf := lc_ite_pos hc2 hf
      exact gz14.tr (g1Y_firstNumberIn_27 hf)
    · replace hf := lc_ite_neg hc2 hf
      obtain ⟨hw3, hf⟩ := lc_chk_some hf
      cases hf
      exact gz14

set_option maxHeartbeats 1000000 in
theorem g1Y_sumUpPairs_116 {k2 : Int32 → lc_S → Option ((Unit) × lc_S)} (hk2 : ∀ {v0 : Int32} {z : lc_S} {r} {z' : lc_S}, k2 v0 z = some (r, z') → lc_fr lc_a1 z z') {x1 : Int32} {t1 : Int32} {t2 : Int32} {z : lc_S} {r} {z' : lc_S} (hf : fY_sumUpPairs_116 k2 x1 t1 t2 z = some (r, z')) : lc_fr lc_a1 z z' := by
  rw [fY_sumUpPairs_116] at hf
  obtain ⟨hw1, hf⟩ := lc_chk_some hf
  obtain ⟨x117, ex117⟩ : ∃ x, x = x1 + 1 := ⟨_, rfl⟩
  replace hf := lc_let_of ex117 hf
  exact (lc_fr.rf.ui rfl).tr (hk2 hf)

set_option maxHeartbeats 1000000 in
theorem g1Y_sumUpPairs_88 {k2 : Int32 → lc_S → Option ((Unit) × lc_S)} (hk2 : ∀ {v0 : Int32} {z : lc_S} {r} {z' : lc_S}, k2 v0 z = some (r, z') → lc_fr lc_a1 z z') {x1 : Int32} {x2 : Int64} {x4 : Int64} {t1 : Int32} {t2 : Int32} {z : lc_S} {r} {z' : lc_S} (hf : fY_sumUpPairs_88 k2 x1 x2 x4 t1 t2 z = some (r, z')) : lc_fr lc_a1 z z' := by
  rw [fY_sumUpPairs_88] at hf
  obtain ⟨hw1, hf⟩ := lc_chk_some hf
  obtain ⟨hw2, hf⟩ := lc_chk_some hf
  obtain ⟨r96, z96, hz96, hf⟩ := lc_bnd_some hf
  have gz96 : lc_fr lc_a1 z z96 := (lc_fr.rf.ui rfl).tr (g1Y_hasNumber hz96)
  by_cases hc3 : r96 = 0
  · replace hf := lc_ite_pos hc3 hf
    obtain ⟨r113, z113, hz113, hf⟩ := lc_bnd_some hf
    have gz113 : lc_fr lc_a1 z z113 := gz96.tr (g1Y_firstNumberIn hz113)
    exact gz113.tr (g1Y_sumUpPairs_116 (fun h => hk2 h) hf)
  · replace hf := lc_ite_neg hc3 hf
    obtain ⟨r104, z104, hz104, hf⟩ := lc_bnd_some hf
    have gz104 : lc_fr lc_a1 z z104 := gz96.tr (g1Y_firstNumberIn hz104)
    exact gz104.tr (g1Y_sumUpPairs_116 (fun h => hk2 h) hf)

set_option maxHeartbeats 1000000 in
theorem g1Y_sumUpPairs_83 {k2 : Int32 → lc_S → Option ((Unit) × lc_S)} (hk2 : ∀ {v0 : Int32} {z : lc_S} {r} {z' : lc_S}, k2 v0 z = some (r, z') → lc_fr lc_a1 z z') {x1 : Int32} {x2 : Int64} {x4 : Int64} {t1 : Int32} {z : lc_S} {r} {z' : lc_S} (hf : fY_sumUpPairs_83 k2 x1 x2 x4 t1 z = some (r, z')) : lc_fr lc_a1 z z' := by
  rw [fY_sumUpPairs_83] at hf
  exact lc_fr.rf.tr (g1Y_sumUpPairs_88 (fun h => hk2 h) hf)

set_option maxHeartbeats 1000000 in
theorem g1Y_sumUpPairs_2 : ∀ {n : Nat} {x1 : Int32} {z : lc_S} {r} {z' : lc_S}, fY_sumUpPairs_2 n x1 z = some (r, z') → lc_fr lc_a1 z z' := by
  intro n
  induction n with
  | zero =>
    intro x1 z r z' hf
    cases (show none = some (r, z') from hf)
  | succ n ih =>
    intro x1 z r z' hf
    rw [fY_sumUpPairs_2] at hf
    by_cases hc1 : (lcI z 20 10) ≤ x1
    · replace hf := lc_ite_pos hc1 hf
      cases hf
      exact lc_fr.rf
    · replace hf := lc_ite_neg hc1 hf
      obtain ⟨hw2, hf⟩ := lc_chk_some hf
      obtain ⟨x16, ex16⟩ : ∃ x, x = lcL z 23 x1.toNatClampNeg := ⟨_, rfl⟩
      replace hf := lc_let_of ex16 hf
      obtain ⟨hw3, hf⟩ := lc_chk_some hf
      obtain ⟨x23, ex23⟩ : ∃ x, x = lcL z 24 x1.toNatClampNeg := ⟨_, rfl⟩
      replace hf := lc_let_of ex23 hf
      obtain ⟨r32, z32, hz32, hf⟩ := lc_bnd_some hf
      have gz32 : lc_fr lc_a1 z z32 := lc_fr.rf.tr (g1Y_cellsIn hz32)
      obtain ⟨r38, z38, hz38, hf⟩ := lc_bnd_some hf
      have gz38 : lc_fr lc_a1 z z38 := gz32.tr (g1Y_cellsIn hz38)
      obtain ⟨hw4, hf⟩ := lc_chk_some hf
      obtain ⟨r50, z50, hz50, hf⟩ := lc_bnd_some hf
      have gz50 : lc_fr lc_a1 z z50 := (gz38.ui rfl).tr (g1Y_numbersIn hz50)
      obtain ⟨r56, z56, hz56, hf⟩ := lc_bnd_some hf
      have gz56 : lc_fr lc_a1 z z56 := gz50.tr (g1Y_numbersIn hz56)
      obtain ⟨hw5, hf⟩ := lc_chk_some hf
      obtain ⟨r68, z68, hz68, hf⟩ := lc_bnd_some hf
      have gz68 : lc_fr lc_a1 z z68 := (gz56.ui rfl).tr (g1Y_hasNumber hz68)
      by_cases hc6 : r68 = 0
      · replace hf := lc_ite_pos hc6 hf
        obtain ⟨r77, z77, hz77, hf⟩ := lc_bnd_some hf
        have gz77 : lc_fr lc_a1 z z77 := gz68.tr (g1Y_hasNumber hz77)
        by_cases hc7 : r77 = 0
        · replace hf := lc_ite_pos hc7 hf
          exact gz77.tr (g1Y_sumUpPairs_88 (fun h => ih h) hf)
        · replace hf := lc_ite_neg hc7 hf
          exact gz77.tr (g1Y_sumUpPairs_83 (fun h => ih h) hf)
      · replace hf := lc_ite_neg hc6 hf
        exact gz68.tr (g1Y_sumUpPairs_83 (fun h => ih h) hf)

set_option maxHeartbeats 1000000 in
theorem g1Y_sumUpPairs {z : lc_S} {r} {z' : lc_S} (hf : fY_sumUpPairs z = some (r, z')) : lc_fr lc_a1 z z' := by
  rw [fY_sumUpPairs] at hf
  exact lc_fr.rf.tr (g1Y_sumUpPairs_2 hf)

set_option maxHeartbeats 1000000 in
theorem g1M_trapOf_89 {z : lc_S} {r} {z' : lc_S} (hf : fM_trapOf_89 z = some (r, z')) : lc_fr lc_a1 z z' := by
  rw [fM_trapOf_89] at hf
  obtain ⟨r93, z93, hz93, hf⟩ := lc_bnd_some hf
  have gz93 : lc_fr lc_a1 z z93 := lc_fr.rf.tr (g1Y_sumUpPairs hz93)
  cases hf
  exact gz93

set_option maxHeartbeats 1000000 in
theorem g1M_trapOf_77 {z : lc_S} {r} {z' : lc_S} (hf : fM_trapOf_77 z = some (r, z')) : lc_fr lc_a1 z z' := by
  rw [fM_trapOf_77] at hf
  by_cases hc1 : (lcI z 19 3) = 0
  · replace hf := lc_ite_pos hc1 hf
    exact lc_fr.rf.tr (g1M_trapOf_89 hf)
  · replace hf := lc_ite_neg hc1 hf
    exact (lc_fr.rf.ul rfl).tr (g1M_trapOf_89 hf)

set_option maxHeartbeats 1000000 in
theorem g1M_trapOf_45 : ∀ {n : Nat} {x4 : Int32} {z : lc_S} {r} {z' : lc_S}, fM_trapOf_45 n x4 z = some (r, z') → lc_fr lc_a1 z z' := by
  intro n
  induction n with
  | zero =>
    intro x4 z r z' hf
    cases (show none = some (r, z') from hf)
  | succ n ih =>
    intro x4 z r z' hf
    rw [fM_trapOf_45] at hf
    by_cases hc1 : 6000 ≤ x4
    · replace hf := lc_ite_pos hc1 hf
      exact lc_fr.rf.tr (g1M_trapOf_77 hf)
    · replace hf := lc_ite_neg hc1 hf
      by_cases hc2 : (lcI z 19 11) ≤ 0
      · replace hf := lc_ite_pos hc2 hf
        exact lc_fr.rf.tr (g1M_trapOf_77 hf)
      · replace hf := lc_ite_neg hc2 hf
        by_cases hc3 : (lcI z 19 3) = 0
        · replace hf := lc_ite_pos hc3 hf
          obtain ⟨r68, z68, hz68, hf⟩ := lc_bnd_some hf
          have gz68 : lc_fr lc_a1 z z68 := lc_fr.rf.tr (g1M_takeStep hz68)
          obtain ⟨x71, ex71⟩ : ∃ x, x = x4 + 1 := ⟨_, rfl⟩
          replace hf := lc_let_of ex71 hf
          exact gz68.tr (ih hf)
        · replace hf := lc_ite_neg hc3 hf
          exact lc_fr.rf.tr (g1M_trapOf_77 hf)

set_option maxHeartbeats 1000000 in
theorem g1M_trapOf {a1 : Nat} {a2 : Int32} {a3 : Int32} {z : lc_S} {r} {z' : lc_S} (hf : fM_trapOf a1 a2 a3 z = some (r, z')) : lc_fr lc_a1 z z' := by
  rw [fM_trapOf] at hf
  obtain ⟨r9, z9, hz9, hf⟩ := lc_bnd_some hf
  have gz9 : lc_fr lc_a1 z z9 := (lc_fr.rf.ur rfl).tr (g1Y_clear hz9)
  obtain ⟨r30, z30, hz30, hf⟩ := lc_bnd_some hf
  have gz30 : lc_fr lc_a1 z z30 := (((gz9.ui rfl).ui rfl).ui rfl).tr (g1V_of hz30)
  obtain ⟨r39, z39, hz39, hf⟩ := lc_bnd_some hf
  have gz39 : lc_fr lc_a1 z z39 := (gz30.ul rfl).tr (g1M_enter hz39)
  exact gz39.tr (g1M_trapOf_45 hf)

