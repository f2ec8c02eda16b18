/-! checks, the class -/
def lc_a3 (c _k : Nat) : Bool := Nat.ble 8 c && Nat.ble c 18
set_option maxHeartbeats 1000000 in
theorem g3A_isProcedureNumber_13 {z : lc_S} {r} {z' : lc_S} (hf : fA_isProcedureNumber_13 z = some (r, z')) : lc_fr lc_a3 z z' := by
  rw [fA_isProcedureNumber_13] at hf
  cases hf
  exact lc_fr.rf

set_option maxHeartbeats 1000000 in
theorem g3A_isProcedureNumber {a0 : Int32} {z : lc_S} {r} {z' : lc_S} (hf : fA_isProcedureNumber a0 z = some (r, z')) : lc_fr lc_a3 z z' := by
  rw [fA_isProcedureNumber] at hf
  by_cases hc1 : a0 < 0
  · replace hf := lc_ite_pos hc1 hf
    exact lc_fr.rf.tr (g3A_isProcedureNumber_13 hf)
  · replace hf := lc_ite_neg hc1 hf
    by_cases hc2 : 4 ≤ a0
    · replace hf := lc_ite_pos hc2 hf
      exact lc_fr.rf.tr (g3A_isProcedureNumber_13 hf)
    · replace hf := lc_ite_neg hc2 hf
      cases hf
      exact lc_fr.rf

set_option maxHeartbeats 1000000 in
theorem g3A_isThere_23 {z : lc_S} {r} {z' : lc_S} (hf : fA_isThere_23 z = some (r, z')) : lc_fr lc_a3 z z' := by
  rw [fA_isThere_23] at hf
  cases hf
  exact lc_fr.rf

set_option maxHeartbeats 1000000 in
theorem g3A_isThere {a1 : Int32} {z : lc_S} {r} {z' : lc_S} (hf : fA_isThere a1 z = some (r, z')) : lc_fr lc_a3 z z' := by
  rw [fA_isThere] at hf
  obtain ⟨r1, z1, hz1, hf⟩ := lc_bnd_some hf
  have gz1 : lc_fr lc_a3 z z1 := lc_fr.rf.tr (g3A_isProcedureNumber hz1)
  by_cases hc1 : r1 = 0
  · replace hf := lc_ite_pos hc1 hf
    exact gz1.tr (g3A_isThere_23 hf)
  · replace hf := lc_ite_neg hc1 hf
    obtain ⟨hw2, hf⟩ := lc_chk_some hf
    obtain ⟨q12, hq12, hf⟩ := lc_bnr_some hf
    obtain ⟨hw3, hf⟩ := lc_chk_some hf
    by_cases hc4 : (lcI z1 q12 0) = 0
    · replace hf := lc_ite_pos hc4 hf
      exact gz1.tr (g3A_isThere_23 hf)
    · replace hf := lc_ite_neg hc4 hf
      cases hf
      exact gz1

set_option maxHeartbeats 1000000 in
theorem g3A_hasBit {a0 : Int32} {a1 : Int32} {z : lc_S} {r} {z' : lc_S} (hf : fA_hasBit a0 a1 z = some (r, z')) : lc_fr lc_a3 z z' := by
  rw [fA_hasBit] at hf
  by_cases hc1 : ((a0 >>> (a1 &&& 31)) &&& 1) = 1
  · replace hf := lc_ite_pos hc1 hf
    cases hf
    exact lc_fr.rf
  · replace hf := lc_ite_neg hc1 hf
    cases hf
    exact lc_fr.rf

set_option maxHeartbeats 1000000 in
theorem g3A_reachedFrom_55 {k6 : Int32 → Int32 → lc_S → Option ((Int32) × lc_S)} (hk6 : ∀ {v0 : Int32} {v1 : Int32} {z : lc_S} {r} {z' : lc_S}, k6 v0 v1 z = some (r, z') → lc_fr lc_a3 z z') {k14 : Int32 → Int32 → Int32 → lc_S → Option ((Int32) × lc_S)} (hk14 : ∀ {v0 : Int32} {v1 : Int32} {v2 : Int32} {z : lc_S} {r} {z' : lc_S}, k14 v0 v1 v2 z = some (r, z') → lc_fr lc_a3 z z') {x2 : Int32} {x3 : Int32} {x4 : Int32} {z : lc_S} {r} {z' : lc_S} (hf : fA_reachedFrom_55 k6 k14 x2 x3 x4 z = some (r, z')) : lc_fr lc_a3 z z' := by
  rw [fA_reachedFrom_55] at hf
  obtain ⟨x55, ex55⟩ : ∃ x, x = x4 + 1 := ⟨_, rfl⟩
  replace hf := lc_let_of ex55 hf
  exact lc_fr.rf.tr (hk14 hf)

set_option maxHeartbeats 1000000 in
theorem g3A_reachedFrom_14 {k6 : Int32 → Int32 → lc_S → Option ((Int32) × lc_S)} (hk6 : ∀ {v0 : Int32} {v1 : Int32} {z : lc_S} {r} {z' : lc_S}, k6 v0 v1 z = some (r, z') → lc_fr lc_a3 z z') : ∀ {n : Nat} {x2 : Int32} {x3 : Int32} {x4 : Int32} {z : lc_S} {r} {z' : lc_S}, fA_reachedFrom_14 k6 n x2 x3 x4 z = some (r, z') → lc_fr lc_a3 z z' := by
  intro n
  induction n with
  | zero =>
    intro x2 x3 x4 z r z' hf
    cases (show none = some (r, z') from hf)
  | succ n ih =>
    intro x2 x3 x4 z r z' hf
    rw [fA_reachedFrom_14] at hf
    by_cases hc1 : 4 ≤ x4
    · replace hf := lc_ite_pos hc1 hf
      obtain ⟨x61, ex61⟩ : ∃ x, x = x3 + 1 := ⟨_, rfl⟩
      replace hf := lc_let_of ex61 hf
      exact lc_fr.rf.tr (hk6 hf)
    · replace hf := lc_ite_neg hc1 hf
      obtain ⟨r23, z23, hz23, hf⟩ := lc_bnd_some hf
      have gz23 : lc_fr lc_a3 z z23 := lc_fr.rf.tr (g3A_hasBit hz23)
      by_cases hc2 : r23 = 0
      · replace hf := lc_ite_pos hc2 hf
        exact gz23.tr (g3A_reachedFrom_55 (fun h => hk6 h) (fun h => ih h) hf)
      · replace hf := lc_ite_neg hc2 hf
        obtain ⟨hw3, hf⟩ := lc_chk_some hf
        obtain ⟨q35, hq35, hf⟩ := lc_bnr_some hf
        obtain ⟨hw4, hf⟩ := lc_chk_some hf
        by_cases hc5 : (lcI z23 q35 0) = 0
        · replace hf := lc_ite_pos hc5 hf
          exact gz23.tr (g3A_reachedFrom_55 (fun h => hk6 h) (fun h => ih h) hf)
        · replace hf := lc_ite_neg hc5 hf
          obtain ⟨hw6, hf⟩ := lc_chk_some hf
          obtain ⟨q49, hq49, hf⟩ := lc_bnr_some hf
          obtain ⟨hw7, hf⟩ := lc_chk_some hf
          obtain ⟨x54, ex54⟩ : ∃ x, x = x2 ||| (lcI z23 q49 1) := ⟨_, rfl⟩
          replace hf := lc_let_of ex54 hf
          exact gz23.tr (g3A_reachedFrom_55 (fun h => hk6 h) (fun h => ih h) hf)

set_option maxHeartbeats 1000000 in
theorem g3A_reachedFrom_6 : ∀ {n : Nat} {x2 : Int32} {x3 : Int32} {z : lc_S} {r} {z' : lc_S}, fA_reachedFrom_6 n x2 x3 z = some (r, z') → lc_fr lc_a3 z z' := by
  intro n
  induction n with
  | zero =>
    intro x2 x3 z r z' hf
    cases (show none = some (r, z') from hf)
  | succ n ih =>
    intro x2 x3 z r z' hf
    rw [fA_reachedFrom_6] at hf
    by_cases hc1 : 4 ≤ x3
    · replace hf := lc_ite_pos hc1 hf
      cases hf
      exact lc_fr.rf
    · replace hf := lc_ite_neg hc1 hf
      exact lc_fr.rf.tr (g3A_reachedFrom_14 (fun h => ih h) hf)

set_option maxHeartbeats 1000000 in
theorem g3A_reachedFrom {a1 : Int32} {z : lc_S} {r} {z' : lc_S} (hf : fA_reachedFrom a1 z = some (r, z')) : lc_fr lc_a3 z z' := by
  rw [fA_reachedFrom] at hf
  obtain ⟨x3, ex3⟩ : ∃ x, x = 1 <<< (a1 &&& 31) := ⟨_, rfl⟩
  replace hf := lc_let_of ex3 hf
  exact lc_fr.rf.tr (g3A_reachedFrom_6 hf)

set_option maxHeartbeats 1000000 in
theorem g3T_forgetPairs {z : lc_S} {r} {z' : lc_S} (hf : fT_forgetPairs z = some (r, z')) : lc_fr lc_a3 z z' := by
  rw [fT_forgetPairs] at hf
  cases hf
  exact (lc_fr.rf.ui rfl)

set_option maxHeartbeats 1000000 in
theorem g3T_pairOf_8 {z : lc_S} {r} {z' : lc_S} (hf : fT_pairOf_8 z = some (r, z')) : lc_fr lc_a3 z z' := by
  rw [fT_pairOf_8] at hf
  cases hf
  exact lc_fr.rf

set_option maxHeartbeats 1000000 in
theorem g3T_pairOf_42 {k12 : Int32 → Int32 → Int32 → lc_S → Option ((Int32) × lc_S)} (hk12 : ∀ {v0 : Int32} {v1 : Int32} {v2 : Int32} {z : lc_S} {r} {z' : lc_S}, k12 v0 v1 v2 z = some (r, z') → lc_fr lc_a3 z z') {x1 : Int32} {x2 : Int32} {x3 : Int32} {z : lc_S} {r} {z' : lc_S} (hf : fT_pairOf_42 k12 x1 x2 x3 z = some (r, z')) : lc_fr lc_a3 z z' := by
  rw [fT_pairOf_42] at hf
  obtain ⟨x42, ex42⟩ : ∃ x, x = x3 + 1 := ⟨_, rfl⟩
  replace hf := lc_let_of ex42 hf
  exact lc_fr.rf.tr (hk12 hf)

set_option maxHeartbeats 1000000 in
theorem g3T_pairOf_138 {t1 : Int32} {t2 : Int32} {z : lc_S} {r} {z' : lc_S} (hf : fT_pairOf_138 t1 t2 z = some (r, z')) : lc_fr lc_a3 z z' := by
  rw [fT_pairOf_138] at hf
  obtain ⟨hw1, hf⟩ := lc_chk_some hf
  obtain ⟨hw2, hf⟩ := lc_chk_some hf
  cases hf
  exact ((lc_fr.rf.ui rfl).ui rfl)

set_option maxHeartbeats 1000000 in
theorem g3T_pairOf_133 {t1 : Int32} {z : lc_S} {r} {z' : lc_S} (hf : fT_pairOf_133 t1 z = some (r, z')) : lc_fr lc_a3 z z' := by
  rw [fT_pairOf_133] at hf
  exact lc_fr.rf.tr (g3T_pairOf_138 hf)

set_option maxHeartbeats 1000000 in
theorem g3T_pairOf_12 : ∀ {n : Nat} {x1 : Int32} {x2 : Int32} {x3 : Int32} {z : lc_S} {r} {z' : lc_S}, fT_pairOf_12 n x1 x2 x3 z = some (r, z') → lc_fr lc_a3 z z' := by
  intro n
  induction n with
  | zero =>
    intro x1 x2 x3 z r z' hf
    cases (show none = some (r, z') from hf)
  | succ n ih =>
    intro x1 x2 x3 z r z' hf
    rw [fT_pairOf_12] at hf
    by_cases hc1 : (lcI z 9 4) ≤ x3
    · replace hf := lc_ite_pos hc1 hf
      by_cases hc2 : (lcI z 9 4) < 243
      · replace hf := lc_ite_pos hc2 hf
        obtain ⟨hw3, hf⟩ := lc_chk_some hf
        obtain ⟨hw4, hf⟩ := lc_chk_some hf
        obtain ⟨hw5, hf⟩ := lc_chk_some hf
        obtain ⟨hw6, hf⟩ := lc_chk_some hf
        obtain ⟨hw7, hf⟩ := lc_chk_some hf
        obtain ⟨hw8, hf⟩ := lc_chk_some hf
        by_cases hc9 : (lcI (lcUI (lcUI (lcUI z 10 (lcI z 9 4).toNatClampNeg x1) 11 (lcI (lcUI z 10 (lcI z 9 4).toNatClampNeg x1) 9 4).toNatClampNeg x2) 12 (lcI (lcUI (lcUI z 10 (lcI z 9 4).toNatClampNeg x1) 11 (lcI (lcUI z 10 (lcI z 9 4).toNatClampNeg x1) 9 4).toNatClampNeg x2) 9 4).toNatClampNeg (((8 * (lcI (lcUI (lcUI z 10 (lcI z 9 4).toNatClampNeg x1) 11 (lcI (lcUI z 10 (lcI z 9 4).toNatClampNeg x1) 9 4).toNatClampNeg x2) 12 x1.toNatClampNeg)) + (lcI (lcUI (lcUI z 10 (lcI z 9 4).toNatClampNeg x1) 11 (lcI (lcUI z 10 (lcI z 9 4).toNatClampNeg x1) 9 4).toNatClampNeg x2) 12 x2.toNatClampNeg)) + 3)) 13 x1.toNatClampNeg) = 0
        · replace hf := lc_ite_pos hc9 hf
          obtain ⟨hw10, hf⟩ := lc_chk_some hf
          by_cases hc11 : (lcI (lcUI (lcUI (lcUI z 10 (lcI z 9 4).toNatClampNeg x1) 11 (lcI (lcUI z 10 (lcI z 9 4).toNatClampNeg x1) 9 4).toNatClampNeg x2) 12 (lcI (lcUI (lcUI z 10 (lcI z 9 4).toNatClampNeg x1) 11 (lcI (lcUI z 10 (lcI z 9 4).toNatClampNeg x1) 9 4).toNatClampNeg x2) 9 4).toNatClampNeg (((8 * (lcI (lcUI (lcUI z 10 (lcI z 9 4).toNatClampNeg x1) 11 (lcI (lcUI z 10 (lcI z 9 4).toNatClampNeg x1) 9 4).toNatClampNeg x2) 12 x1.toNatClampNeg)) + (lcI (lcUI (lcUI z 10 (lcI z 9 4).toNatClampNeg x1) 11 (lcI (lcUI z 10 (lcI z 9 4).toNatClampNeg x1) 9 4).toNatClampNeg x2) 12 x2.toNatClampNeg)) + 3)) 13 x2.toNatClampNeg) = 0
          · replace hf := lc_ite_pos hc11 hf
            exact (((lc_fr.rf.ui rfl).ui rfl).ui rfl).tr (g3T_pairOf_138 hf)
          · replace hf := lc_ite_neg hc11 hf
            exact (((lc_fr.rf.ui rfl).ui rfl).ui rfl).tr (g3T_pairOf_133 hf)
        · replace hf := lc_ite_neg hc9 hf
          exact (((lc_fr.rf.ui rfl).ui rfl).ui rfl).tr (g3T_pairOf_133 hf)
      · replace hf := lc_ite_neg hc2 hf
        cases hf
        exact lc_fr.rf
    · replace hf := lc_ite_neg hc1 hf
      obtain ⟨hw12, hf⟩ := lc_chk_some hf
      by_cases hc13 : (lcI z 10 x3.toNatClampNeg) = x1
      · replace hf := lc_ite_pos hc13 hf
        obtain ⟨hw14, hf⟩ := lc_chk_some hf
        by_cases hc15 : (lcI z 11 x3.toNatClampNeg) = x2
        · replace hf := lc_ite_pos hc15 hf
          cases hf
          exact lc_fr.rf
        · replace hf := lc_ite_neg hc15 hf
          exact lc_fr.rf.tr (g3T_pairOf_42 (fun h => ih h) hf)
      · replace hf := lc_ite_neg hc13 hf
        exact lc_fr.rf.tr (g3T_pairOf_42 (fun h => ih h) hf)

set_option maxHeartbeats 1000000 in
theorem g3T_pairOf {a1 : Int32} {a2 : Int32} {z : lc_S} {r} {z' : lc_S} (hf : fT_pairOf a1 a2 z = some (r, z')) : lc_fr lc_a3 z z' := by
  rw [fT_pairOf] at hf
  by_cases hc1 : a1 = 0
  · replace hf := lc_ite_pos hc1 hf
    exact lc_fr.rf.tr (g3T_pairOf_8 hf)
  · replace hf := lc_ite_neg hc1 hf
    by_cases hc2 : a2 = 0
    · replace hf := lc_ite_pos hc2 hf
      exact lc_fr.rf.tr (g3T_pairOf_8 hf)
    · replace hf := lc_ite_neg hc2 hf
      exact lc_fr.rf.tr (g3T_pairOf_12 hf)

set_option maxHeartbeats 1000000 in
theorem g3T_written_86 {k6 : Nat → Int32 → Int32 → Int32 → lc_S → Option ((Int32) × lc_S)} (hk6 : ∀ {v0 : Nat} {v1 : Int32} {v2 : Int32} {v3 : Int32} {z : lc_S} {r} {z' : lc_S}, k6 v0 v1 v2 v3 z = some (r, z') → lc_fr lc_a3 z z') {p1 : Nat} {x3 : Int32} {x4 : Int32} {x5 : Int32} {z : lc_S} {r} {z' : lc_S} (hf : fT_written_86 k6 p1 x3 x4 x5 z = some (r, z')) : lc_fr lc_a3 z z' := by
  rw [fT_written_86] at hf
  obtain ⟨x86, ex86⟩ : ∃ x, x = x5 + 1 := ⟨_, rfl⟩
  replace hf := lc_let_of ex86 hf
  exact lc_fr.rf.tr (hk6 hf)

set_option maxHeartbeats 1000000 in
theorem g3T_written_48 {k6 : Nat → Int32 → Int32 → Int32 → lc_S → Option ((Int32) × lc_S)} (hk6 : ∀ {v0 : Nat} {v1 : Int32} {v2 : Int32} {v3 : Int32} {z : lc_S} {r} {z' : lc_S}, k6 v0 v1 v2 v3 z = some (r, z') → lc_fr lc_a3 z z') {p1 : Nat} {x3 : Int32} {x4 : Int32} {x5 : Int32} {z : lc_S} {r} {z' : lc_S} (hf : fT_written_48 k6 p1 x3 x4 x5 z = some (r, z')) : lc_fr lc_a3 z z' := by
  rw [fT_written_48] at hf
  by_cases hc1 : x4 < 2
  · replace hf := lc_ite_pos hc1 hf
    exact lc_fr.rf.tr (g3T_written_86 (fun h => hk6 h) hf)
  · replace hf := lc_ite_neg hc1 hf
    obtain ⟨x54, ex54⟩ : ∃ x, x = x4 + (-1) := ⟨_, rfl⟩
    replace hf := lc_let_of ex54 hf
    obtain ⟨hw2, hf⟩ := lc_chk_some hf
    obtain ⟨hw3, hf⟩ := lc_chk_some hf
    obtain ⟨r82, z82, hz82, hf⟩ := lc_bnd_some hf
    have gz82 : lc_fr lc_a3 z z82 := lc_fr.rf.tr (g3T_pairOf hz82)
    obtain ⟨hw4, hf⟩ := lc_chk_some hf
    exact (gz82.ui rfl).tr (g3T_written_86 (fun h => hk6 h) hf)

set_option maxHeartbeats 1000000 in
theorem g3T_written_6 : ∀ {n : Nat} {p1 : Nat} {x3 : Int32} {x4 : Int32} {x5 : Int32} {z : lc_S} {r} {z' : lc_S}, fT_written_6 n p1 x3 x4 x5 z = some (r, z') → lc_fr lc_a3 z z' := by
  intro n
  induction n with
  | zero =>
    intro p1 x3 x4 x5 z r z' hf
    cases (show none = some (r, z') from hf)
  | succ n ih =>
    intro p1 x3 x4 x5 z r z' hf
    rw [fT_written_6] at hf
    by_cases hc1 : x3 ≤ x5
    · replace hf := lc_ite_pos hc1 hf
      by_cases hc2 : x4 = 1
      · replace hf := lc_ite_pos hc2 hf
        cases hf
        exact lc_fr.rf
      · replace hf := lc_ite_neg hc2 hf
        cases hf
        exact lc_fr.rf
    · replace hf := lc_ite_neg hc1 hf
      obtain ⟨hw3, hf⟩ := lc_chk_some hf
      obtain ⟨hw4, hf⟩ := lc_chk_some hf
      obtain ⟨x19, ex19⟩ : ∃ x, x = lcI z (p1 + 1) x5.toNatClampNeg := ⟨_, rfl⟩
      replace hf := lc_let_of ex19 hf
      by_cases hc5 : x19 = 3
      · replace hf := lc_ite_pos hc5 hf
        exact lc_fr.rf.tr (g3T_written_48 (fun h => ih h) hf)
      · replace hf := lc_ite_neg hc5 hf
        by_cases hc6 : 5 ≤ x4
        · replace hf := lc_ite_pos hc6 hf
          exact lc_fr.rf.tr (g3T_written_48 (fun h => ih h) hf)
        · replace hf := lc_ite_neg hc6 hf
          obtain ⟨hw7, hf⟩ := lc_chk_some hf
          obtain ⟨x42, ex42⟩ : ∃ x, x = x4 + 1 := ⟨_, rfl⟩
          replace hf := lc_let_of ex42 hf
          exact (lc_fr.rf.ui rfl).tr (g3T_written_86 (fun h => ih h) hf)

set_option maxHeartbeats 1000000 in
theorem g3T_written {a1 : Nat} {a2 : Int32} {a3 : Int32} {z : lc_S} {r} {z' : lc_S} (hf : fT_written a1 a2 a3 z = some (r, z')) : lc_fr lc_a3 z z' := by
  rw [fT_written] at hf
  exact lc_fr.rf.tr (g3T_written_6 hf)

set_option maxHeartbeats 1000000 in
theorem g3K_findWrittenTypes_80 {k9 : Nat → Int32 → lc_S → Option ((Unit) × lc_S)} (hk9 : ∀ {v0 : Nat} {v1 : Int32} {z : lc_S} {r} {z' : lc_S}, k9 v0 v1 z = some (r, z') → lc_fr lc_a3 z z') {p1 : Nat} {x2 : Int32} {z : lc_S} {r} {z' : lc_S} (hf : fK_findWrittenTypes_80 k9 p1 x2 z = some (r, z')) : lc_fr lc_a3 z z' := by
  rw [fK_findWrittenTypes_80] at hf
  obtain ⟨x80, ex80⟩ : ∃ x, x = x2 + 1 := ⟨_, rfl⟩
  replace hf := lc_let_of ex80 hf
  exact lc_fr.rf.tr (hk9 hf)

set_option maxHeartbeats 1000000 in
theorem g3K_findWrittenTypes_9 : ∀ {n : Nat} {p1 : Nat} {x2 : Int32} {z : lc_S} {r} {z' : lc_S}, fK_findWrittenTypes_9 n p1 x2 z = some (r, z') → lc_fr lc_a3 z z' := by
  intro n
  induction n with
  | zero =>
    intro p1 x2 z r z' hf
    cases (show none = some (r, z') from hf)
  | succ n ih =>
    intro p1 x2 z r z' hf
    rw [fK_findWrittenTypes_9] at hf
    by_cases hc1 : 4 ≤ x2
    · replace hf := lc_ite_pos hc1 hf
      cases hf
      exact lc_fr.rf
    · replace hf := lc_ite_neg hc1 hf
      obtain ⟨hw2, hf⟩ := lc_chk_some hf
      obtain ⟨hw3, hf⟩ := lc_chk_some hf
      obtain ⟨q16, hq16, hf⟩ := lc_bnr_some hf
      obtain ⟨hw4, hf⟩ := lc_chk_some hf
      obtain ⟨hw5, hf⟩ := lc_chk_some hf
      obtain ⟨hw6, hf⟩ := lc_chk_some hf
      by_cases hc7 : (lcI (lcUI (lcUI z 15 x2.toNatClampNeg 0) 16 x2.toNatClampNeg 0) q16 0) = 0
      · replace hf := lc_ite_pos hc7 hf
        exact ((lc_fr.rf.ui rfl).ui rfl).tr (g3K_findWrittenTypes_80 (fun h => ih h) hf)
      · replace hf := lc_ite_neg hc7 hf
        obtain ⟨r54, z54, hz54, hf⟩ := lc_bnd_some hf
        have gz54 : lc_fr lc_a3 z z54 := ((lc_fr.rf.ui rfl).ui rfl).tr (g3T_written hz54)
        obtain ⟨hw8, hf⟩ := lc_chk_some hf
        obtain ⟨r76, z76, hz76, hf⟩ := lc_bnd_some hf
        have gz76 : lc_fr lc_a3 z z76 := (gz54.ui rfl).tr (g3T_written hz76)
        obtain ⟨hw9, hf⟩ := lc_chk_some hf
        exact (gz76.ui rfl).tr (g3K_findWrittenTypes_80 (fun h => ih h) hf)

set_option maxHeartbeats 1000000 in
theorem g3K_findWrittenTypes {a1 : Nat} {z : lc_S} {r} {z' : lc_S} (hf : fK_findWrittenTypes a1 z = some (r, z')) : lc_fr lc_a3 z z' := by
  rw [fK_findWrittenTypes] at hf
  obtain ⟨r4, z4, hz4, hf⟩ := lc_bnd_some hf
  have gz4 : lc_fr lc_a3 z z4 := lc_fr.rf.tr (g3T_forgetPairs hz4)
  exact gz4.tr (g3K_findWrittenTypes_9 hf)

set_option maxHeartbeats 1000000 in
theorem g3K_typeOfPart {a1 : Int32} {z : lc_S} {r} {z' : lc_S} (hf : fK_typeOfPart a1 z = some (r, z')) : lc_fr lc_a3 z z' := by
  rw [fK_typeOfPart] at hf
  by_cases hc1 : 0 ≤ a1
  · replace hf := lc_ite_pos hc1 hf
    obtain ⟨hw2, hf⟩ := lc_chk_some hf
    cases hf
    exact lc_fr.rf
  · replace hf := lc_ite_neg hc1 hf
    cases hf
    exact lc_fr.rf

set_option maxHeartbeats 1000000 in
theorem g3K_typeOfBound {a1 : Int32} {z : lc_S} {r} {z' : lc_S} (hf : fK_typeOfBound a1 z = some (r, z')) : lc_fr lc_a3 z z' := by
  rw [fK_typeOfBound] at hf
  by_cases hc1 : a1 = 0
  · replace hf := lc_ite_pos hc1 hf
    obtain ⟨hw2, hf⟩ := lc_chk_some hf
    cases hf
    exact lc_fr.rf
  · replace hf := lc_ite_neg hc1 hf
    obtain ⟨q16, hq16, hf⟩ := lc_bnr_some hf
    obtain ⟨hw3, hf⟩ := lc_chk_some hf
    obtain ⟨hw4, hf⟩ := lc_chk_some hf
    obtain ⟨r24, z24, hz24, hf⟩ := lc_bnd_some hf
    have gz24 : lc_fr lc_a3 z z24 := lc_fr.rf.tr (g3K_typeOfPart hz24)
    cases hf
    exact gz24

set_option maxHeartbeats 1000000 in
theorem g3T_partOf {a1 : Int32} {a2 : Int32} {z : lc_S} {r} {z' : lc_S} (hf : fT_partOf a1 a2 z = some (r, z')) : lc_fr lc_a3 z z' := by
  rw [fT_partOf] at hf
  by_cases hc1 : a2 = 0
  · replace hf := lc_ite_pos hc1 hf
    cases hf
    exact lc_fr.rf
  · replace hf := lc_ite_neg hc1 hf
    by_cases hc2 : a2 = 1
    · replace hf := lc_ite_pos hc2 hf
      obtain ⟨hw3, hf⟩ := lc_chk_some hf
      cases hf
      exact lc_fr.rf
    · replace hf := lc_ite_neg hc2 hf
      obtain ⟨hw4, hf⟩ := lc_chk_some hf
      cases hf
      exact lc_fr.rf

set_option maxHeartbeats 1000000 in
theorem g3T_isPair {a1 : Int32} {z : lc_S} {r} {z' : lc_S} (hf : fT_isPair a1 z = some (r, z')) : lc_fr lc_a3 z z' := by
  rw [fT_isPair] at hf
  by_cases hc1 : a1 < 3
  · replace hf := lc_ite_pos hc1 hf
    cases hf
    exact lc_fr.rf
  · replace hf := lc_ite_neg hc1 hf
    cases hf
    exact lc_fr.rf

set_option maxHeartbeats 1000000 in
theorem g3K_findType_341 {z : lc_S} {r} {z' : lc_S} (hf : fK_findType_341 z = some (r, z')) : lc_fr lc_a3 z z' := by
  rw [fK_findType_341] at hf
  cases hf
  exact lc_fr.rf

set_option maxHeartbeats 1000000 in
theorem g3K_findType_277 {z : lc_S} {r} {z' : lc_S} (hf : fK_findType_277 z = some (r, z')) : lc_fr lc_a3 z z' := by
  rw [fK_findType_277] at hf
  cases hf
  exact lc_fr.rf

set_option maxHeartbeats 1000000 in
theorem g3K_findType_194 {z : lc_S} {r} {z' : lc_S} (hf : fK_findType_194 z = some (r, z')) : lc_fr lc_a3 z z' := by
  rw [fK_findType_194] at hf
  cases hf
  exact lc_fr.rf

set_option maxHeartbeats 1000000 in
theorem g3K_findType {a1 : Int32} {z : lc_S} {r} {z' : lc_S} (hf : fK_findType a1 z = some (r, z')) : lc_fr lc_a3 z z' := by
  rw [fK_findType] at hf
  obtain ⟨q2, hq2, hf⟩ := lc_bnr_some hf
  obtain ⟨hw1, hf⟩ := lc_chk_some hf
  obtain ⟨hw2, hf⟩ := lc_chk_some hf
  obtain ⟨r10, z10, hz10, hf⟩ := lc_bnd_some hf
  have gz10 : lc_fr lc_a3 z z10 := lc_fr.rf.tr (g3K_typeOfPart hz10)
  obtain ⟨q16, hq16, hf⟩ := lc_bnr_some hf
  obtain ⟨hw3, hf⟩ := lc_chk_some hf
  obtain ⟨hw4, hf⟩ := lc_chk_some hf
  obtain ⟨r24, z24, hz24, hf⟩ := lc_bnd_some hf
  have gz24 : lc_fr lc_a3 z z24 := gz10.tr (g3K_typeOfPart hz24)
  obtain ⟨q29, hq29, hf⟩ := lc_bnr_some hf
  obtain ⟨hw5, hf⟩ := lc_chk_some hf
  obtain ⟨hw6, hf⟩ := lc_chk_some hf
  by_cases hc7 : (lcI z24 (q29 + 2) a1.toNatClampNeg) = 35
  · replace hf := lc_ite_pos hc7 hf
    cases hf
    exact gz24
  · replace hf := lc_ite_neg hc7 hf
    by_cases hc8 : (lcI z24 (q29 + 2) a1.toNatClampNeg) = 44
    · replace hf := lc_ite_pos hc8 hf
      obtain ⟨r229, z229, hz229, hf⟩ := lc_bnd_some hf
      have gz229 : lc_fr lc_a3 z z229 := gz24.tr (g3T_pairOf hz229)
      cases hf
      exact gz229
    · replace hf := lc_ite_neg hc8 hf
      by_cases hc9 : (lcI z24 (q29 + 2) a1.toNatClampNeg) = 47
      · replace hf := lc_ite_pos hc9 hf
        obtain ⟨r211, z211, hz211, hf⟩ := lc_bnd_some hf
        have gz211 : lc_fr lc_a3 z z211 := gz24.tr (g3T_isPair hz211)
        by_cases hc10 : r211 = 0
        · replace hf := lc_ite_pos hc10 hf
          cases hf
          exact gz211
        · replace hf := lc_ite_neg hc10 hf
          cases hf
          exact gz211
      · replace hf := lc_ite_neg hc9 hf
        by_cases hc11 : (lcI z24 (q29 + 2) a1.toNatClampNeg) = 58
        · replace hf := lc_ite_pos hc11 hf
          by_cases hc12 : r10 = 0
          · replace hf := lc_ite_pos hc12 hf
            cases hf
            exact gz24
          · replace hf := lc_ite_neg hc12 hf
            cases hf
            exact gz24
        · replace hf := lc_ite_neg hc11 hf
          by_cases hc13 : (lcI z24 (q29 + 2) a1.toNatClampNeg) = 63
          · replace hf := lc_ite_pos hc13 hf
            by_cases hc14 : r10 = 1
            · replace hf := lc_ite_pos hc14 hf
              obtain ⟨q176, hq176, hf⟩ := lc_bnr_some hf
              obtain ⟨hw15, hf⟩ := lc_chk_some hf
              obtain ⟨hw16, hf⟩ := lc_chk_some hf
              obtain ⟨r184, z184, hz184, hf⟩ := lc_bnd_some hf
              have gz184 : lc_fr lc_a3 z z184 := gz24.tr (g3K_typeOfPart hz184)
              by_cases hc17 : r24 = r184
              · replace hf := lc_ite_pos hc17 hf
                cases hf
                exact gz184
              · replace hf := lc_ite_neg hc17 hf
                exact gz184.tr (g3K_findType_194 hf)
            · replace hf := lc_ite_neg hc14 hf
              exact gz24.tr (g3K_findType_194 hf)
          · replace hf := lc_ite_neg hc13 hf
            by_cases hc18 : (lcI z24 (q29 + 2) a1.toNatClampNeg) = 64
            · replace hf := lc_ite_pos hc18 hf
              obtain ⟨q296, hq296, hf⟩ := lc_bnr_some hf
              obtain ⟨hw19, hf⟩ := lc_chk_some hf
              obtain ⟨hw20, hf⟩ := lc_chk_some hf
              obtain ⟨hw21, hf⟩ := lc_chk_some hf
              by_cases hc22 : r10 = (lcI z24 15 (lcI z24 (q296 + 6) a1.toNatClampNeg).toNatClampNeg)
              · replace hf := lc_ite_pos hc22 hf
                obtain ⟨q313, hq313, hf⟩ := lc_bnr_some hf
                obtain ⟨hw23, hf⟩ := lc_chk_some hf
                obtain ⟨hw24, hf⟩ := lc_chk_some hf
                obtain ⟨hw25, hf⟩ := lc_chk_some hf
                cases hf
                exact gz24
              · replace hf := lc_ite_neg hc22 hf
                cases hf
                exact gz24
            · replace hf := lc_ite_neg hc18 hf
              by_cases hc26 : (lcI z24 (q29 + 2) a1.toNatClampNeg) = 100
              · replace hf := lc_ite_pos hc26 hf
                by_cases hc27 : r10 = 2
                · replace hf := lc_ite_pos hc27 hf
                  cases hf
                  exact gz24
                · replace hf := lc_ite_neg hc27 hf
                  cases hf
                  exact gz24
              · replace hf := lc_ite_neg hc26 hf
                by_cases hc28 : (lcI z24 (q29 + 2) a1.toNatClampNeg) = 103
                · replace hf := lc_ite_pos hc28 hf
                  by_cases hc29 : r10 = 2
                  · replace hf := lc_ite_pos hc29 hf
                    obtain ⟨r255, z255, hz255, hf⟩ := lc_bnd_some hf
                    have gz255 : lc_fr lc_a3 z z255 := gz24.tr (g3T_pairOf hz255)
                    cases hf
                    exact gz255
                  · replace hf := lc_ite_neg hc29 hf
                    cases hf
                    exact gz24
                · replace hf := lc_ite_neg hc28 hf
                  by_cases hc30 : (lcI z24 (q29 + 2) a1.toNatClampNeg) = 110
                  · replace hf := lc_ite_pos hc30 hf
                    by_cases hc31 : r10 = 1
                    · replace hf := lc_ite_pos hc31 hf
                      cases hf
                      exact gz24
                    · replace hf := lc_ite_neg hc31 hf
                      cases hf
                      exact gz24
                  · replace hf := lc_ite_neg hc30 hf
                    by_cases hc32 : (lcI z24 (q29 + 2) a1.toNatClampNeg) = 112
                    · replace hf := lc_ite_pos hc32 hf
                      by_cases hc33 : r10 = 2
                      · replace hf := lc_ite_pos hc33 hf
                        by_cases hc34 : r24 = 1
                        · replace hf := lc_ite_pos hc34 hf
                          cases hf
                          exact gz24
                        · replace hf := lc_ite_neg hc34 hf
                          exact gz24.tr (g3K_findType_277 hf)
                      · replace hf := lc_ite_neg hc33 hf
                        exact gz24.tr (g3K_findType_277 hf)
                    · replace hf := lc_ite_neg hc32 hf
                      by_cases hc35 : (lcI z24 (q29 + 2) a1.toNatClampNeg) = 118
                      · replace hf := lc_ite_pos hc35 hf
                        obtain ⟨q144, hq144, hf⟩ := lc_bnr_some hf
                        obtain ⟨hw36, hf⟩ := lc_chk_some hf
                        obtain ⟨hw37, hf⟩ := lc_chk_some hf
                        obtain ⟨r152, z152, hz152, hf⟩ := lc_bnd_some hf
                        have gz152 : lc_fr lc_a3 z z152 := gz24.tr (g3K_typeOfBound hz152)
                        obtain ⟨q156, hq156, hf⟩ := lc_bnr_some hf
                        obtain ⟨hw38, hf⟩ := lc_chk_some hf
                        obtain ⟨hw39, hf⟩ := lc_chk_some hf
                        obtain ⟨r164, z164, hz164, hf⟩ := lc_bnd_some hf
                        have gz164 : lc_fr lc_a3 z z164 := gz152.tr (g3T_partOf hz164)
                        cases hf
                        exact gz164
                      · replace hf := lc_ite_neg hc35 hf
                        by_cases hc40 : r10 = 1
                        · replace hf := lc_ite_pos hc40 hf
                          by_cases hc41 : r24 = 1
                          · replace hf := lc_ite_pos hc41 hf
                            cases hf
                            exact gz24
                          · replace hf := lc_ite_neg hc41 hf
                            exact gz24.tr (g3K_findType_341 hf)
                        · replace hf := lc_ite_neg hc40 hf
                          exact gz24.tr (g3K_findType_341 hf)

set_option maxHeartbeats 1000000 in
theorem g3P_body {o0 : Nat} {z : lc_S} {r} {z' : lc_S} (hf : fP_body o0 z = some (r, z')) : lc_fr lc_a3 z z' := by
  rw [fP_body] at hf
  obtain ⟨hw1, hf⟩ := lc_chk_some hf
  cases hf
  exact lc_fr.rf

set_option maxHeartbeats 1000000 in
theorem g3K_findBodyType_19 : ∀ {n : Nat} {x3 : Int32} {z : lc_S} {r} {z' : lc_S}, fK_findBodyType_19 n x3 z = some (r, z') → lc_fr lc_a3 z z' := by
  intro n
  induction n with
  | zero =>
    intro x3 z r z' hf
    cases (show none = some (r, z') from hf)
  | succ n ih =>
    intro x3 z r z' hf
    rw [fK_findBodyType_19] at hf
    obtain ⟨q21, hq21, hf⟩ := lc_bnr_some hf
    obtain ⟨hw1, hf⟩ := lc_chk_some hf
    by_cases hc2 : (lcI z q21 11) ≤ x3
    · replace hf := lc_ite_pos hc2 hf
      obtain ⟨q49, hq49, hf⟩ := lc_bnr_some hf
      obtain ⟨hw3, hf⟩ := lc_chk_some hf
      obtain ⟨r52, z52, hz52, hf⟩ := lc_bnd_some hf
      have gz52 : lc_fr lc_a3 z z52 := lc_fr.rf.tr (g3P_body hz52)
      obtain ⟨r55, z55, hz55, hf⟩ := lc_bnd_some hf
      have gz55 : lc_fr lc_a3 z z55 := gz52.tr (g3K_typeOfPart hz55)
      cases hf
      exact gz55
    · replace hf := lc_ite_neg hc2 hf
      obtain ⟨r37, z37, hz37, hf⟩ := lc_bnd_some hf
      have gz37 : lc_fr lc_a3 z z37 := lc_fr.rf.tr (g3K_findType hz37)
      obtain ⟨hw4, hf⟩ := lc_chk_some hf
      obtain ⟨x41, ex41⟩ : ∃ x, x = x3 + 1 := ⟨_, rfl⟩
      replace hf := lc_let_of ex41 hf
      exact (gz37.ui rfl).tr (ih hf)

set_option maxHeartbeats 1000000 in
theorem g3K_findBodyType {a1 : Nat} {a2 : Int32} {z : lc_S} {r} {z' : lc_S} (hf : fK_findBodyType a1 a2 z = some (r, z')) : lc_fr lc_a3 z z' := by
  rw [fK_findBodyType] at hf
  obtain ⟨r2, z2, hz2, hf⟩ := lc_bnd_some hf
  have gz2 : lc_fr lc_a3 z z2 := lc_fr.rf.tr (g3K_findWrittenTypes hz2)
  obtain ⟨hw1, hf⟩ := lc_chk_some hf
  obtain ⟨hw2, hf⟩ := lc_chk_some hf
  obtain ⟨q13, hq13, hf⟩ := lc_bnr_some hf
  exact ((gz2.ui rfl).ur rfl).tr (g3K_findBodyType_19 hf)

set_option maxHeartbeats 1000000 in
theorem g3T_isLinear {a1 : Int32} {z : lc_S} {r} {z' : lc_S} (hf : fT_isLinear a1 z = some (r, z')) : lc_fr lc_a3 z z' := by
  rw [fT_isLinear] at hf
  obtain ⟨hw1, hf⟩ := lc_chk_some hf
  obtain ⟨hw2, hf⟩ := lc_chk_some hf
  cases hf
  exact lc_fr.rf

set_option maxHeartbeats 1000000 in
theorem g3K_usesOfPart {a1 : Int32} {z : lc_S} {r} {z' : lc_S} (hf : fK_usesOfPart a1 z = some (r, z')) : lc_fr lc_a3 z z' := by
  rw [fK_usesOfPart] at hf
  by_cases hc1 : 0 ≤ a1
  · replace hf := lc_ite_pos hc1 hf
    obtain ⟨hw2, hf⟩ := lc_chk_some hf
    cases hf
    exact lc_fr.rf
  · replace hf := lc_ite_neg hc1 hf
    cases hf
    exact lc_fr.rf

set_option maxHeartbeats 1000000 in
theorem g3K_usesOf_150 {k13 : Int32 → Int32 → Int32 → Int32 → lc_S → Option ((Int32) × lc_S)} (hk13 : ∀ {v0 : Int32} {v1 : Int32} {v2 : Int32} {v3 : Int32} {z : lc_S} {r} {z' : lc_S}, k13 v0 v1 v2 v3 z = some (r, z') → lc_fr lc_a3 z z') {x1 : Int32} {x2 : Int32} {x3 : Int32} {x4 : Int32} {z : lc_S} {r} {z' : lc_S} (hf : fK_usesOf_150 k13 x1 x2 x3 x4 z = some (r, z')) : lc_fr lc_a3 z z' := by
  rw [fK_usesOf_150] at hf
  obtain ⟨x150, ex150⟩ : ∃ x, x = x4 + 1 := ⟨_, rfl⟩
  replace hf := lc_let_of ex150 hf
  exact lc_fr.rf.tr (hk13 hf)

set_option maxHeartbeats 1000000 in
theorem g3K_usesOf_87 {k13 : Int32 → Int32 → Int32 → Int32 → lc_S → Option ((Int32) × lc_S)} (hk13 : ∀ {v0 : Int32} {v1 : Int32} {v2 : Int32} {v3 : Int32} {z : lc_S} {r} {z' : lc_S}, k13 v0 v1 v2 v3 z = some (r, z') → lc_fr lc_a3 z z') {x1 : Int32} {x2 : Int32} {x3 : Int32} {x4 : Int32} {x5 : Int32} {x6 : Int32} {z : lc_S} {r} {z' : lc_S} (hf : fK_usesOf_87 k13 x1 x2 x3 x4 x5 x6 z = some (r, z')) : lc_fr lc_a3 z z' := by
  rw [fK_usesOf_87] at hf
  obtain ⟨hw1, hf⟩ := lc_chk_some hf
  obtain ⟨q100, hq100, hf⟩ := lc_bnr_some hf
  obtain ⟨hw2, hf⟩ := lc_chk_some hf
  obtain ⟨hw3, hf⟩ := lc_chk_some hf
  by_cases hc4 : (lcI (lcUI z 18 x4.toNatClampNeg (x5 + x6)) (q100 + 7) x4.toNatClampNeg) = x1
  · replace hf := lc_ite_pos hc4 hf
    obtain ⟨q114, hq114, hf⟩ := lc_bnr_some hf
    obtain ⟨hw5, hf⟩ := lc_chk_some hf
    obtain ⟨hw6, hf⟩ := lc_chk_some hf
    by_cases hc7 : (lcI (lcUI z 18 x4.toNatClampNeg (x5 + x6)) (q114 + 6) x4.toNatClampNeg) = x2
    · replace hf := lc_ite_pos hc7 hf
      obtain ⟨q128, hq128, hf⟩ := lc_bnr_some hf
      obtain ⟨hw8, hf⟩ := lc_chk_some hf
      obtain ⟨hw9, hf⟩ := lc_chk_some hf
      by_cases hc10 : (lcI (lcUI z 18 x4.toNatClampNeg (x5 + x6)) (q128 + 2) x4.toNatClampNeg) = 118
      · replace hf := lc_ite_pos hc10 hf
        obtain ⟨hw11, hf⟩ := lc_chk_some hf
        exact ((lc_fr.rf.ui rfl).ui rfl).tr (g3K_usesOf_150 (fun h => hk13 h) hf)
      · replace hf := lc_ite_neg hc10 hf
        exact (lc_fr.rf.ui rfl).tr (g3K_usesOf_150 (fun h => hk13 h) hf)
    · replace hf := lc_ite_neg hc7 hf
      exact (lc_fr.rf.ui rfl).tr (g3K_usesOf_150 (fun h => hk13 h) hf)
  · replace hf := lc_ite_neg hc4 hf
    exact (lc_fr.rf.ui rfl).tr (g3K_usesOf_150 (fun h => hk13 h) hf)

set_option maxHeartbeats 1000000 in
theorem g3K_usesOf_13 : ∀ {n : Nat} {x1 : Int32} {x2 : Int32} {x3 : Int32} {x4 : Int32} {z : lc_S} {r} {z' : lc_S}, fK_usesOf_13 n x1 x2 x3 x4 z = some (r, z') → lc_fr lc_a3 z z' := by
  intro n
  induction n with
  | zero =>
    intro x1 x2 x3 x4 z r z' hf
    cases (show none = some (r, z') from hf)
  | succ n ih =>
    intro x1 x2 x3 x4 z r z' hf
    rw [fK_usesOf_13] at hf
    by_cases hc1 : x3 < x4
    · replace hf := lc_ite_pos hc1 hf
      obtain ⟨r158, z158, hz158, hf⟩ := lc_bnd_some hf
      have gz158 : lc_fr lc_a3 z z158 := lc_fr.rf.tr (g3K_usesOfPart hz158)
      cases hf
      exact gz158
    · replace hf := lc_ite_neg hc1 hf
      obtain ⟨q21, hq21, hf⟩ := lc_bnr_some hf
      obtain ⟨hw2, hf⟩ := lc_chk_some hf
      obtain ⟨hw3, hf⟩ := lc_chk_some hf
      obtain ⟨r30, z30, hz30, hf⟩ := lc_bnd_some hf
      have gz30 : lc_fr lc_a3 z z30 := lc_fr.rf.tr (g3K_usesOfPart hz30)
      obtain ⟨q37, hq37, hf⟩ := lc_bnr_some hf
      obtain ⟨hw4, hf⟩ := lc_chk_some hf
      obtain ⟨hw5, hf⟩ := lc_chk_some hf
      obtain ⟨r46, z46, hz46, hf⟩ := lc_bnd_some hf
      have gz46 : lc_fr lc_a3 z z46 := gz30.tr (g3K_usesOfPart hz46)
      obtain ⟨q52, hq52, hf⟩ := lc_bnr_some hf
      obtain ⟨hw6, hf⟩ := lc_chk_some hf
      obtain ⟨hw7, hf⟩ := lc_chk_some hf
      by_cases hc8 : (lcI z46 (q52 + 2) x4.toNatClampNeg) = 63
      · replace hf := lc_ite_pos hc8 hf
        obtain ⟨q70, hq70, hf⟩ := lc_bnr_some hf
        obtain ⟨hw9, hf⟩ := lc_chk_some hf
        obtain ⟨hw10, hf⟩ := lc_chk_some hf
        obtain ⟨r79, z79, hz79, hf⟩ := lc_bnd_some hf
        have gz79 : lc_fr lc_a3 z z79 := gz46.tr (g3K_usesOfPart hz79)
        by_cases hc11 : r46 = r79
        · replace hf := lc_ite_pos hc11 hf
          exact gz79.tr (g3K_usesOf_87 (fun h => ih h) hf)
        · replace hf := lc_ite_neg hc11 hf
          cases hf
          exact gz79
      · replace hf := lc_ite_neg hc8 hf
        exact gz46.tr (g3K_usesOf_87 (fun h => ih h) hf)

set_option maxHeartbeats 1000000 in
theorem g3K_usesOf {a1 : Int32} {a2 : Int32} {a3 : Int32} {z : lc_S} {r} {z' : lc_S} (hf : fK_usesOf a1 a2 a3 z = some (r, z')) : lc_fr lc_a3 z z' := by
  rw [fK_usesOf] at hf
  obtain ⟨q1, hq1, hf⟩ := lc_bnr_some hf
  obtain ⟨hw1, hf⟩ := lc_chk_some hf
  obtain ⟨hw2, hf⟩ := lc_chk_some hf
  obtain ⟨x11, ex11⟩ : ∃ x, x = (lcI z (q1 + 8) a1.toNatClampNeg) + 1 := ⟨_, rfl⟩
  replace hf := lc_let_of ex11 hf
  exact lc_fr.rf.tr (g3K_usesOf_13 hf)

set_option maxHeartbeats 1000000 in
theorem g3K_isUsedWell_34 {z : lc_S} {r} {z' : lc_S} (hf : fK_isUsedWell_34 z = some (r, z')) : lc_fr lc_a3 z z' := by
  rw [fK_isUsedWell_34] at hf
  cases hf
  exact lc_fr.rf

set_option maxHeartbeats 1000000 in
theorem g3K_isUsedWell {a1 : Int32} {a2 : Int32} {a3 : Int32} {z : lc_S} {r} {z' : lc_S} (hf : fK_isUsedWell a1 a2 a3 z = some (r, z')) : lc_fr lc_a3 z z' := by
  rw [fK_isUsedWell] at hf
  obtain ⟨r10, z10, hz10, hf⟩ := lc_bnd_some hf
  have gz10 : lc_fr lc_a3 z z10 := lc_fr.rf.tr (g3K_typeOfBound hz10)
  obtain ⟨r14, z14, hz14, hf⟩ := lc_bnd_some hf
  have gz14 : lc_fr lc_a3 z z14 := gz10.tr (g3T_partOf hz14)
  obtain ⟨r17, z17, hz17, hf⟩ := lc_bnd_some hf
  have gz17 : lc_fr lc_a3 z z17 := gz14.tr (g3T_isLinear hz17)
  by_cases hc1 : r17 = 0
  · replace hf := lc_ite_pos hc1 hf
    exact gz17.tr (g3K_isUsedWell_34 hf)
  · replace hf := lc_ite_neg hc1 hf
    obtain ⟨r27, z27, hz27, hf⟩ := lc_bnd_some hf
    have gz27 : lc_fr lc_a3 z z27 := gz17.tr (g3K_usesOf hz27)
    by_cases hc2 : r27 = 1
    · replace hf := lc_ite_pos hc2 hf
      exact gz27.tr (g3K_isUsedWell_34 hf)
    · replace hf := lc_ite_neg hc2 hf
      cases hf
      exact gz27

set_option maxHeartbeats 1000000 in
theorem g3K_eachVariableIsUsedWell_111 {z : lc_S} {r} {z' : lc_S} (hf : fK_eachVariableIsUsedWell_111 z = some (r, z')) : lc_fr lc_a3 z z' := by
  rw [fK_eachVariableIsUsedWell_111] at hf
  cases hf
  exact lc_fr.rf

set_option maxHeartbeats 1000000 in
theorem g3K_eachVariableIsUsedWell_113 {k20 : Int32 → lc_S → Option ((Int32) × lc_S)} (hk20 : ∀ {v0 : Int32} {z : lc_S} {r} {z' : lc_S}, k20 v0 z = some (r, z') → lc_fr lc_a3 z z') {x1 : Int32} {z : lc_S} {r} {z' : lc_S} (hf : fK_eachVariableIsUsedWell_113 k20 x1 z = some (r, z')) : lc_fr lc_a3 z z' := by
  rw [fK_eachVariableIsUsedWell_113] at hf
  obtain ⟨x113, ex113⟩ : ∃ x, x = x1 + 1 := ⟨_, rfl⟩
  replace hf := lc_let_of ex113 hf
  exact lc_fr.rf.tr (hk20 hf)

set_option maxHeartbeats 1000000 in
theorem g3K_eachVariableIsUsedWell_77 {k20 : Int32 → lc_S → Option ((Int32) × lc_S)} (hk20 : ∀ {v0 : Int32} {z : lc_S} {r} {z' : lc_S}, k20 v0 z = some (r, z') → lc_fr lc_a3 z z') {x1 : Int32} {x2 : Int32} {x3 : Int32} {z : lc_S} {r} {z' : lc_S} (hf : fK_eachVariableIsUsedWell_77 k20 x1 x2 x3 z = some (r, z')) : lc_fr lc_a3 z z' := by
  rw [fK_eachVariableIsUsedWell_77] at hf
  obtain ⟨q78, hq78, hf⟩ := lc_bnr_some hf
  obtain ⟨hw1, hf⟩ := lc_chk_some hf
  obtain ⟨hw2, hf⟩ := lc_chk_some hf
  by_cases hc3 : (lcI z (q78 + 2) x1.toNatClampNeg) = 47
  · replace hf := lc_ite_pos hc3 hf
    obtain ⟨r95, z95, hz95, hf⟩ := lc_bnd_some hf
    have gz95 : lc_fr lc_a3 z z95 := lc_fr.rf.tr (g3K_isUsedWell hz95)
    by_cases hc4 : r95 = 0
    · replace hf := lc_ite_pos hc4 hf
      exact gz95.tr (g3K_eachVariableIsUsedWell_111 hf)
    · replace hf := lc_ite_neg hc4 hf
      obtain ⟨r105, z105, hz105, hf⟩ := lc_bnd_some hf
      have gz105 : lc_fr lc_a3 z z105 := gz95.tr (g3K_isUsedWell hz105)
      by_cases hc5 : r105 = 0
      · replace hf := lc_ite_pos hc5 hf
        exact gz105.tr (g3K_eachVariableIsUsedWell_111 hf)
      · replace hf := lc_ite_neg hc5 hf
        exact gz105.tr (g3K_eachVariableIsUsedWell_113 (fun h => hk20 h) hf)
  · replace hf := lc_ite_neg hc3 hf
    exact lc_fr.rf.tr (g3K_eachVariableIsUsedWell_113 (fun h => hk20 h) hf)

set_option maxHeartbeats 1000000 in
theorem g3K_eachVariableIsUsedWell_20 : ∀ {n : Nat} {x1 : Int32} {z : lc_S} {r} {z' : lc_S}, fK_eachVariableIsUsedWell_20 n x1 z = some (r, z') → lc_fr lc_a3 z z' := by
  intro n
  induction n with
  | zero =>
    intro x1 z r z' hf
    cases (show none = some (r, z') from hf)
  | succ n ih =>
    intro x1 z r z' hf
    rw [fK_eachVariableIsUsedWell_20] at hf
    obtain ⟨q22, hq22, hf⟩ := lc_bnr_some hf
    obtain ⟨hw1, hf⟩ := lc_chk_some hf
    by_cases hc2 : (lcI z q22 11) ≤ x1
    · replace hf := lc_ite_pos hc2 hf
      cases hf
      exact lc_fr.rf
    · replace hf := lc_ite_neg hc2 hf
      obtain ⟨q32, hq32, hf⟩ := lc_bnr_some hf
      obtain ⟨hw3, hf⟩ := lc_chk_some hf
      obtain ⟨hw4, hf⟩ := lc_chk_some hf
      obtain ⟨x40, ex40⟩ : ∃ x, x = lcI z (q32 + 7) x1.toNatClampNeg := ⟨_, rfl⟩
      replace hf := lc_let_of ex40 hf
      obtain ⟨q42, hq42, hf⟩ := lc_bnr_some hf
      obtain ⟨hw5, hf⟩ := lc_chk_some hf
      obtain ⟨hw6, hf⟩ := lc_chk_some hf
      obtain ⟨x50, ex50⟩ : ∃ x, x = lcI z (q42 + 4) x1.toNatClampNeg := ⟨_, rfl⟩
      replace hf := lc_let_of ex50 hf
      obtain ⟨q52, hq52, hf⟩ := lc_bnr_some hf
      obtain ⟨hw7, hf⟩ := lc_chk_some hf
      obtain ⟨hw8, hf⟩ := lc_chk_some hf
      by_cases hc9 : (lcI z (q52 + 2) x1.toNatClampNeg) = 58
      · replace hf := lc_ite_pos hc9 hf
        obtain ⟨r69, z69, hz69, hf⟩ := lc_bnd_some hf
        have gz69 : lc_fr lc_a3 z z69 := lc_fr.rf.tr (g3K_isUsedWell hz69)
        by_cases hc10 : r69 = 0
        · replace hf := lc_ite_pos hc10 hf
          cases hf
          exact gz69
        · replace hf := lc_ite_neg hc10 hf
          exact gz69.tr (g3K_eachVariableIsUsedWell_77 (fun h => ih h) hf)
      · replace hf := lc_ite_neg hc9 hf
        exact lc_fr.rf.tr (g3K_eachVariableIsUsedWell_77 (fun h => ih h) hf)

set_option maxHeartbeats 1000000 in
theorem g3K_eachVariableIsUsedWell {z : lc_S} {r} {z' : lc_S} (hf : fK_eachVariableIsUsedWell z = some (r, z')) : lc_fr lc_a3 z z' := by
  rw [fK_eachVariableIsUsedWell] at hf
  obtain ⟨q4, hq4, hf⟩ := lc_bnr_some hf
  obtain ⟨hw1, hf⟩ := lc_chk_some hf
  obtain ⟨r7, z7, hz7, hf⟩ := lc_bnd_some hf
  have gz7 : lc_fr lc_a3 z z7 := lc_fr.rf.tr (g3P_body hz7)
  obtain ⟨r10, z10, hz10, hf⟩ := lc_bnd_some hf
  have gz10 : lc_fr lc_a3 z z10 := gz7.tr (g3K_isUsedWell hz10)
  by_cases hc2 : r10 = 0
  · replace hf := lc_ite_pos hc2 hf
    cases hf
    exact gz10
  · replace hf := lc_ite_neg hc2 hf
    exact gz10.tr (g3K_eachVariableIsUsedWell_20 hf)

set_option maxHeartbeats 1000000 in
theorem g3K_findsNoFault_43 {z : lc_S} {r} {z' : lc_S} (hf : fK_findsNoFault_43 z = some (r, z')) : lc_fr lc_a3 z z' := by
  rw [fK_findsNoFault_43] at hf
  cases hf
  exact lc_fr.rf

set_option maxHeartbeats 1000000 in
theorem g3K_findsNoFault {a1 : Nat} {a2 : Int32} {z : lc_S} {r} {z' : lc_S} (hf : fK_findsNoFault a1 a2 z = some (r, z')) : lc_fr lc_a3 z z' := by
  rw [fK_findsNoFault] at hf
  obtain ⟨hw1, hf⟩ := lc_chk_some hf
  obtain ⟨hw2, hf⟩ := lc_chk_some hf
  obtain ⟨q2, hq2, hf⟩ := lc_bnr_some hf
  obtain ⟨hw3, hf⟩ := lc_chk_some hf
  by_cases hc4 : (lcI z q2 0) = 0
  · replace hf := lc_ite_pos hc4 hf
    cases hf
    exact lc_fr.rf
  · replace hf := lc_ite_neg hc4 hf
    obtain ⟨r14, z14, hz14, hf⟩ := lc_bnd_some hf
    have gz14 : lc_fr lc_a3 z z14 := lc_fr.rf.tr (g3K_findBodyType hz14)
    by_cases hc5 : r14 = 0
    · replace hf := lc_ite_pos hc5 hf
      exact gz14.tr (g3K_findsNoFault_43 hf)
    · replace hf := lc_ite_neg hc5 hf
      obtain ⟨hw6, hf⟩ := lc_chk_some hf
      by_cases hc7 : r14 = (lcI z14 16 a2.toNatClampNeg)
      · replace hf := lc_ite_pos hc7 hf
        obtain ⟨r33, z33, hz33, hf⟩ := lc_bnd_some hf
        have gz33 : lc_fr lc_a3 z z33 := gz14.tr (g3K_eachVariableIsUsedWell hz33)
        by_cases hc8 : r33 = 0
        · replace hf := lc_ite_pos hc8 hf
          exact gz33.tr (g3K_findsNoFault_43 hf)
        · replace hf := lc_ite_neg hc8 hf
          cases hf
          exact gz33
      · replace hf := lc_ite_neg hc7 hf
        exact gz14.tr (g3K_findsNoFault_43 hf)

set_option maxHeartbeats 1000000 in
theorem g3A_sound_48 {k18 : Int32 → Int32 → lc_S → Option ((Int32) × lc_S)} (hk18 : ∀ {v0 : Int32} {v1 : Int32} {z : lc_S} {r} {z' : lc_S}, k18 v0 v1 z = some (r, z') → lc_fr lc_a3 z z') {x2 : Int32} {x3 : Int32} {z : lc_S} {r} {z' : lc_S} (hf : fA_sound_48 k18 x2 x3 z = some (r, z')) : lc_fr lc_a3 z z' := by
  rw [fA_sound_48] at hf
  obtain ⟨x48, ex48⟩ : ∃ x, x = x3 + 1 := ⟨_, rfl⟩
  replace hf := lc_let_of ex48 hf
  exact lc_fr.rf.tr (hk18 hf)

set_option maxHeartbeats 1000000 in
theorem g3A_sound_18 : ∀ {n : Nat} {x2 : Int32} {x3 : Int32} {z : lc_S} {r} {z' : lc_S}, fA_sound_18 n x2 x3 z = some (r, z') → lc_fr lc_a3 z z' := by
  intro n
  induction n with
  | zero =>
    intro x2 x3 z r z' hf
    cases (show none = some (r, z') from hf)
  | succ n ih =>
    intro x2 x3 z r z' hf
    rw [fA_sound_18] at hf
    by_cases hc1 : 4 ≤ x3
    · replace hf := lc_ite_pos hc1 hf
      cases hf
      exact lc_fr.rf
    · replace hf := lc_ite_neg hc1 hf
      obtain ⟨r25, z25, hz25, hf⟩ := lc_bnd_some hf
      have gz25 : lc_fr lc_a3 z z25 := lc_fr.rf.tr (g3A_hasBit hz25)
      by_cases hc2 : r25 = 0
      · replace hf := lc_ite_pos hc2 hf
        exact gz25.tr (g3A_sound_48 (fun h => ih h) hf)
      · replace hf := lc_ite_neg hc2 hf
        obtain ⟨r40, z40, hz40, hf⟩ := lc_bnd_some hf
        have gz40 : lc_fr lc_a3 z z40 := gz25.tr (g3K_findsNoFault hz40)
        by_cases hc3 : r40 = 0
        · replace hf := lc_ite_pos hc3 hf
          cases hf
          exact gz40
        · replace hf := lc_ite_neg hc3 hf
          exact gz40.tr (g3A_sound_48 (fun h => ih h) hf)

set_option maxHeartbeats 1000000 in
theorem g3A_sound {a1 : Int32} {z : lc_S} {r} {z' : lc_S} (hf : fA_sound a1 z = some (r, z')) : lc_fr lc_a3 z z' := by
  rw [fA_sound] at hf
  obtain ⟨r2, z2, hz2, hf⟩ := lc_bnd_some hf
  have gz2 : lc_fr lc_a3 z z2 := lc_fr.rf.tr (g3A_isThere hz2)
  by_cases hc1 : r2 = 0
  · replace hf := lc_ite_pos hc1 hf
    cases hf
    exact gz2
  · replace hf := lc_ite_neg hc1 hf
    obtain ⟨r12, z12, hz12, hf⟩ := lc_bnd_some hf
    have gz12 : lc_fr lc_a3 z z12 := gz2.tr (g3A_reachedFrom hz12)
    exact gz12.tr (g3A_sound_18 hf)

set_option maxHeartbeats 1000000 in
theorem g3T_numberOf {a1 : Int32} {z : lc_S} {r} {z' : lc_S} (hf : fT_numberOf a1 z = some (r, z')) : lc_fr lc_a3 z z' := by
  rw [fT_numberOf] at hf
  obtain ⟨hw1, hf⟩ := lc_chk_some hf
  cases hf
  exact lc_fr.rf

set_option maxHeartbeats 1000000 in
theorem g3K_numberOfBodyType {a1 : Nat} {a2 : Int32} {z : lc_S} {r} {z' : lc_S} (hf : fK_numberOfBodyType a1 a2 z = some (r, z')) : lc_fr lc_a3 z z' := by
  rw [fK_numberOfBodyType] at hf
  obtain ⟨r7, z7, hz7, hf⟩ := lc_bnd_some hf
  have gz7 : lc_fr lc_a3 z z7 := lc_fr.rf.tr (g3K_findBodyType hz7)
  obtain ⟨r10, z10, hz10, hf⟩ := lc_bnd_some hf
  have gz10 : lc_fr lc_a3 z z10 := gz7.tr (g3T_numberOf hz10)
  cases hf
  exact gz10

