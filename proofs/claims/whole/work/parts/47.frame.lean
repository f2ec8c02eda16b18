/-! a run, the reference, behind its start -/
def lc_a5 (c k : Nat) : Bool := (Nat.beq c 80 && (Nat.ble 33 k && !(Nat.beq k 46))) || (Nat.ble 105 c && Nat.ble c 118)
set_option maxHeartbeats 1000000 in
theorem g5Q_isTwo_36 {z : lc_S} {r} {z' : lc_S} (hf : fQ_isTwo_36 z = some (r, z')) : lc_fr lc_a5 z z' := by
  rw [fQ_isTwo_36] at hf
  cases hf
  exact lc_fr.rf

set_option maxHeartbeats 1000000 in
theorem g5Q_isTwo {a0 : Int32} {z : lc_S} {r} {z' : lc_S} (hf : fQ_isTwo a0 z = some (r, z')) : lc_fr lc_a5 z z' := by
  rw [fQ_isTwo] at hf
  by_cases hc1 : a0 = 43
  · replace hf := lc_ite_pos hc1 hf
    exact lc_fr.rf.tr (g5Q_isTwo_36 hf)
  · replace hf := lc_ite_neg hc1 hf
    by_cases hc2 : a0 = 45
    · replace hf := lc_ite_pos hc2 hf
      exact lc_fr.rf.tr (g5Q_isTwo_36 hf)
    · replace hf := lc_ite_neg hc2 hf
      by_cases hc3 : a0 = 42
      · replace hf := lc_ite_pos hc3 hf
        exact lc_fr.rf.tr (g5Q_isTwo_36 hf)
      · replace hf := lc_ite_neg hc3 hf
        by_cases hc4 : a0 = 60
        · replace hf := lc_ite_pos hc4 hf
          exact lc_fr.rf.tr (g5Q_isTwo_36 hf)
        · replace hf := lc_ite_neg hc4 hf
          by_cases hc5 : a0 = 44
          · replace hf := lc_ite_pos hc5 hf
            exact lc_fr.rf.tr (g5Q_isTwo_36 hf)
          · replace hf := lc_ite_neg hc5 hf
            by_cases hc6 : a0 = 112
            · replace hf := lc_ite_pos hc6 hf
              exact lc_fr.rf.tr (g5Q_isTwo_36 hf)
            · replace hf := lc_ite_neg hc6 hf
              cases hf
              exact lc_fr.rf

set_option maxHeartbeats 1000000 in
theorem g5Q_partsOf_29 {z : lc_S} {r} {z' : lc_S} (hf : fQ_partsOf_29 z = some (r, z')) : lc_fr lc_a5 z z' := by
  rw [fQ_partsOf_29] at hf
  cases hf
  exact lc_fr.rf

set_option maxHeartbeats 1000000 in
theorem g5Q_partsOf_57 {z : lc_S} {r} {z' : lc_S} (hf : fQ_partsOf_57 z = some (r, z')) : lc_fr lc_a5 z z' := by
  rw [fQ_partsOf_57] at hf
  cases hf
  exact lc_fr.rf

set_option maxHeartbeats 1000000 in
theorem g5Q_partsOf {a0 : Int32} {z : lc_S} {r} {z' : lc_S} (hf : fQ_partsOf a0 z = some (r, z')) : lc_fr lc_a5 z z' := by
  rw [fQ_partsOf] at hf
  by_cases hc1 : a0 = 63
  · replace hf := lc_ite_pos hc1 hf
    cases hf
    exact lc_fr.rf
  · replace hf := lc_ite_neg hc1 hf
    obtain ⟨r11, z11, hz11, hf⟩ := lc_bnd_some hf
    have gz11 : lc_fr lc_a5 z z11 := lc_fr.rf.tr (g5Q_isTwo hz11)
    by_cases hc2 : r11 = 0
    · replace hf := lc_ite_pos hc2 hf
      by_cases hc3 : a0 = 58
      · replace hf := lc_ite_pos hc3 hf
        exact gz11.tr (g5Q_partsOf_29 hf)
      · replace hf := lc_ite_neg hc3 hf
        by_cases hc4 : a0 = 47
        · replace hf := lc_ite_pos hc4 hf
          exact gz11.tr (g5Q_partsOf_29 hf)
        · replace hf := lc_ite_neg hc4 hf
          by_cases hc5 : a0 = 110
          · replace hf := lc_ite_pos hc5 hf
            exact gz11.tr (g5Q_partsOf_57 hf)
          · replace hf := lc_ite_neg hc5 hf
            by_cases hc6 : a0 = 103
            · replace hf := lc_ite_pos hc6 hf
              exact gz11.tr (g5Q_partsOf_57 hf)
            · replace hf := lc_ite_neg hc6 hf
              by_cases hc7 : a0 = 100
              · replace hf := lc_ite_pos hc7 hf
                exact gz11.tr (g5Q_partsOf_57 hf)
              · replace hf := lc_ite_neg hc7 hf
                by_cases hc8 : a0 = 64
                · replace hf := lc_ite_pos hc8 hf
                  exact gz11.tr (g5Q_partsOf_57 hf)
                · replace hf := lc_ite_neg hc8 hf
                  cases hf
                  exact gz11
    · replace hf := lc_ite_neg hc2 hf
      exact gz11.tr (g5Q_partsOf_29 hf)

set_option maxHeartbeats 1000000 in
theorem g5Q_isThere_24 {z : lc_S} {r} {z' : lc_S} (hf : fQ_isThere_24 z = some (r, z')) : lc_fr lc_a5 z z' := by
  rw [fQ_isThere_24] at hf
  cases hf
  exact lc_fr.rf

set_option maxHeartbeats 1000000 in
theorem g5Q_isThere {a1 : Int32} {z : lc_S} {r} {z' : lc_S} (hf : fQ_isThere a1 z = some (r, z')) : lc_fr lc_a5 z z' := by
  rw [fQ_isThere] at hf
  by_cases hc1 : a1 < 0
  · replace hf := lc_ite_pos hc1 hf
    exact lc_fr.rf.tr (g5Q_isThere_24 hf)
  · replace hf := lc_ite_neg hc1 hf
    by_cases hc2 : 4 ≤ a1
    · replace hf := lc_ite_pos hc2 hf
      exact lc_fr.rf.tr (g5Q_isThere_24 hf)
    · replace hf := lc_ite_neg hc2 hf
      obtain ⟨hw3, hf⟩ := lc_chk_some hf
      by_cases hc4 : (lcI z 89 (a1 + 1).toNatClampNeg) ≤ 0
      · replace hf := lc_ite_pos hc4 hf
        exact lc_fr.rf.tr (g5Q_isThere_24 hf)
      · replace hf := lc_ite_neg hc4 hf
        cases hf
        exact lc_fr.rf

set_option maxHeartbeats 1000000 in
theorem g5Q_isNumber {a0 : Int64} {z : lc_S} {r} {z' : lc_S} (hf : fQ_isNumber a0 z = some (r, z')) : lc_fr lc_a5 z z' := by
  rw [fQ_isNumber] at hf
  by_cases hc1 : (lg_cmp (a0 >>> ((32 : Int32).toInt64 &&& 63)) 0) = 0
  · replace hf := lc_ite_pos hc1 hf
    cases hf
    exact lc_fr.rf
  · replace hf := lc_ite_neg hc1 hf
    cases hf
    exact lc_fr.rf

set_option maxHeartbeats 1000000 in
theorem g5Q_plain {a0 : Int64} {z : lc_S} {r} {z' : lc_S} (hf : fQ_plain a0 z = some (r, z')) : lc_fr lc_a5 z z' := by
  rw [fQ_plain] at hf
  cases hf
  exact lc_fr.rf

set_option maxHeartbeats 1000000 in
theorem g5Q_stop_16 {t1 : Int32} {z : lc_S} {r} {z' : lc_S} (hf : fQ_stop_16 t1 z = some (r, z')) : lc_fr lc_a5 z z' := by
  rw [fQ_stop_16] at hf
  cases hf
  exact (lc_fr.rf.ui rfl)

set_option maxHeartbeats 1000000 in
theorem g5Q_stop {a1 : Int32} {z : lc_S} {r} {z' : lc_S} (hf : fQ_stop a1 z = some (r, z')) : lc_fr lc_a5 z z' := by
  rw [fQ_stop] at hf
  by_cases hc1 : (lcI z 80 45) = 0
  · replace hf := lc_ite_pos hc1 hf
    exact lc_fr.rf.tr (g5Q_stop_16 hf)
  · replace hf := lc_ite_neg hc1 hf
    exact lc_fr.rf.tr (g5Q_stop_16 hf)

set_option maxHeartbeats 1000000 in
theorem g5Q_enter {a1 : Int32} {a2 : Int32} {a3 : Int32} {a4 : Int32} {z : lc_S} {r} {z' : lc_S} (hf : fQ_enter a1 a2 a3 a4 z = some (r, z')) : lc_fr lc_a5 z z' := by
  rw [fQ_enter] at hf
  by_cases hc1 : (lcI z 80 48) = 2000
  · replace hf := lc_ite_pos hc1 hf
    obtain ⟨r12, z12, hz12, hf⟩ := lc_bnd_some hf
    have gz12 : lc_fr lc_a5 z z12 := lc_fr.rf.tr (g5Q_stop hz12)
    cases hf
    exact gz12
  · replace hf := lc_ite_neg hc1 hf
    obtain ⟨hw2, hf⟩ := lc_chk_some hf
    obtain ⟨hw3, hf⟩ := lc_chk_some hf
    obtain ⟨hw4, hf⟩ := lc_chk_some hf
    obtain ⟨hw5, hf⟩ := lc_chk_some hf
    obtain ⟨hw6, hf⟩ := lc_chk_some hf
    cases hf
    exact (((((((lc_fr.rf.ui rfl).ui rfl).ui rfl).ui rfl).ui rfl).ui rfl).ui rfl)

set_option maxHeartbeats 1000000 in
theorem g5Q_withName {a1 : Int32} {a2 : Int32} {a3 : Int64} {a5 : Int32} {z : lc_S} {r} {z' : lc_S} (hf : fQ_withName a1 a2 a3 a5 z = some (r, z')) : lc_fr lc_a5 z z' := by
  rw [fQ_withName] at hf
  obtain ⟨hw1, hf⟩ := lc_chk_some hf
  obtain ⟨hw2, hf⟩ := lc_chk_some hf
  obtain ⟨hw3, hf⟩ := lc_chk_some hf
  obtain ⟨hw4, hf⟩ := lc_chk_some hf
  obtain ⟨hw5, hf⟩ := lc_chk_some hf
  cases hf
  exact (((((lc_fr.rf.ui rfl).ui rfl).ul rfl).ui rfl).ui rfl)

set_option maxHeartbeats 1000000 in
theorem g5Q_answer {a1 : Int64} {z : lc_S} {r} {z' : lc_S} (hf : fQ_answer a1 z = some (r, z')) : lc_fr lc_a5 z z' := by
  rw [fQ_answer] at hf
  cases hf
  exact ((lc_fr.rf.ui rfl).ul rfl)

set_option maxHeartbeats 1000000 in
theorem g5Q_lookUp_25 {k3 : Int32 → Int32 → Int32 → lc_S → Option ((Int64) × lc_S)} (hk3 : ∀ {v0 : Int32} {v1 : Int32} {v2 : Int32} {z : lc_S} {r} {z' : lc_S}, k3 v0 v1 v2 z = some (r, z') → lc_fr lc_a5 z z') {x2 : Int32} {x3 : Int32} {x4 : Int32} {z : lc_S} {r} {z' : lc_S} (hf : fQ_lookUp_25 k3 x2 x3 x4 z = some (r, z')) : lc_fr lc_a5 z z' := by
  rw [fQ_lookUp_25] at hf
  obtain ⟨hw1, hf⟩ := lc_chk_some hf
  obtain ⟨x32, ex32⟩ : ∃ x, x = lcI z 114 x4.toNatClampNeg := ⟨_, rfl⟩
  replace hf := lc_let_of ex32 hf
  exact lc_fr.rf.tr (hk3 hf)

set_option maxHeartbeats 1000000 in
theorem g5Q_lookUp_3 : ∀ {n : Nat} {x2 : Int32} {x3 : Int32} {x4 : Int32} {z : lc_S} {r} {z' : lc_S}, fQ_lookUp_3 n x2 x3 x4 z = some (r, z') → lc_fr lc_a5 z z' := by
  intro n
  induction n with
  | zero =>
    intro x2 x3 x4 z r z' hf
    cases (show none = some (r, z') from hf)
  | succ n ih =>
    intro x2 x3 x4 z r z' hf
    rw [fQ_lookUp_3] at hf
    obtain ⟨hw1, hf⟩ := lc_chk_some hf
    by_cases hc2 : (lcI z 111 x4.toNatClampNeg) = x2
    · replace hf := lc_ite_pos hc2 hf
      obtain ⟨hw3, hf⟩ := lc_chk_some hf
      by_cases hc4 : (lcI z 112 x4.toNatClampNeg) = x3
      · replace hf := lc_ite_pos hc4 hf
        obtain ⟨hw5, hf⟩ := lc_chk_some hf
        cases hf
        exact lc_fr.rf
      · replace hf := lc_ite_neg hc4 hf
        exact lc_fr.rf.tr (g5Q_lookUp_25 (fun h => ih h) hf)
    · replace hf := lc_ite_neg hc2 hf
      exact lc_fr.rf.tr (g5Q_lookUp_25 (fun h => ih h) hf)

set_option maxHeartbeats 1000000 in
theorem g5Q_lookUp {a1 : Int32} {a2 : Int32} {a3 : Int32} {z : lc_S} {r} {z' : lc_S} (hf : fQ_lookUp a1 a2 a3 z = some (r, z')) : lc_fr lc_a5 z z' := by
  rw [fQ_lookUp] at hf
  exact lc_fr.rf.tr (g5Q_lookUp_3 hf)

set_option maxHeartbeats 1000000 in
theorem g5Q_goOn_58 {z : lc_S} {r} {z' : lc_S} (hf : fQ_goOn_58 z = some (r, z')) : lc_fr lc_a5 z z' := by
  rw [fQ_goOn_58] at hf
  obtain ⟨r60, z60, hz60, hf⟩ := lc_bnd_some hf
  have gz60 : lc_fr lc_a5 z z60 := lc_fr.rf.tr (g5Q_stop hz60)
  cases hf
  exact gz60

set_option maxHeartbeats 1000000 in
theorem g5Q_goOn_181 {x1 : Int32} {x7 : Int32} {t1 : Int32} {t2 : Int32} {z : lc_S} {r} {z' : lc_S} (hf : fQ_goOn_181 x1 x7 t1 t2 z = some (r, z')) : lc_fr lc_a5 z z' := by
  rw [fQ_goOn_181] at hf
  obtain ⟨hw1, hf⟩ := lc_chk_some hf
  obtain ⟨r189, z189, hz189, hf⟩ := lc_bnd_some hf
  have gz189 : lc_fr lc_a5 z z189 := lc_fr.rf.tr (g5Q_enter hz189)
  cases hf
  exact gz189

set_option maxHeartbeats 1000000 in
theorem g5Q_goOn_175 {x1 : Int32} {x2 : Int32} {x7 : Int32} {t1 : Int32} {z : lc_S} {r} {z' : lc_S} (hf : fQ_goOn_175 x1 x2 x7 t1 z = some (r, z')) : lc_fr lc_a5 z z' := by
  rw [fQ_goOn_175] at hf
  obtain ⟨hw1, hf⟩ := lc_chk_some hf
  exact lc_fr.rf.tr (g5Q_goOn_181 hf)

set_option maxHeartbeats 1000000 in
theorem g5Q_goOn_146 {x1 : Int32} {x2 : Int32} {x3 : Int32} {x5 : Int64} {x7 : Int32} {z : lc_S} {r} {z' : lc_S} (hf : fQ_goOn_146 x1 x2 x3 x5 x7 z = some (r, z')) : lc_fr lc_a5 z z' := by
  rw [fQ_goOn_146] at hf
  obtain ⟨hw1, hf⟩ := lc_chk_some hf
  by_cases hc2 : x3 = 63
  · replace hf := lc_ite_pos hc2 hf
    by_cases hc3 : (lg_cmp x5 0) = 0
    · replace hf := lc_ite_pos hc3 hf
      obtain ⟨hw4, hf⟩ := lc_chk_some hf
      exact lc_fr.rf.tr (g5Q_goOn_181 hf)
    · replace hf := lc_ite_neg hc3 hf
      exact lc_fr.rf.tr (g5Q_goOn_175 hf)
  · replace hf := lc_ite_neg hc2 hf
    exact lc_fr.rf.tr (g5Q_goOn_175 hf)

set_option maxHeartbeats 1000000 in
theorem g5Q_goOn_87 {x1 : Int32} {x2 : Int32} {x3 : Int32} {x5 : Int64} {x7 : Int32} {z : lc_S} {r} {z' : lc_S} (hf : fQ_goOn_87 x1 x2 x3 x5 x7 z = some (r, z')) : lc_fr lc_a5 z z' := by
  rw [fQ_goOn_87] at hf
  by_cases hc1 : x3 = 47
  · replace hf := lc_ite_pos hc1 hf
    obtain ⟨x100, ex100⟩ : ∃ x, x = (x5 - 8589934592).toInt32 := ⟨_, rfl⟩
    replace hf := lc_let_of ex100 hf
    obtain ⟨hw2, hf⟩ := lc_chk_some hf
    obtain ⟨hw3, hf⟩ := lc_chk_some hf
    obtain ⟨r119, z119, hz119, hf⟩ := lc_bnd_some hf
    have gz119 : lc_fr lc_a5 z z119 := lc_fr.rf.tr (g5Q_withName hz119)
    obtain ⟨hw4, hf⟩ := lc_chk_some hf
    obtain ⟨hw5, hf⟩ := lc_chk_some hf
    obtain ⟨r141, z141, hz141, hf⟩ := lc_bnd_some hf
    have gz141 : lc_fr lc_a5 z z141 := gz119.tr (g5Q_withName hz141)
    exact gz141.tr (g5Q_goOn_146 hf)
  · replace hf := lc_ite_neg hc1 hf
    exact lc_fr.rf.tr (g5Q_goOn_146 hf)

set_option maxHeartbeats 1000000 in
theorem g5Q_goOn_64 {x1 : Int32} {x2 : Int32} {x3 : Int32} {x5 : Int64} {x7 : Int32} {z : lc_S} {r} {z' : lc_S} (hf : fQ_goOn_64 x1 x2 x3 x5 x7 z = some (r, z')) : lc_fr lc_a5 z z' := by
  rw [fQ_goOn_64] at hf
  by_cases hc1 : x3 = 58
  · replace hf := lc_ite_pos hc1 hf
    obtain ⟨hw2, hf⟩ := lc_chk_some hf
    obtain ⟨r82, z82, hz82, hf⟩ := lc_bnd_some hf
    have gz82 : lc_fr lc_a5 z z82 := lc_fr.rf.tr (g5Q_withName hz82)
    exact gz82.tr (g5Q_goOn_87 hf)
  · replace hf := lc_ite_neg hc1 hf
    exact lc_fr.rf.tr (g5Q_goOn_87 hf)

set_option maxHeartbeats 1000000 in
theorem g5Q_goOn_43 {x1 : Int32} {x2 : Int32} {x3 : Int32} {x5 : Int64} {x7 : Int32} {z : lc_S} {r} {z' : lc_S} (hf : fQ_goOn_43 x1 x2 x3 x5 x7 z = some (r, z')) : lc_fr lc_a5 z z' := by
  rw [fQ_goOn_43] at hf
  by_cases hc1 : x3 = 47
  · replace hf := lc_ite_pos hc1 hf
    by_cases hc2 : 0 ≤ (lg_cmp x5 8589934592)
    · replace hf := lc_ite_pos hc2 hf
      exact lc_fr.rf.tr (g5Q_goOn_64 hf)
    · replace hf := lc_ite_neg hc2 hf
      exact lc_fr.rf.tr (g5Q_goOn_58 hf)
  · replace hf := lc_ite_neg hc1 hf
    exact lc_fr.rf.tr (g5Q_goOn_64 hf)

set_option maxHeartbeats 1000000 in
theorem g5Q_goOn {a1 : Int32} {a2 : Int32} {a3 : Int32} {a4 : Int32} {z : lc_S} {r} {z' : lc_S} (hf : fQ_goOn a1 a2 a3 a4 z = some (r, z')) : lc_fr lc_a5 z z' := by
  rw [fQ_goOn] at hf
  by_cases hc1 : a4 = 2
  · replace hf := lc_ite_pos hc1 hf
    obtain ⟨r11, z11, hz11, hf⟩ := lc_bnd_some hf
    have gz11 : lc_fr lc_a5 z z11 := lc_fr.rf.tr (g5Q_answer hz11)
    cases hf
    exact gz11
  · replace hf := lc_ite_neg hc1 hf
    obtain ⟨x19, ex19⟩ : ∃ x, x = lcL z 80 47 := ⟨_, rfl⟩
    replace hf := lc_let_of ex19 hf
    obtain ⟨hw2, hf⟩ := lc_chk_some hf
    obtain ⟨x27, ex27⟩ : ∃ x, x = lcI z 107 a1.toNatClampNeg := ⟨_, rfl⟩
    replace hf := lc_let_of ex27 hf
    by_cases hc3 : a3 = 63
    · replace hf := lc_ite_pos hc3 hf
      obtain ⟨r37, z37, hz37, hf⟩ := lc_bnd_some hf
      have gz37 : lc_fr lc_a5 z z37 := lc_fr.rf.tr (g5Q_isNumber hz37)
      by_cases hc4 : r37 = 0
      · replace hf := lc_ite_pos hc4 hf
        exact gz37.tr (g5Q_goOn_58 hf)
      · replace hf := lc_ite_neg hc4 hf
        exact gz37.tr (g5Q_goOn_43 hf)
    · replace hf := lc_ite_neg hc3 hf
      exact lc_fr.rf.tr (g5Q_goOn_43 hf)

set_option maxHeartbeats 1000000 in
theorem g5Q_call {a1 : Int32} {a2 : Int32} {a3 : Int32} {z : lc_S} {r} {z' : lc_S} (hf : fQ_call a1 a2 a3 z = some (r, z')) : lc_fr lc_a5 z z' := by
  rw [fQ_call] at hf
  by_cases hc1 : a3 = 2
  · replace hf := lc_ite_pos hc1 hf
    obtain ⟨r10, z10, hz10, hf⟩ := lc_bnd_some hf
    have gz10 : lc_fr lc_a5 z z10 := lc_fr.rf.tr (g5Q_answer hz10)
    cases hf
    exact gz10
  · replace hf := lc_ite_neg hc1 hf
    obtain ⟨r16, z16, hz16, hf⟩ := lc_bnd_some hf
    have gz16 : lc_fr lc_a5 z z16 := lc_fr.rf.tr (g5Q_isThere hz16)
    by_cases hc2 : r16 = 0
    · replace hf := lc_ite_pos hc2 hf
      obtain ⟨r24, z24, hz24, hf⟩ := lc_bnd_some hf
      have gz24 : lc_fr lc_a5 z z24 := gz16.tr (g5Q_stop hz24)
      cases hf
      exact gz24
    · replace hf := lc_ite_neg hc2 hf
      obtain ⟨hw3, hf⟩ := lc_chk_some hf
      by_cases hc4 : (lcI z16 108 a1.toNatClampNeg) = 24
      · replace hf := lc_ite_pos hc4 hf
        obtain ⟨r43, z43, hz43, hf⟩ := lc_bnd_some hf
        have gz43 : lc_fr lc_a5 z z43 := gz16.tr (g5Q_stop hz43)
        cases hf
        exact gz43
      · replace hf := lc_ite_neg hc4 hf
        obtain ⟨r65, z65, hz65, hf⟩ := lc_bnd_some hf
        have gz65 : lc_fr lc_a5 z z65 := gz16.tr (g5Q_withName hz65)
        obtain ⟨hw5, hf⟩ := lc_chk_some hf
        obtain ⟨r76, z76, hz76, hf⟩ := lc_bnd_some hf
        have gz76 : lc_fr lc_a5 z z76 := gz65.tr (g5Q_enter hz76)
        cases hf
        exact gz76

set_option maxHeartbeats 1000000 in
theorem g5Q_pairUp {a1 : Int64} {a3 : Int64} {z : lc_S} {r} {z' : lc_S} (hf : fQ_pairUp a1 a3 z = some (r, z')) : lc_fr lc_a5 z z' := by
  rw [fQ_pairUp] at hf
  by_cases hc1 : (lcI z 80 53) = 120
  · replace hf := lc_ite_pos hc1 hf
    obtain ⟨r11, z11, hz11, hf⟩ := lc_bnd_some hf
    have gz11 : lc_fr lc_a5 z z11 := lc_fr.rf.tr (g5Q_stop hz11)
    cases hf
    exact gz11
  · replace hf := lc_ite_neg hc1 hf
    obtain ⟨hw2, hf⟩ := lc_chk_some hf
    obtain ⟨hw3, hf⟩ := lc_chk_some hf
    obtain ⟨r57, z57, hz57, hf⟩ := lc_bnd_some hf
    have gz57 : lc_fr lc_a5 z z57 := (((lc_fr.rf.ul rfl).ul rfl).ui rfl).tr (g5Q_answer hz57)
    cases hf
    exact gz57

set_option maxHeartbeats 1000000 in
theorem g5Q_isCell_20 {z : lc_S} {r} {z' : lc_S} (hf : fQ_isCell_20 z = some (r, z')) : lc_fr lc_a5 z z' := by
  rw [fQ_isCell_20] at hf
  cases hf
  exact lc_fr.rf

set_option maxHeartbeats 1000000 in
theorem g5Q_isCell {a0 : Int64} {z : lc_S} {r} {z' : lc_S} (hf : fQ_isCell a0 z = some (r, z')) : lc_fr lc_a5 z z' := by
  rw [fQ_isCell] at hf
  by_cases hc1 : (lg_cmp a0 4294967296) < 0
  · replace hf := lc_ite_pos hc1 hf
    exact lc_fr.rf.tr (g5Q_isCell_20 hf)
  · replace hf := lc_ite_neg hc1 hf
    by_cases hc2 : 0 ≤ (lg_cmp a0 8589934592)
    · replace hf := lc_ite_pos hc2 hf
      exact lc_fr.rf.tr (g5Q_isCell_20 hf)
    · replace hf := lc_ite_neg hc2 hf
      cases hf
      exact lc_fr.rf

set_option maxHeartbeats 1000000 in
theorem g5Q_two_105 {x2 : Int64} {z : lc_S} {r} {z' : lc_S} (hf : fQ_two_105 x2 z = some (r, z')) : lc_fr lc_a5 z z' := by
  rw [fQ_two_105] at hf
  by_cases hc1 : (lcI z 80 45) = 0
  · replace hf := lc_ite_pos hc1 hf
    obtain ⟨r114, z114, hz114, hf⟩ := lc_bnd_some hf
    have gz114 : lc_fr lc_a5 z z114 := lc_fr.rf.tr (g5Q_answer hz114)
    cases hf
    exact gz114
  · replace hf := lc_ite_neg hc1 hf
    cases hf
    exact lc_fr.rf

set_option maxHeartbeats 1000000 in
theorem g5Q_two_176 {t1 : Int64} {z : lc_S} {r} {z' : lc_S} (hf : fQ_two_176 t1 z = some (r, z')) : lc_fr lc_a5 z z' := by
  rw [fQ_two_176] at hf
  obtain ⟨r176, z176, hz176, hf⟩ := lc_bnd_some hf
  have gz176 : lc_fr lc_a5 z z176 := lc_fr.rf.tr (g5Q_plain hz176)
  obtain ⟨r179, z179, hz179, hf⟩ := lc_bnd_some hf
  have gz179 : lc_fr lc_a5 z z179 := gz176.tr (g5Q_answer hz179)
  cases hf
  exact gz179

set_option maxHeartbeats 1000000 in
theorem g5Q_two_50 {x1 : Int32} {x2 : Int64} {x4 : Int64} {t0 : Int32} {z : lc_S} {r} {z' : lc_S} (hf : fQ_two_50 x1 x2 x4 t0 z = some (r, z')) : lc_fr lc_a5 z z' := by
  rw [fQ_two_50] at hf
  by_cases hc1 : t0 = 0
  · replace hf := lc_ite_pos hc1 hf
    obtain ⟨r59, z59, hz59, hf⟩ := lc_bnd_some hf
    have gz59 : lc_fr lc_a5 z z59 := lc_fr.rf.tr (g5Q_stop hz59)
    cases hf
    exact gz59
  · replace hf := lc_ite_neg hc1 hf
    obtain ⟨x65, ex65⟩ : ∃ x, x = x2.toInt32 := ⟨_, rfl⟩
    replace hf := lc_let_of ex65 hf
    obtain ⟨x70, ex70⟩ : ∃ x, x = x4.toInt32 := ⟨_, rfl⟩
    replace hf := lc_let_of ex70 hf
    by_cases hc2 : x1 = 112
    · replace hf := lc_ite_pos hc2 hf
      obtain ⟨hw3, hf⟩ := lc_chk_some hf
      by_cases hc4 : (lcI z 115 x65.toNatClampNeg) = 0
      · replace hf := lc_ite_pos hc4 hf
        obtain ⟨r90, z90, hz90, hf⟩ := lc_bnd_some hf
        have gz90 : lc_fr lc_a5 z z90 := lc_fr.rf.tr (g5Q_stop hz90)
        exact gz90.tr (g5Q_two_105 hf)
      · replace hf := lc_ite_neg hc4 hf
        obtain ⟨hw5, hf⟩ := lc_chk_some hf
        exact (lc_fr.rf.ui rfl).tr (g5Q_two_105 hf)
    · replace hf := lc_ite_neg hc2 hf
      by_cases hc6 : x1 = 43
      · replace hf := lc_ite_pos hc6 hf
        exact lc_fr.rf.tr (g5Q_two_176 hf)
      · replace hf := lc_ite_neg hc6 hf
        by_cases hc7 : x1 = 45
        · replace hf := lc_ite_pos hc7 hf
          exact lc_fr.rf.tr (g5Q_two_176 hf)
        · replace hf := lc_ite_neg hc7 hf
          by_cases hc8 : x1 = 42
          · replace hf := lc_ite_pos hc8 hf
            exact lc_fr.rf.tr (g5Q_two_176 hf)
          · replace hf := lc_ite_neg hc8 hf
            by_cases hc9 : x70 ≤ x65
            · replace hf := lc_ite_pos hc9 hf
              exact lc_fr.rf.tr (g5Q_two_176 hf)
            · replace hf := lc_ite_neg hc9 hf
              exact lc_fr.rf.tr (g5Q_two_176 hf)

set_option maxHeartbeats 1000000 in
theorem g5Q_two_49 {x1 : Int32} {x2 : Int64} {x4 : Int64} {z : lc_S} {r} {z' : lc_S} (hf : fQ_two_49 x1 x2 x4 z = some (r, z')) : lc_fr lc_a5 z z' := by
  rw [fQ_two_49] at hf
  exact lc_fr.rf.tr (g5Q_two_50 hf)

set_option maxHeartbeats 1000000 in
theorem g5Q_two_37 {x1 : Int32} {x2 : Int64} {x4 : Int64} {z : lc_S} {r} {z' : lc_S} (hf : fQ_two_37 x1 x2 x4 z = some (r, z')) : lc_fr lc_a5 z z' := by
  rw [fQ_two_37] at hf
  obtain ⟨r39, z39, hz39, hf⟩ := lc_bnd_some hf
  have gz39 : lc_fr lc_a5 z z39 := lc_fr.rf.tr (g5Q_isNumber hz39)
  by_cases hc1 : r39 = 0
  · replace hf := lc_ite_pos hc1 hf
    exact gz39.tr (g5Q_two_49 hf)
  · replace hf := lc_ite_neg hc1 hf
    exact gz39.tr (g5Q_two_50 hf)

set_option maxHeartbeats 1000000 in
theorem g5Q_two {a1 : Int32} {a2 : Int64} {a4 : Int64} {z : lc_S} {r} {z' : lc_S} (hf : fQ_two a1 a2 a4 z = some (r, z')) : lc_fr lc_a5 z z' := by
  rw [fQ_two] at hf
  by_cases hc1 : a1 = 44
  · replace hf := lc_ite_pos hc1 hf
    obtain ⟨r10, z10, hz10, hf⟩ := lc_bnd_some hf
    have gz10 : lc_fr lc_a5 z z10 := lc_fr.rf.tr (g5Q_pairUp hz10)
    cases hf
    exact gz10
  · replace hf := lc_ite_neg hc1 hf
    by_cases hc2 : a1 = 112
    · replace hf := lc_ite_pos hc2 hf
      obtain ⟨r21, z21, hz21, hf⟩ := lc_bnd_some hf
      have gz21 : lc_fr lc_a5 z z21 := lc_fr.rf.tr (g5Q_isCell hz21)
      by_cases hc3 : r21 = 0
      · replace hf := lc_ite_pos hc3 hf
        exact gz21.tr (g5Q_two_49 hf)
      · replace hf := lc_ite_neg hc3 hf
        exact gz21.tr (g5Q_two_37 hf)
    · replace hf := lc_ite_neg hc2 hf
      obtain ⟨r31, z31, hz31, hf⟩ := lc_bnd_some hf
      have gz31 : lc_fr lc_a5 z z31 := lc_fr.rf.tr (g5Q_isNumber hz31)
      by_cases hc4 : r31 = 0
      · replace hf := lc_ite_pos hc4 hf
        exact gz31.tr (g5Q_two_49 hf)
      · replace hf := lc_ite_neg hc4 hf
        exact gz31.tr (g5Q_two_37 hf)

set_option maxHeartbeats 1000000 in
theorem g5Q_one_23 {z : lc_S} {r} {z' : lc_S} (hf : fQ_one_23 z = some (r, z')) : lc_fr lc_a5 z z' := by
  rw [fQ_one_23] at hf
  obtain ⟨r25, z25, hz25, hf⟩ := lc_bnd_some hf
  have gz25 : lc_fr lc_a5 z z25 := lc_fr.rf.tr (g5Q_stop hz25)
  cases hf
  exact gz25

set_option maxHeartbeats 1000000 in
theorem g5Q_one_65 {x4 : Int32} {x5 : Int32} {z : lc_S} {r} {z' : lc_S} (hf : fQ_one_65 x4 x5 z = some (r, z')) : lc_fr lc_a5 z z' := by
  rw [fQ_one_65] at hf
  by_cases hc1 : x5 = 12
  · replace hf := lc_ite_pos hc1 hf
    obtain ⟨r74, z74, hz74, hf⟩ := lc_bnd_some hf
    have gz74 : lc_fr lc_a5 z z74 := lc_fr.rf.tr (g5Q_stop hz74)
    cases hf
    exact gz74
  · replace hf := lc_ite_neg hc1 hf
    obtain ⟨hw2, hf⟩ := lc_chk_some hf
    obtain ⟨hw3, hf⟩ := lc_chk_some hf
    obtain ⟨r113, z113, hz113, hf⟩ := lc_bnd_some hf
    have gz113 : lc_fr lc_a5 z z113 := (((lc_fr.rf.ui rfl).ui rfl).ui rfl).tr (g5Q_answer hz113)
    cases hf
    exact gz113

set_option maxHeartbeats 1000000 in
theorem g5Q_one_42 : ∀ {n : Nat} {x4 : Int32} {x5 : Int32} {z : lc_S} {r} {z' : lc_S}, fQ_one_42 n x4 x5 z = some (r, z') → lc_fr lc_a5 z z' := by
  intro n
  induction n with
  | zero =>
    intro x4 x5 z r z' hf
    cases (show none = some (r, z') from hf)
  | succ n ih =>
    intro x4 x5 z r z' hf
    rw [fQ_one_42] at hf
    by_cases hc1 : 12 ≤ x5
    · replace hf := lc_ite_pos hc1 hf
      exact lc_fr.rf.tr (g5Q_one_65 hf)
    · replace hf := lc_ite_neg hc1 hf
      obtain ⟨hw2, hf⟩ := lc_chk_some hf
      by_cases hc3 : (lcI z 115 x5.toNatClampNeg) = 0
      · replace hf := lc_ite_pos hc3 hf
        exact lc_fr.rf.tr (g5Q_one_65 hf)
      · replace hf := lc_ite_neg hc3 hf
        obtain ⟨x59, ex59⟩ : ∃ x, x = x5 + 1 := ⟨_, rfl⟩
        replace hf := lc_let_of ex59 hf
        exact lc_fr.rf.tr (ih hf)

set_option maxHeartbeats 1000000 in
theorem g5Q_one_29 {x1 : Int32} {x2 : Int64} {z : lc_S} {r} {z' : lc_S} (hf : fQ_one_29 x1 x2 z = some (r, z')) : lc_fr lc_a5 z z' := by
  rw [fQ_one_29] at hf
  obtain ⟨x31, ex31⟩ : ∃ x, x = x2.toInt32 := ⟨_, rfl⟩
  replace hf := lc_let_of ex31 hf
  by_cases hc1 : x1 = 110
  · replace hf := lc_ite_pos hc1 hf
    exact lc_fr.rf.tr (g5Q_one_42 hf)
  · replace hf := lc_ite_neg hc1 hf
    obtain ⟨hw2, hf⟩ := lc_chk_some hf
    by_cases hc3 : (lcI z 115 x31.toNatClampNeg) = 0
    · replace hf := lc_ite_pos hc3 hf
      obtain ⟨r131, z131, hz131, hf⟩ := lc_bnd_some hf
      have gz131 : lc_fr lc_a5 z z131 := lc_fr.rf.tr (g5Q_stop hz131)
      cases hf
      exact gz131
    · replace hf := lc_ite_neg hc3 hf
      by_cases hc4 : x1 = 103
      · replace hf := lc_ite_pos hc4 hf
        obtain ⟨hw5, hf⟩ := lc_chk_some hf
        obtain ⟨r152, z152, hz152, hf⟩ := lc_bnd_some hf
        have gz152 : lc_fr lc_a5 z z152 := lc_fr.rf.tr (g5Q_plain hz152)
        obtain ⟨r156, z156, hz156, hf⟩ := lc_bnd_some hf
        have gz156 : lc_fr lc_a5 z z156 := gz152.tr (g5Q_pairUp hz156)
        cases hf
        exact gz156
      · replace hf := lc_ite_neg hc4 hf
        obtain ⟨hw6, hf⟩ := lc_chk_some hf
        obtain ⟨hw7, hf⟩ := lc_chk_some hf
        obtain ⟨r189, z189, hz189, hf⟩ := lc_bnd_some hf
        have gz189 : lc_fr lc_a5 z z189 := ((lc_fr.rf.ui rfl).ui rfl).tr (g5Q_plain hz189)
        obtain ⟨r192, z192, hz192, hf⟩ := lc_bnd_some hf
        have gz192 : lc_fr lc_a5 z z192 := gz189.tr (g5Q_answer hz192)
        cases hf
        exact gz192

set_option maxHeartbeats 1000000 in
theorem g5Q_one {a1 : Int32} {a2 : Int64} {z : lc_S} {r} {z' : lc_S} (hf : fQ_one a1 a2 z = some (r, z')) : lc_fr lc_a5 z z' := by
  rw [fQ_one] at hf
  by_cases hc1 : a1 = 110
  · replace hf := lc_ite_pos hc1 hf
    obtain ⟨r7, z7, hz7, hf⟩ := lc_bnd_some hf
    have gz7 : lc_fr lc_a5 z z7 := lc_fr.rf.tr (g5Q_isNumber hz7)
    by_cases hc2 : r7 = 0
    · replace hf := lc_ite_pos hc2 hf
      exact gz7.tr (g5Q_one_23 hf)
    · replace hf := lc_ite_neg hc2 hf
      exact gz7.tr (g5Q_one_29 hf)
  · replace hf := lc_ite_neg hc1 hf
    obtain ⟨r17, z17, hz17, hf⟩ := lc_bnd_some hf
    have gz17 : lc_fr lc_a5 z z17 := lc_fr.rf.tr (g5Q_isCell hz17)
    by_cases hc3 : r17 = 0
    · replace hf := lc_ite_pos hc3 hf
      exact gz17.tr (g5Q_one_23 hf)
    · replace hf := lc_ite_neg hc3 hf
      exact gz17.tr (g5Q_one_29 hf)

set_option maxHeartbeats 1000000 in
theorem g5Q_step_158 {x1 : Int32} {x2 : Int32} {x3 : Int32} {x4 : Int32} {z : lc_S} {r} {z' : lc_S} (hf : fQ_step_158 x1 x2 x3 x4 z = some (r, z')) : lc_fr lc_a5 z z' := by
  rw [fQ_step_158] at hf
  obtain ⟨r164, z164, hz164, hf⟩ := lc_bnd_some hf
  have gz164 : lc_fr lc_a5 z z164 := lc_fr.rf.tr (g5Q_goOn hz164)
  cases hf
  exact gz164

set_option maxHeartbeats 1000000 in
theorem g5Q_step_225 {x1 : Int32} {x2 : Int32} {x3 : Int32} {x4 : Int32} {z : lc_S} {r} {z' : lc_S} (hf : fQ_step_225 x1 x2 x3 x4 z = some (r, z')) : lc_fr lc_a5 z z' := by
  rw [fQ_step_225] at hf
  by_cases hc1 : x3 = 64
  · replace hf := lc_ite_pos hc1 hf
    obtain ⟨hw2, hf⟩ := lc_chk_some hf
    obtain ⟨r241, z241, hz241, hf⟩ := lc_bnd_some hf
    have gz241 : lc_fr lc_a5 z z241 := lc_fr.rf.tr (g5Q_call hz241)
    cases hf
    exact gz241
  · replace hf := lc_ite_neg hc1 hf
    obtain ⟨r248, z248, hz248, hf⟩ := lc_bnd_some hf
    have gz248 : lc_fr lc_a5 z z248 := lc_fr.rf.tr (g5Q_partsOf hz248)
    by_cases hc3 : r248 = 2
    · replace hf := lc_ite_pos hc3 hf
      obtain ⟨hw4, hf⟩ := lc_chk_some hf
      obtain ⟨r267, z267, hz267, hf⟩ := lc_bnd_some hf
      have gz267 : lc_fr lc_a5 z z267 := gz248.tr (g5Q_two hz267)
      cases hf
      exact gz267
    · replace hf := lc_ite_neg hc3 hf
      obtain ⟨r279, z279, hz279, hf⟩ := lc_bnd_some hf
      have gz279 : lc_fr lc_a5 z z279 := gz248.tr (g5Q_one hz279)
      cases hf
      exact gz279

set_option maxHeartbeats 1000000 in
theorem g5Q_step {z : lc_S} {r} {z' : lc_S} (hf : fQ_step z = some (r, z')) : lc_fr lc_a5 z z' := by
  rw [fQ_step] at hf
  obtain ⟨x6, ex6⟩ : ∃ x, x = (lcI z 80 33) - 1 := ⟨_, rfl⟩
  replace hf := lc_let_of ex6 hf
  obtain ⟨hw1, hf⟩ := lc_chk_some hf
  obtain ⟨hw2, hf⟩ := lc_chk_some hf
  obtain ⟨x20, ex20⟩ : ∃ x, x = (lcI z 106 x6.toNatClampNeg) + (lcI z 105 x6.toNatClampNeg) := ⟨_, rfl⟩
  replace hf := lc_let_of ex20 hf
  obtain ⟨hw3, hf⟩ := lc_chk_some hf
  obtain ⟨x27, ex27⟩ : ∃ x, x = lcI z 82 x20.toNatClampNeg := ⟨_, rfl⟩
  replace hf := lc_let_of ex27 hf
  obtain ⟨hw4, hf⟩ := lc_chk_some hf
  obtain ⟨x34, ex34⟩ : ∃ x, x = lcI z 109 x6.toNatClampNeg := ⟨_, rfl⟩
  replace hf := lc_let_of ex34 hf
  obtain ⟨hw5, hf⟩ := lc_chk_some hf
  obtain ⟨hw6, hf⟩ := lc_chk_some hf
  by_cases hc7 : x27 = 48
  · replace hf := lc_ite_pos hc7 hf
    obtain ⟨hw8, hf⟩ := lc_chk_some hf
    obtain ⟨r60, z60, hz60, hf⟩ := lc_bnd_some hf
    have gz60 : lc_fr lc_a5 z z60 := (lc_fr.rf.ui rfl).tr (g5Q_plain hz60)
    obtain ⟨r63, z63, hz63, hf⟩ := lc_bnd_some hf
    have gz63 : lc_fr lc_a5 z z63 := gz60.tr (g5Q_answer hz63)
    cases hf
    exact gz63
  · replace hf := lc_ite_neg hc7 hf
    by_cases hc9 : x27 = 120
    · replace hf := lc_ite_pos hc9 hf
      obtain ⟨hw10, hf⟩ := lc_chk_some hf
      obtain ⟨hw11, hf⟩ := lc_chk_some hf
      obtain ⟨hw12, hf⟩ := lc_chk_some hf
      obtain ⟨r95, z95, hz95, hf⟩ := lc_bnd_some hf
      have gz95 : lc_fr lc_a5 z z95 := (lc_fr.rf.ui rfl).tr (g5Q_lookUp hz95)
      obtain ⟨r98, z98, hz98, hf⟩ := lc_bnd_some hf
      have gz98 : lc_fr lc_a5 z z98 := gz95.tr (g5Q_answer hz98)
      cases hf
      exact gz98
    · replace hf := lc_ite_neg hc9 hf
      by_cases hc13 : x34 = 0
      · replace hf := lc_ite_pos hc13 hf
        obtain ⟨hw14, hf⟩ := lc_chk_some hf
        obtain ⟨hw15, hf⟩ := lc_chk_some hf
        obtain ⟨hw16, hf⟩ := lc_chk_some hf
        obtain ⟨hw17, hf⟩ := lc_chk_some hf
        obtain ⟨r134, z134, hz134, hf⟩ := lc_bnd_some hf
        have gz134 : lc_fr lc_a5 z z134 := (lc_fr.rf.ui rfl).tr (g5Q_enter hz134)
        cases hf
        exact gz134
      · replace hf := lc_ite_neg hc13 hf
        by_cases hc18 : x27 = 63
        · replace hf := lc_ite_pos hc18 hf
          exact (lc_fr.rf.ui rfl).tr (g5Q_step_158 hf)
        · replace hf := lc_ite_neg hc18 hf
          by_cases hc19 : x27 = 58
          · replace hf := lc_ite_pos hc19 hf
            exact (lc_fr.rf.ui rfl).tr (g5Q_step_158 hf)
          · replace hf := lc_ite_neg hc19 hf
            by_cases hc20 : x27 = 47
            · replace hf := lc_ite_pos hc20 hf
              exact (lc_fr.rf.ui rfl).tr (g5Q_step_158 hf)
            · replace hf := lc_ite_neg hc20 hf
              obtain ⟨r171, z171, hz171, hf⟩ := lc_bnd_some hf
              have gz171 : lc_fr lc_a5 z z171 := (lc_fr.rf.ui rfl).tr (g5Q_partsOf hz171)
              by_cases hc21 : r171 = 2
              · replace hf := lc_ite_pos hc21 hf
                by_cases hc22 : x34 = 1
                · replace hf := lc_ite_pos hc22 hf
                  obtain ⟨hw23, hf⟩ := lc_chk_some hf
                  obtain ⟨hw24, hf⟩ := lc_chk_some hf
                  obtain ⟨hw25, hf⟩ := lc_chk_some hf
                  obtain ⟨hw26, hf⟩ := lc_chk_some hf
                  obtain ⟨hw27, hf⟩ := lc_chk_some hf
                  obtain ⟨r219, z219, hz219, hf⟩ := lc_bnd_some hf
                  have gz219 : lc_fr lc_a5 z z219 := (gz171.ul rfl).tr (g5Q_enter hz219)
                  cases hf
                  exact gz219
                · replace hf := lc_ite_neg hc22 hf
                  exact gz171.tr (g5Q_step_225 hf)
              · replace hf := lc_ite_neg hc21 hf
                exact gz171.tr (g5Q_step_225 hf)

set_option maxHeartbeats 1000000 in
theorem g5Q_run_132 {z : lc_S} {r} {z' : lc_S} (hf : fQ_run_132 z = some (r, z')) : lc_fr lc_a5 z z' := by
  rw [fQ_run_132] at hf
  cases hf
  exact lc_fr.rf

set_option maxHeartbeats 1000000 in
theorem g5Q_run_111 : ∀ {n : Nat} {z : lc_S} {r} {z' : lc_S}, fQ_run_111 n z = some (r, z') → lc_fr lc_a5 z z' := by
  intro n
  induction n with
  | zero =>
    intro z r z' hf
    cases (show none = some (r, z') from hf)
  | succ n ih =>
    intro z r z' hf
    rw [fQ_run_111] at hf
    by_cases hc1 : (lcI z 80 33) ≤ 0
    · replace hf := lc_ite_pos hc1 hf
      exact lc_fr.rf.tr (g5Q_run_132 hf)
    · replace hf := lc_ite_neg hc1 hf
      by_cases hc2 : (lcI z 80 45) = 0
      · replace hf := lc_ite_pos hc2 hf
        obtain ⟨r126, z126, hz126, hf⟩ := lc_bnd_some hf
        have gz126 : lc_fr lc_a5 z z126 := lc_fr.rf.tr (g5Q_step hz126)
        exact gz126.tr (ih hf)
      · replace hf := lc_ite_neg hc2 hf
        exact lc_fr.rf.tr (g5Q_run_132 hf)

