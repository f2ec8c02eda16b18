set_option maxHeartbeats 1000000 in
theorem gQ_isLetter {a0 : Int32} {z : lc_S} {r} {z' : lc_S} (hf : fQ_isLetter a0 z = some (r, z')) : lc_hi z z' := by
  rw [fQ_isLetter] at hf
  by_cases hc1 : a0 < 97
  · replace hf := lc_ite_pos hc1 hf
    exact lc_hi.rf.tr (gQ_isLetter_16 hf)
  · replace hf := lc_ite_neg hc1 hf
    by_cases hc2 : 122 < a0
    · replace hf := lc_ite_pos hc2 hf
      exact lc_hi.rf.tr (gQ_isLetter_16 hf)
    · replace hf := lc_ite_neg hc2 hf
      cases hf
      exact lc_hi.rf
set_option maxHeartbeats 1000000 in
theorem gQ_isDigit_16 {z : lc_S} {r} {z' : lc_S} (hf : fQ_isDigit_16 z = some (r, z')) : lc_hi z z' := by
  rw [fQ_isDigit_16] at hf
  cases hf
  exact lc_hi.rf
set_option maxHeartbeats 1000000 in
theorem gQ_isDigit {a0 : Int32} {z : lc_S} {r} {z' : lc_S} (hf : fQ_isDigit a0 z = some (r, z')) : lc_hi z z' := by
  rw [fQ_isDigit] at hf
  by_cases hc1 : a0 < 48
  · replace hf := lc_ite_pos hc1 hf
    exact lc_hi.rf.tr (gQ_isDigit_16 hf)
  · replace hf := lc_ite_neg hc1 hf
    by_cases hc2 : 57 < a0
    · replace hf := lc_ite_pos hc2 hf
      exact lc_hi.rf.tr (gQ_isDigit_16 hf)
    · replace hf := lc_ite_neg hc2 hf
      cases hf
      exact lc_hi.rf
set_option maxHeartbeats 1000000 in
theorem gQ_letter_25 {x1 : Int32} {t1 : Int32} {z : lc_S} {r} {z' : lc_S} (hf : fQ_letter_25 x1 t1 z = some (r, z')) : lc_hi z z' := by
  rw [fQ_letter_25] at hf
  obtain ⟨hw1, hf⟩ := lc_chk_some hf
  cases hf
  exact (lc_hi.rf.ui (by decide))
set_option maxHeartbeats 1000000 in
theorem gQ_letter_20 {x1 : Int32} {z : lc_S} {r} {z' : lc_S} (hf : fQ_letter_20 x1 z = some (r, z')) : lc_hi z z' := by
  rw [fQ_letter_20] at hf
  exact lc_hi.rf.tr (gQ_letter_25 hf)
set_option maxHeartbeats 1000000 in
theorem gQ_letter {z : lc_S} {r} {z' : lc_S} (hf : fQ_letter z = some (r, z')) : lc_hi z z' := by
  rw [fQ_letter] at hf
  obtain ⟨r1, z1, hz1, hf⟩ := lc_bnd_some hf
  have gz1 : lc_hi z z1 := lc_hi.rf.tr (gQ_next hz1)
  by_cases hc1 : (lcI z1 80 14) = 0
  · replace hf := lc_ite_pos hc1 hf
    obtain ⟨r14, z14, hz14, hf⟩ := lc_bnd_some hf
    have gz14 : lc_hi z z14 := gz1.tr (gQ_isLetter hz14)
    by_cases hc2 : r14 = 0
    · replace hf := lc_ite_pos hc2 hf
      exact gz14.tr (gQ_letter_20 hf)
    · replace hf := lc_ite_neg hc2 hf
      exact gz14.tr (gQ_letter_25 hf)
  · replace hf := lc_ite_neg hc1 hf
    exact gz1.tr (gQ_letter_20 hf)
set_option maxHeartbeats 1000000 in
theorem gQ_number_113 {x1 : Int32} {t1 : Int32} {z : lc_S} {r} {z' : lc_S} (hf : fQ_number_113 x1 t1 z = some (r, z')) : lc_hi z z' := by
  rw [fQ_number_113] at hf
  obtain ⟨hw1, hf⟩ := lc_chk_some hf
  cases hf
  exact (lc_hi.rf.ui (by decide))
set_option maxHeartbeats 1000000 in
theorem gQ_number_108 {x1 : Int32} {z : lc_S} {r} {z' : lc_S} (hf : fQ_number_108 x1 z = some (r, z')) : lc_hi z z' := by
  rw [fQ_number_108] at hf
  exact lc_hi.rf.tr (gQ_number_113 hf)
set_option maxHeartbeats 1000000 in
theorem gQ_number_95 {x1 : Int32} {x2 : Int32} {z : lc_S} {r} {z' : lc_S} (hf : fQ_number_95 x1 x2 z = some (r, z')) : lc_hi z z' := by
  rw [fQ_number_95] at hf
  by_cases hc1 : (lcI z 80 14) = 0
  · replace hf := lc_ite_pos hc1 hf
    by_cases hc2 : x2 ≤ 4
    · replace hf := lc_ite_pos hc2 hf
      exact lc_hi.rf.tr (gQ_number_113 hf)
    · replace hf := lc_ite_neg hc2 hf
      exact lc_hi.rf.tr (gQ_number_108 hf)
  · replace hf := lc_ite_neg hc1 hf
    exact lc_hi.rf.tr (gQ_number_108 hf)
set_option maxHeartbeats 1000000 in
theorem gQ_number_30 : ∀ {n : Nat} {x1 : Int32} {x2 : Int32} {z : lc_S} {r} {z' : lc_S}, fQ_number_30 n x1 x2 z = some (r, z') → lc_hi z z' := by
  intro n
  induction n with
  | zero =>
    intro x1 x2 z r z' hf
    cases (show none = some (r, z') from hf)
  | succ n ih =>
    intro x1 x2 z r z' hf
    rw [fQ_number_30] at hf
    by_cases hc1 : (lcI z 80 1) ≤ (lcI z 80 13)
    · replace hf := lc_ite_pos hc1 hf
      exact lc_hi.rf.tr (gQ_number_95 hf)
    · replace hf := lc_ite_neg hc1 hf
      obtain ⟨hw2, hf⟩ := lc_chk_some hf
      obtain ⟨r50, z50, hz50, hf⟩ := lc_bnd_some hf
      have gz50 : lc_hi z z50 := lc_hi.rf.tr (gQ_isDigit hz50)
      by_cases hc3 : r50 = 0
      · replace hf := lc_ite_pos hc3 hf
        exact gz50.tr (gQ_number_95 hf)
      · replace hf := lc_ite_neg hc3 hf
        by_cases hc4 : 5 ≤ x2
        · replace hf := lc_ite_pos hc4 hf
          exact gz50.tr (gQ_number_95 hf)
        · replace hf := lc_ite_neg hc4 hf
          obtain ⟨hw5, hf⟩ := lc_chk_some hf
          obtain ⟨x78, ex78⟩ : ∃ x, x = ((10 * x1) + (lcI z50 81 (lcI z50 80 13).toNatClampNeg)) - 48 := ⟨_, rfl⟩
          replace hf := lc_let_of ex78 hf
          obtain ⟨x89, ex89⟩ : ∃ x, x = x2 + 1 := ⟨_, rfl⟩
          replace hf := lc_let_of ex89 hf
          exact (gz50.ui (by decide)).tr (ih hf)
set_option maxHeartbeats 1000000 in
theorem gQ_number_27 {x1 : Int32} {x2 : Int32} {t1 : Int32} {z : lc_S} {r} {z' : lc_S} (hf : fQ_number_27 x1 x2 t1 z = some (r, z')) : lc_hi z z' := by
  rw [fQ_number_27] at hf
  obtain ⟨hw1, hf⟩ := lc_chk_some hf
  exact (lc_hi.rf.ui (by decide)).tr (gQ_number_30 hf)
set_option maxHeartbeats 1000000 in
theorem gQ_number_22 {x1 : Int32} {x2 : Int32} {z : lc_S} {r} {z' : lc_S} (hf : fQ_number_22 x1 x2 z = some (r, z')) : lc_hi z z' := by
  rw [fQ_number_22] at hf
  exact lc_hi.rf.tr (gQ_number_27 hf)
set_option maxHeartbeats 1000000 in
theorem gQ_number {z : lc_S} {r} {z' : lc_S} (hf : fQ_number z = some (r, z')) : lc_hi z z' := by
  rw [fQ_number] at hf
  by_cases hc1 : (lcI z 80 14) = 0
  · replace hf := lc_ite_pos hc1 hf
    obtain ⟨r13, z13, hz13, hf⟩ := lc_bnd_some hf
    have gz13 : lc_hi z z13 := lc_hi.rf.tr (gQ_peek hz13)
    obtain ⟨r16, z16, hz16, hf⟩ := lc_bnd_some hf
    have gz16 : lc_hi z z16 := gz13.tr (gQ_isDigit hz16)
    by_cases hc2 : r16 = 0
    · replace hf := lc_ite_pos hc2 hf
      exact gz16.tr (gQ_number_22 hf)
    · replace hf := lc_ite_neg hc2 hf
      exact gz16.tr (gQ_number_27 hf)
  · replace hf := lc_ite_neg hc1 hf
    exact lc_hi.rf.tr (gQ_number_22 hf)
set_option maxHeartbeats 1000000 in
theorem gQ_type_176 {k12 : Nat → Int32 → Int32 → Int32 → lc_S → Option ((Unit) × lc_S)} (hk12 : ∀ {v0 : Nat} {v1 : Int32} {v2 : Int32} {v3 : Int32} {z : lc_S} {r} {z' : lc_S}, k12 v0 v1 v2 v3 z = some (r, z') → lc_hi z z') {p1 : Nat} {x2 : Int32} {x3 : Int32} {t0 : Int32} {z : lc_S} {r} {z' : lc_S} (hf : fQ_type_176 k12 p1 x2 x3 t0 z = some (r, z')) : lc_hi z z' := by
  rw [fQ_type_176] at hf
  exact lc_hi.rf.tr (hk12 hf)
set_option maxHeartbeats 1000000 in
theorem gQ_type_167 {k12 : Nat → Int32 → Int32 → Int32 → lc_S → Option ((Unit) × lc_S)} (hk12 : ∀ {v0 : Nat} {v1 : Int32} {v2 : Int32} {v3 : Int32} {z : lc_S} {r} {z' : lc_S}, k12 v0 v1 v2 v3 z = some (r, z') → lc_hi z z') {p1 : Nat} {x2 : Int32} {x3 : Int32} {z : lc_S} {r} {z' : lc_S} (hf : fQ_type_167 k12 p1 x2 x3 z = some (r, z')) : lc_hi z z' := by
  rw [fQ_type_167] at hf
  by_cases hc1 : x3 = 0
  · replace hf := lc_ite_pos hc1 hf
    exact lc_hi.rf.tr (gQ_type_176 (fun h => hk12 h) hf)
  · replace hf := lc_ite_neg hc1 hf
    exact lc_hi.rf.tr (gQ_type_176 (fun h => hk12 h) hf)
set_option maxHeartbeats 1000000 in
theorem gQ_type_117 {k12 : Nat → Int32 → Int32 → Int32 → lc_S → Option ((Unit) × lc_S)} (hk12 : ∀ {v0 : Nat} {v1 : Int32} {v2 : Int32} {v3 : Int32} {z : lc_S} {r} {z' : lc_S}, k12 v0 v1 v2 v3 z = some (r, z') → lc_hi z z') : ∀ {n : Nat} {p1 : Nat} {x2 : Int32} {x3 : Int32} {z : lc_S} {r} {z' : lc_S}, fQ_type_117 k12 n p1 x2 x3 z = some (r, z') → lc_hi z z' := by
  intro n
  induction n with
  | zero =>
    intro p1 x2 x3 z r z' hf
    cases (show none = some (r, z') from hf)
  | succ n ih =>
    intro p1 x2 x3 z r z' hf
    rw [fQ_type_117] at hf
    by_cases hc1 : x3 ≤ 0
    · replace hf := lc_ite_pos hc1 hf
      exact lc_hi.rf.tr (gQ_type_167 (fun h => hk12 h) hf)
    · replace hf := lc_ite_neg hc1 hf
      obtain ⟨hw2, hf⟩ := lc_chk_some hf
      by_cases hc3 : (lcI z 97 (x3 - 1).toNatClampNeg) = 0
      · replace hf := lc_ite_pos hc3 hf
        by_cases hc4 : (lcI z 80 14) = 0
        · replace hf := lc_ite_pos hc4 hf
          obtain ⟨r142, z142, hz142, hf⟩ := lc_bnd_some hf
          have gz142 : lc_hi z z142 := lc_hi.rf.tr (gQ_expect hz142)
          obtain ⟨x145, ex145⟩ : ∃ x, x = x3 + (-1) := ⟨_, rfl⟩
          replace hf := lc_let_of ex145 hf
          by_cases hc5 : x145 ≤ 0
          · replace hf := lc_ite_pos hc5 hf
            exact gz142.tr (ih hf)
          · replace hf := lc_ite_neg hc5 hf
            obtain ⟨hw6, hf⟩ := lc_chk_some hf
            obtain ⟨hw7, hf⟩ := lc_chk_some hf
            exact (gz142.ui (by decide)).tr (ih hf)
        · replace hf := lc_ite_neg hc4 hf
          exact lc_hi.rf.tr (gQ_type_167 (fun h => hk12 h) hf)
      · replace hf := lc_ite_neg hc3 hf
        exact lc_hi.rf.tr (gQ_type_167 (fun h => hk12 h) hf)
set_option maxHeartbeats 1000000 in
theorem gQ_type_62 {k12 : Nat → Int32 → Int32 → Int32 → lc_S → Option ((Unit) × lc_S)} (hk12 : ∀ {v0 : Nat} {v1 : Int32} {v2 : Int32} {v3 : Int32} {z : lc_S} {r} {z' : lc_S}, k12 v0 v1 v2 v3 z = some (r, z') → lc_hi z z') {p1 : Nat} {x2 : Int32} {x3 : Int32} {x4 : Int32} {x5 : Int32} {t1 : Int32} {z : lc_S} {r} {z' : lc_S} (hf : fQ_type_62 k12 p1 x2 x3 x4 x5 t1 z = some (r, z')) : lc_hi z z' := by
  rw [fQ_type_62] at hf
  obtain ⟨hw1, hf⟩ := lc_chk_some hf
  by_cases hc2 : (lcI (lcUI z 80 14 t1) 80 14) = 0
  · replace hf := lc_ite_pos hc2 hf
    obtain ⟨hw3, hf⟩ := lc_chk_some hf
    obtain ⟨hw4, hf⟩ := lc_chk_some hf
    obtain ⟨x78, ex78⟩ : ∃ x, x = x2 + 1 := ⟨_, rfl⟩
    replace hf := lc_let_of ex78 hf
    by_cases hc5 : x5 = 40
    · replace hf := lc_ite_pos hc5 hf
      obtain ⟨hw6, hf⟩ := lc_chk_some hf
      obtain ⟨x95, ex95⟩ : ∃ x, x = x3 + 1 := ⟨_, rfl⟩
      replace hf := lc_let_of ex95 hf
      exact (((lc_hi.rf.ui (by decide)).ui (lc_bs_1_0_130 hw3)).ui (by decide)).tr (hk12 hf)
    · replace hf := lc_ite_neg hc5 hf
      by_cases hc7 : x3 ≤ 0
      · replace hf := lc_ite_pos hc7 hf
        exact ((lc_hi.rf.ui (by decide)).ui (lc_bs_1_0_130 hw3)).tr (gQ_type_117 (fun h => hk12 h) hf)
      · replace hf := lc_ite_neg hc7 hf
        obtain ⟨hw8, hf⟩ := lc_chk_some hf
        obtain ⟨hw9, hf⟩ := lc_chk_some hf
        exact (((lc_hi.rf.ui (by decide)).ui (lc_bs_1_0_130 hw3)).ui (by decide)).tr (gQ_type_117 (fun h => hk12 h) hf)
  · replace hf := lc_ite_neg hc2 hf
    cases hf
    exact (lc_hi.rf.ui (by decide))
set_option maxHeartbeats 1000000 in
theorem gQ_type_57 {k12 : Nat → Int32 → Int32 → Int32 → lc_S → Option ((Unit) × lc_S)} (hk12 : ∀ {v0 : Nat} {v1 : Int32} {v2 : Int32} {v3 : Int32} {z : lc_S} {r} {z' : lc_S}, k12 v0 v1 v2 v3 z = some (r, z') → lc_hi z z') {p1 : Nat} {x2 : Int32} {x3 : Int32} {x4 : Int32} {x5 : Int32} {z : lc_S} {r} {z' : lc_S} (hf : fQ_type_57 k12 p1 x2 x3 x4 x5 z = some (r, z')) : lc_hi z z' := by
  rw [fQ_type_57] at hf
  exact lc_hi.rf.tr (gQ_type_62 (fun h => hk12 h) hf)
set_option maxHeartbeats 1000000 in
theorem gQ_type_52 {k12 : Nat → Int32 → Int32 → Int32 → lc_S → Option ((Unit) × lc_S)} (hk12 : ∀ {v0 : Nat} {v1 : Int32} {v2 : Int32} {v3 : Int32} {z : lc_S} {r} {z' : lc_S}, k12 v0 v1 v2 v3 z = some (r, z') → lc_hi z z') {p1 : Nat} {x2 : Int32} {x3 : Int32} {x4 : Int32} {x5 : Int32} {z : lc_S} {r} {z' : lc_S} (hf : fQ_type_52 k12 p1 x2 x3 x4 x5 z = some (r, z')) : lc_hi z z' := by
  rw [fQ_type_52] at hf
  by_cases hc1 : x3 ≤ 4
  · replace hf := lc_ite_pos hc1 hf
    exact lc_hi.rf.tr (gQ_type_62 (fun h => hk12 h) hf)
  · replace hf := lc_ite_neg hc1 hf
    exact lc_hi.rf.tr (gQ_type_57 (fun h => hk12 h) hf)
set_option maxHeartbeats 1000000 in
theorem gQ_type_181 {p1 : Nat} {x2 : Int32} {z : lc_S} {r} {z' : lc_S} (hf : fQ_type_181 p1 x2 z = some (r, z')) : lc_hi z z' := by
  rw [fQ_type_181] at hf
  obtain ⟨hw1, hf⟩ := lc_chk_some hf
  obtain ⟨hw2, hf⟩ := lc_chk_some hf
  cases hf
  exact (lc_hi.rf.ui (lc_bs_1_0_130 hw1))
set_option maxHeartbeats 1000000 in
theorem gQ_type_12 : ∀ {n : Nat} {p1 : Nat} {x2 : Int32} {x3 : Int32} {x4 : Int32} {z : lc_S} {r} {z' : lc_S}, fQ_type_12 n p1 x2 x3 x4 z = some (r, z') → lc_hi z z' := by
  intro n
  induction n with
  | zero =>
    intro p1 x2 x3 x4 z r z' hf
    cases (show none = some (r, z') from hf)
  | succ n ih =>
    intro p1 x2 x3 x4 z r z' hf
    rw [fQ_type_12] at hf
    by_cases hc1 : x4 = 0
    · replace hf := lc_ite_pos hc1 hf
      by_cases hc2 : (lcI z 80 14) = 0
      · replace hf := lc_ite_pos hc2 hf
        obtain ⟨r25, z25, hz25, hf⟩ := lc_bnd_some hf
        have gz25 : lc_hi z z25 := lc_hi.rf.tr (gQ_next hz25)
        by_cases hc3 : r25 = 105
        · replace hf := lc_ite_pos hc3 hf
          exact gz25.tr (gQ_type_52 (fun h => ih h) hf)
        · replace hf := lc_ite_neg hc3 hf
          by_cases hc4 : r25 = 114
          · replace hf := lc_ite_pos hc4 hf
            exact gz25.tr (gQ_type_52 (fun h => ih h) hf)
          · replace hf := lc_ite_neg hc4 hf
            by_cases hc5 : r25 = 40
            · replace hf := lc_ite_pos hc5 hf
              exact gz25.tr (gQ_type_52 (fun h => ih h) hf)
            · replace hf := lc_ite_neg hc5 hf
              exact gz25.tr (gQ_type_57 (fun h => ih h) hf)
      · replace hf := lc_ite_neg hc2 hf
        exact lc_hi.rf.tr (gQ_type_181 hf)
    · replace hf := lc_ite_neg hc1 hf
      exact lc_hi.rf.tr (gQ_type_181 hf)
set_option maxHeartbeats 1000000 in
theorem gQ_type {a1 : Nat} {z : lc_S} {r} {z' : lc_S} (hf : fQ_type a1 z = some (r, z')) : lc_hi z z' := by
  rw [fQ_type] at hf
  exact (lc_hi.rf.ui (by decide)).tr (gQ_type_12 hf)
set_option maxHeartbeats 1000000 in
theorem gQ_isTwo_36 {z : lc_S} {r} {z' : lc_S} (hf : fQ_isTwo_36 z = some (r, z')) : lc_hi z z' := by
  rw [fQ_isTwo_36] at hf
  cases hf
  exact lc_hi.rf
set_option maxHeartbeats 1000000 in
theorem gQ_isTwo {a0 : Int32} {z : lc_S} {r} {z' : lc_S} (hf : fQ_isTwo a0 z = some (r, z')) : lc_hi z z' := by
  rw [fQ_isTwo] at hf
  by_cases hc1 : a0 = 43
  · replace hf := lc_ite_pos hc1 hf
    exact lc_hi.rf.tr (gQ_isTwo_36 hf)
  · replace hf := lc_ite_neg hc1 hf
    by_cases hc2 : a0 = 45
    · replace hf := lc_ite_pos hc2 hf
      exact lc_hi.rf.tr (gQ_isTwo_36 hf)
    · replace hf := lc_ite_neg hc2 hf
      by_cases hc3 : a0 = 42
      · replace hf := lc_ite_pos hc3 hf
        exact lc_hi.rf.tr (gQ_isTwo_36 hf)
      · replace hf := lc_ite_neg hc3 hf
        by_cases hc4 : a0 = 60
        · replace hf := lc_ite_pos hc4 hf
          exact lc_hi.rf.tr (gQ_isTwo_36 hf)
        · replace hf := lc_ite_neg hc4 hf
          by_cases hc5 : a0 = 44
          · replace hf := lc_ite_pos hc5 hf
            exact lc_hi.rf.tr (gQ_isTwo_36 hf)
          · replace hf := lc_ite_neg hc5 hf
            by_cases hc6 : a0 = 112
            · replace hf := lc_ite_pos hc6 hf
              exact lc_hi.rf.tr (gQ_isTwo_36 hf)
            · replace hf := lc_ite_neg hc6 hf
              cases hf
              exact lc_hi.rf
set_option maxHeartbeats 1000000 in
theorem gQ_partsOf_29 {z : lc_S} {r} {z' : lc_S} (hf : fQ_partsOf_29 z = some (r, z')) : lc_hi z z' := by
  rw [fQ_partsOf_29] at hf
  cases hf
  exact lc_hi.rf
set_option maxHeartbeats 1000000 in
theorem gQ_partsOf_57 {z : lc_S} {r} {z' : lc_S} (hf : fQ_partsOf_57 z = some (r, z')) : lc_hi z z' := by
  rw [fQ_partsOf_57] at hf
  cases hf
  exact lc_hi.rf
set_option maxHeartbeats 1000000 in
theorem gQ_partsOf {a0 : Int32} {z : lc_S} {r} {z' : lc_S} (hf : fQ_partsOf a0 z = some (r, z')) : lc_hi z z' := by
  rw [fQ_partsOf] at hf
  by_cases hc1 : a0 = 63
  · replace hf := lc_ite_pos hc1 hf
    cases hf
    exact lc_hi.rf
  · replace hf := lc_ite_neg hc1 hf
    obtain ⟨r11, z11, hz11, hf⟩ := lc_bnd_some hf
    have gz11 : lc_hi z z11 := lc_hi.rf.tr (gQ_isTwo hz11)
    by_cases hc2 : r11 = 0
    · replace hf := lc_ite_pos hc2 hf
      by_cases hc3 : a0 = 58
      · replace hf := lc_ite_pos hc3 hf
        exact gz11.tr (gQ_partsOf_29 hf)
      · replace hf := lc_ite_neg hc3 hf
        by_cases hc4 : a0 = 47
        · replace hf := lc_ite_pos hc4 hf
          exact gz11.tr (gQ_partsOf_29 hf)
        · replace hf := lc_ite_neg hc4 hf
          by_cases hc5 : a0 = 110
          · replace hf := lc_ite_pos hc5 hf
            exact gz11.tr (gQ_partsOf_57 hf)
          · replace hf := lc_ite_neg hc5 hf
            by_cases hc6 : a0 = 103
            · replace hf := lc_ite_pos hc6 hf
              exact gz11.tr (gQ_partsOf_57 hf)
            · replace hf := lc_ite_neg hc6 hf
              by_cases hc7 : a0 = 100
              · replace hf := lc_ite_pos hc7 hf
                exact gz11.tr (gQ_partsOf_57 hf)
              · replace hf := lc_ite_neg hc7 hf
                by_cases hc8 : a0 = 64
                · replace hf := lc_ite_pos hc8 hf
                  exact gz11.tr (gQ_partsOf_57 hf)
                · replace hf := lc_ite_neg hc8 hf
                  cases hf
                  exact gz11
    · replace hf := lc_ite_neg hc2 hf
      exact gz11.tr (gQ_partsOf_29 hf)
set_option maxHeartbeats 1000000 in
theorem gQ_part {a1 : Int32} {z : lc_S} {r} {z' : lc_S} (hf : fQ_part a1 z = some (r, z')) : lc_hi z z' := by
  rw [fQ_part] at hf
  obtain ⟨x6, ex6⟩ : ∃ x, x = lcI z 89 (0 : Int32).toNatClampNeg := ⟨_, rfl⟩
  replace hf := lc_let_of ex6 hf
  obtain ⟨hw1, hf⟩ := lc_chk_some hf
  obtain ⟨hw2, hf⟩ := lc_chk_some hf
  obtain ⟨hw3, hf⟩ := lc_chk_some hf
  obtain ⟨hw4, hf⟩ := lc_chk_some hf
  cases hf
  exact (((((lc_hi.rf.ui (by decide)).ui (by decide)).ui (by decide)).ui (by decide)).ui (by decide))
set_option maxHeartbeats 1000000 in
theorem gQ_bind {a1 : Int32} {a2 : Int32} {a3 : Int32} {z : lc_S} {r} {z' : lc_S} (hf : fQ_bind a1 a2 a3 z = some (r, z')) : lc_hi z z' := by
  rw [fQ_bind] at hf
  obtain ⟨hw1, hf⟩ := lc_chk_some hf
  obtain ⟨hw2, hf⟩ := lc_chk_some hf
  obtain ⟨hw3, hf⟩ := lc_chk_some hf
  obtain ⟨hw4, hf⟩ := lc_chk_some hf
  cases hf
  exact ((((lc_hi.rf.ui (by decide)).ui (by decide)).ui (by decide)).ui (by decide))
set_option maxHeartbeats 1000000 in
theorem gQ_variable_51 {x2 : Int32} {x3 : Int32} {t1 : Int32} {z : lc_S} {r} {z' : lc_S} (hf : fQ_variable_51 x2 x3 t1 z = some (r, z')) : lc_hi z z' := by
  rw [fQ_variable_51] at hf
  obtain ⟨hw1, hf⟩ := lc_chk_some hf
  by_cases hc2 : 0 ≤ x3
  · replace hf := lc_ite_pos hc2 hf
    obtain ⟨hw3, hf⟩ := lc_chk_some hf
    obtain ⟨hw4, hf⟩ := lc_chk_some hf
    obtain ⟨hw5, hf⟩ := lc_chk_some hf
    obtain ⟨hw6, hf⟩ := lc_chk_some hf
    obtain ⟨hw7, hf⟩ := lc_chk_some hf
    cases hf
    exact (((lc_hi.rf.ui (by decide)).ui (by decide)).ui (by decide))
  · replace hf := lc_ite_neg hc2 hf
    cases hf
    exact (lc_hi.rf.ui (by decide))
set_option maxHeartbeats 1000000 in
theorem gQ_variable_46 {x2 : Int32} {x3 : Int32} {z : lc_S} {r} {z' : lc_S} (hf : fQ_variable_46 x2 x3 z = some (r, z')) : lc_hi z z' := by
  rw [fQ_variable_46] at hf
  exact lc_hi.rf.tr (gQ_variable_51 hf)
set_option maxHeartbeats 1000000 in
theorem gQ_variable_34 {x2 : Int32} {x3 : Int32} {z : lc_S} {r} {z' : lc_S} (hf : fQ_variable_34 x2 x3 z = some (r, z')) : lc_hi z z' := by
  rw [fQ_variable_34] at hf
  by_cases hc1 : (lcI z 80 15) = 0
  · replace hf := lc_ite_pos hc1 hf
    by_cases hc2 : 0 ≤ x3
    · replace hf := lc_ite_pos hc2 hf
      exact lc_hi.rf.tr (gQ_variable_51 hf)
    · replace hf := lc_ite_neg hc2 hf
      exact lc_hi.rf.tr (gQ_variable_46 hf)
  · replace hf := lc_ite_neg hc1 hf
    exact lc_hi.rf.tr (gQ_variable_46 hf)
set_option maxHeartbeats 1000000 in
theorem gQ_variable_14 : ∀ {n : Nat} {x1 : Int32} {x2 : Int32} {x3 : Int32} {z : lc_S} {r} {z' : lc_S}, fQ_variable_14 n x1 x2 x3 z = some (r, z') → lc_hi z z' := by
  intro n
  induction n with
  | zero =>
    intro x1 x2 x3 z r z' hf
    cases (show none = some (r, z') from hf)
  | succ n ih =>
    intro x1 x2 x3 z r z' hf
    rw [fQ_variable_14] at hf
    by_cases hc1 : x3 < 0
    · replace hf := lc_ite_pos hc1 hf
      exact lc_hi.rf.tr (gQ_variable_34 hf)
    · replace hf := lc_ite_neg hc1 hf
      obtain ⟨hw2, hf⟩ := lc_chk_some hf
      by_cases hc3 : (lcI z 94 x3.toNatClampNeg) = x1
      · replace hf := lc_ite_pos hc3 hf
        exact lc_hi.rf.tr (gQ_variable_34 hf)
      · replace hf := lc_ite_neg hc3 hf
        obtain ⟨x28, ex28⟩ : ∃ x, x = x3 + (-1) := ⟨_, rfl⟩
        replace hf := lc_let_of ex28 hf
        exact lc_hi.rf.tr (ih hf)
set_option maxHeartbeats 1000000 in
theorem gQ_variable {a1 : Int32} {z : lc_S} {r} {z' : lc_S} (hf : fQ_variable a1 z = some (r, z')) : lc_hi z z' := by
  rw [fQ_variable] at hf
  obtain ⟨r3, z3, hz3, hf⟩ := lc_bnd_some hf
  have gz3 : lc_hi z z3 := lc_hi.rf.tr (gQ_part hz3)
  obtain ⟨x13, ex13⟩ : ∃ x, x = (lcI z3 80 19) - 1 := ⟨_, rfl⟩
  replace hf := lc_let_of ex13 hf
  exact gz3.tr (gQ_variable_14 hf)
set_option maxHeartbeats 1000000 in
theorem gQ_begin_276 {z : lc_S} {r} {z' : lc_S} (hf : fQ_begin_276 z = some (r, z')) : lc_hi z z' := by
  rw [fQ_begin_276] at hf
  cases hf
  exact lc_hi.rf
set_option maxHeartbeats 1000000 in
theorem gQ_begin_273 {t1 : Int32} {z : lc_S} {r} {z' : lc_S} (hf : fQ_begin_273 t1 z = some (r, z')) : lc_hi z z' := by
  rw [fQ_begin_273] at hf
  obtain ⟨hw1, hf⟩ := lc_chk_some hf
  exact (lc_hi.rf.ui (by decide)).tr (gQ_begin_276 hf)
set_option maxHeartbeats 1000000 in
theorem gQ_begin_268 {z : lc_S} {r} {z' : lc_S} (hf : fQ_begin_268 z = some (r, z')) : lc_hi z z' := by
  rw [fQ_begin_268] at hf
  exact lc_hi.rf.tr (gQ_begin_273 hf)
set_option maxHeartbeats 1000000 in
theorem gQ_begin_234 {x2 : Int32} {x3 : Int32} {z : lc_S} {r} {z' : lc_S} (hf : fQ_begin_234 x2 x3 z = some (r, z')) : lc_hi z z' := by
  rw [fQ_begin_234] at hf
  by_cases hc1 : x2 = 64
  · replace hf := lc_ite_pos hc1 hf
    obtain ⟨r246, z246, hz246, hf⟩ := lc_bnd_some hf
    have gz246 : lc_hi z z246 := lc_hi.rf.tr (gQ_number hz246)
    obtain ⟨hw2, hf⟩ := lc_chk_some hf
    by_cases hc3 : (lcI (lcUI z246 83 x3.toNatClampNeg r246) 80 14) = 0
    · replace hf := lc_ite_pos hc3 hf
      obtain ⟨hw4, hf⟩ := lc_chk_some hf
      by_cases hc5 : (lcI (lcUI z246 83 x3.toNatClampNeg r246) 83 x3.toNatClampNeg) ≤ 3
      · replace hf := lc_ite_pos hc5 hf
        exact (gz246.ui (by decide)).tr (gQ_begin_273 hf)
      · replace hf := lc_ite_neg hc5 hf
        exact (gz246.ui (by decide)).tr (gQ_begin_268 hf)
    · replace hf := lc_ite_neg hc3 hf
      exact (gz246.ui (by decide)).tr (gQ_begin_268 hf)
  · replace hf := lc_ite_neg hc1 hf
    exact lc_hi.rf.tr (gQ_begin_276 hf)
set_option maxHeartbeats 1000000 in
theorem gQ_begin_216 {x2 : Int32} {x3 : Int32} {x4 : Int32} {t1 : Int32} {z : lc_S} {r} {z' : lc_S} (hf : fQ_begin_216 x2 x3 x4 t1 z = some (r, z')) : lc_hi z z' := by
  rw [fQ_begin_216] at hf
  obtain ⟨hw1, hf⟩ := lc_chk_some hf
  obtain ⟨hw2, hf⟩ := lc_chk_some hf
  obtain ⟨hw3, hf⟩ := lc_chk_some hf
  exact ((lc_hi.rf.ui (by decide)).ui (by decide)).tr (gQ_begin_234 hf)
set_option maxHeartbeats 1000000 in
theorem gQ_begin_211 {x2 : Int32} {x3 : Int32} {x4 : Int32} {z : lc_S} {r} {z' : lc_S} (hf : fQ_begin_211 x2 x3 x4 z = some (r, z')) : lc_hi z z' := by
  rw [fQ_begin_211] at hf
  exact lc_hi.rf.tr (gQ_begin_216 hf)
set_option maxHeartbeats 1000000 in
theorem gQ_begin_180 {x2 : Int32} {x3 : Int32} {z : lc_S} {r} {z' : lc_S} (hf : fQ_begin_180 x2 x3 z = some (r, z')) : lc_hi z z' := by
  rw [fQ_begin_180] at hf
  by_cases hc1 : x2 = 47
  · replace hf := lc_ite_pos hc1 hf
    obtain ⟨r187, z187, hz187, hf⟩ := lc_bnd_some hf
    have gz187 : lc_hi z z187 := lc_hi.rf.tr (gQ_letter hz187)
    by_cases hc2 : (lcI z187 80 14) = 0
    · replace hf := lc_ite_pos hc2 hf
      obtain ⟨hw3, hf⟩ := lc_chk_some hf
      by_cases hc4 : r187 = (lcI z187 83 x3.toNatClampNeg)
      · replace hf := lc_ite_pos hc4 hf
        exact gz187.tr (gQ_begin_211 hf)
      · replace hf := lc_ite_neg hc4 hf
        exact gz187.tr (gQ_begin_216 hf)
    · replace hf := lc_ite_neg hc2 hf
      exact gz187.tr (gQ_begin_211 hf)
  · replace hf := lc_ite_neg hc1 hf
    exact lc_hi.rf.tr (gQ_begin_234 hf)
set_option maxHeartbeats 1000000 in
theorem gQ_begin_170 {x2 : Int32} {x3 : Int32} {z : lc_S} {r} {z' : lc_S} (hf : fQ_begin_170 x2 x3 z = some (r, z')) : lc_hi z z' := by
  rw [fQ_begin_170] at hf
  obtain ⟨r176, z176, hz176, hf⟩ := lc_bnd_some hf
  have gz176 : lc_hi z z176 := lc_hi.rf.tr (gQ_letter hz176)
  obtain ⟨hw1, hf⟩ := lc_chk_some hf
  exact (gz176.ui (by decide)).tr (gQ_begin_180 hf)
set_option maxHeartbeats 1000000 in
theorem gQ_begin_110 {x2 : Int32} {t1 : Int32} {z : lc_S} {r} {z' : lc_S} (hf : fQ_begin_110 x2 t1 z = some (r, z')) : lc_hi z z' := by
  rw [fQ_begin_110] at hf
  obtain ⟨hw1, hf⟩ := lc_chk_some hf
  by_cases hc2 : (lcI (lcUI z 80 14 t1) 80 14) = 0
  · replace hf := lc_ite_pos hc2 hf
    obtain ⟨r124, z124, hz124, hf⟩ := lc_bnd_some hf
    have gz124 : lc_hi z z124 := (lc_hi.rf.ui (by decide)).tr (gQ_part hz124)
    obtain ⟨hw3, hf⟩ := lc_chk_some hf
    obtain ⟨hw4, hf⟩ := lc_chk_some hf
    by_cases hc5 : x2 = 58
    · replace hf := lc_ite_pos hc5 hf
      exact (((gz124.ui (by decide)).ui (by decide)).ui (by decide)).tr (gQ_begin_170 hf)
    · replace hf := lc_ite_neg hc5 hf
      by_cases hc6 : x2 = 47
      · replace hf := lc_ite_pos hc6 hf
        exact (((gz124.ui (by decide)).ui (by decide)).ui (by decide)).tr (gQ_begin_170 hf)
      · replace hf := lc_ite_neg hc6 hf
        exact (((gz124.ui (by decide)).ui (by decide)).ui (by decide)).tr (gQ_begin_180 hf)
  · replace hf := lc_ite_neg hc2 hf
    cases hf
    exact (lc_hi.rf.ui (by decide))
set_option maxHeartbeats 1000000 in
theorem gQ_begin_105 {x2 : Int32} {z : lc_S} {r} {z' : lc_S} (hf : fQ_begin_105 x2 z = some (r, z')) : lc_hi z z' := by
  rw [fQ_begin_105] at hf
  exact lc_hi.rf.tr (gQ_begin_110 hf)
set_option maxHeartbeats 1000000 in
theorem gQ_begin_82 {t1 : Int32} {z : lc_S} {r} {z' : lc_S} (hf : fQ_begin_82 t1 z = some (r, z')) : lc_hi z z' := by
  rw [fQ_begin_82] at hf
  obtain ⟨hw1, hf⟩ := lc_chk_some hf
  obtain ⟨r86, z86, hz86, hf⟩ := lc_bnd_some hf
  have gz86 : lc_hi z z86 := (lc_hi.rf.ui (by decide)).tr (gQ_next hz86)
  by_cases hc2 : (lcI z86 80 14) = 0
  · replace hf := lc_ite_pos hc2 hf
    obtain ⟨r99, z99, hz99, hf⟩ := lc_bnd_some hf
    have gz99 : lc_hi z z99 := gz86.tr (gQ_partsOf hz99)
    by_cases hc3 : r99 = 0
    · replace hf := lc_ite_pos hc3 hf
      exact gz99.tr (gQ_begin_105 hf)
    · replace hf := lc_ite_neg hc3 hf
      exact gz99.tr (gQ_begin_110 hf)
  · replace hf := lc_ite_neg hc2 hf
    exact gz86.tr (gQ_begin_105 hf)
set_option maxHeartbeats 1000000 in
theorem gQ_begin {z : lc_S} {r} {z' : lc_S} (hf : fQ_begin z = some (r, z')) : lc_hi z z' := by
  rw [fQ_begin] at hf
  obtain ⟨r1, z1, hz1, hf⟩ := lc_bnd_some hf
  have gz1 : lc_hi z z1 := lc_hi.rf.tr (gQ_peek hz1)
  by_cases hc1 : (lcI z1 80 16) ≤ 16
  · replace hf := lc_ite_pos hc1 hf
    obtain ⟨r22, z22, hz22, hf⟩ := lc_bnd_some hf
    have gz22 : lc_hi z z22 := gz1.tr (gQ_isDigit hz22)
    by_cases hc2 : r22 = 0
    · replace hf := lc_ite_pos hc2 hf
      obtain ⟨r58, z58, hz58, hf⟩ := lc_bnd_some hf
      have gz58 : lc_hi z z58 := (gz22.ui (by decide)).tr (gQ_isLetter hz58)
      by_cases hc3 : r58 = 0
      · replace hf := lc_ite_pos hc3 hf
        by_cases hc4 : r1 = 40
        · replace hf := lc_ite_pos hc4 hf
          exact gz58.tr (gQ_begin_82 hf)
        · replace hf := lc_ite_neg hc4 hf
          exact gz58.tr (gQ_begin_82 hf)
      · replace hf := lc_ite_neg hc3 hf
        obtain ⟨r66, z66, hz66, hf⟩ := lc_bnd_some hf
        have gz66 : lc_hi z z66 := gz58.tr (gQ_variable hz66)
        cases hf
        exact gz66
    · replace hf := lc_ite_neg hc2 hf
      obtain ⟨r31, z31, hz31, hf⟩ := lc_bnd_some hf
      have gz31 : lc_hi z z31 := gz22.tr (gQ_part hz31)
      obtain ⟨r41, z41, hz41, hf⟩ := lc_bnd_some hf
      have gz41 : lc_hi z z41 := gz31.tr (gQ_number hz41)
      obtain ⟨hw5, hf⟩ := lc_chk_some hf
      cases hf
      exact (gz41.ui (by decide))
  · replace hf := lc_ite_neg hc1 hf
    cases hf
    exact (gz1.ui (by decide))
set_option maxHeartbeats 1000000 in
theorem gQ_attach_189 {x2 : Int32} {t1 : Int32} {t2 : Int32} {z : lc_S} {r} {z' : lc_S} (hf : fQ_attach_189 x2 t1 t2 z = some (r, z')) : lc_hi z z' := by
  rw [fQ_attach_189] at hf
  obtain ⟨r196, z196, hz196, hf⟩ := lc_bnd_some hf
  have gz196 : lc_hi z z196 := (lc_hi.rf.ui (by decide)).tr (gQ_expect hz196)
  cases hf
  exact (gz196.ui (by decide))
set_option maxHeartbeats 1000000 in
theorem gQ_attach_140 {x2 : Int32} {x4 : Int32} {z : lc_S} {r} {z' : lc_S} (hf : fQ_attach_140 x2 x4 z = some (r, z')) : lc_hi z z' := by
  rw [fQ_attach_140] at hf
  obtain ⟨hw1, hf⟩ := lc_chk_some hf
  obtain ⟨r153, z153, hz153, hf⟩ := lc_bnd_some hf
  have gz153 : lc_hi z z153 := lc_hi.rf.tr (gQ_partsOf hz153)
  by_cases hc2 : r153 ≤ (lcI z 93 ((lcI z 80 16) - 1).toNatClampNeg)
  · replace hf := lc_ite_pos hc2 hf
    by_cases hc3 : x4 = 58
    · replace hf := lc_ite_pos hc3 hf
      exact gz153.tr (gQ_attach_189 hf)
    · replace hf := lc_ite_neg hc3 hf
      by_cases hc4 : x4 = 47
      · replace hf := lc_ite_pos hc4 hf
        exact gz153.tr (gQ_attach_189 hf)
      · replace hf := lc_ite_neg hc4 hf
        exact gz153.tr (gQ_attach_189 hf)
  · replace hf := lc_ite_neg hc2 hf
    cases hf
    exact gz153
set_option maxHeartbeats 1000000 in
theorem gQ_attach_101 {x2 : Int32} {x4 : Int32} {z : lc_S} {r} {z' : lc_S} (hf : fQ_attach_101 x2 x4 z = some (r, z')) : lc_hi z z' := by
  rw [fQ_attach_101] at hf
  obtain ⟨hw1, hf⟩ := lc_chk_some hf
  obtain ⟨r114, z114, hz114, hf⟩ := lc_bnd_some hf
  have gz114 : lc_hi z z114 := lc_hi.rf.tr (gQ_bind hz114)
  by_cases hc2 : x4 = 47
  · replace hf := lc_ite_pos hc2 hf
    obtain ⟨hw3, hf⟩ := lc_chk_some hf
    obtain ⟨r137, z137, hz137, hf⟩ := lc_bnd_some hf
    have gz137 : lc_hi z z137 := gz114.tr (gQ_bind hz137)
    exact gz137.tr (gQ_attach_140 hf)
  · replace hf := lc_ite_neg hc2 hf
    exact gz114.tr (gQ_attach_140 hf)
set_option maxHeartbeats 1000000 in
theorem gQ_attach_68 {x2 : Int32} {x3 : Int32} {x4 : Int32} {z : lc_S} {r} {z' : lc_S} (hf : fQ_attach_68 x2 x3 x4 z = some (r, z')) : lc_hi z z' := by
  rw [fQ_attach_68] at hf
  obtain ⟨hw1, hf⟩ := lc_chk_some hf
  obtain ⟨hw2, hf⟩ := lc_chk_some hf
  by_cases hc3 : x3 = 0
  · replace hf := lc_ite_pos hc3 hf
    by_cases hc4 : x4 = 58
    · replace hf := lc_ite_pos hc4 hf
      exact (lc_hi.rf.ui (by decide)).tr (gQ_attach_101 hf)
    · replace hf := lc_ite_neg hc4 hf
      by_cases hc5 : x4 = 47
      · replace hf := lc_ite_pos hc5 hf
        exact (lc_hi.rf.ui (by decide)).tr (gQ_attach_101 hf)
      · replace hf := lc_ite_neg hc5 hf
        exact (lc_hi.rf.ui (by decide)).tr (gQ_attach_140 hf)
  · replace hf := lc_ite_neg hc3 hf
    exact (lc_hi.rf.ui (by decide)).tr (gQ_attach_140 hf)
set_option maxHeartbeats 1000000 in
theorem gQ_attach {a1 : Int32} {z : lc_S} {r} {z' : lc_S} (hf : fQ_attach a1 z = some (r, z')) : lc_hi z z' := by
  rw [fQ_attach] at hf
  obtain ⟨hw1, hf⟩ := lc_chk_some hf
  obtain ⟨x11, ex11⟩ : ∃ x, x = lcI z 92 ((lcI z 80 16) - 1).toNatClampNeg := ⟨_, rfl⟩
  replace hf := lc_let_of ex11 hf
  obtain ⟨hw2, hf⟩ := lc_chk_some hf
  obtain ⟨x23, ex23⟩ : ∃ x, x = lcI z 93 ((lcI z 80 16) - 1).toNatClampNeg := ⟨_, rfl⟩
  replace hf := lc_let_of ex23 hf
  obtain ⟨hw3, hf⟩ := lc_chk_some hf
  obtain ⟨x30, ex30⟩ : ∃ x, x = lcI z 82 x11.toNatClampNeg := ⟨_, rfl⟩
  replace hf := lc_let_of ex30 hf
  by_cases hc4 : x23 = 0
  · replace hf := lc_ite_pos hc4 hf
    obtain ⟨hw5, hf⟩ := lc_chk_some hf
    exact (lc_hi.rf.ui (by decide)).tr (gQ_attach_68 hf)
  · replace hf := lc_ite_neg hc4 hf
    by_cases hc6 : x23 = 1
    · replace hf := lc_ite_pos hc6 hf
      obtain ⟨hw7, hf⟩ := lc_chk_some hf
      exact (lc_hi.rf.ui (by decide)).tr (gQ_attach_68 hf)
    · replace hf := lc_ite_neg hc6 hf
      obtain ⟨hw8, hf⟩ := lc_chk_some hf
      exact (lc_hi.rf.ui (by decide)).tr (gQ_attach_68 hf)
set_option maxHeartbeats 1000000 in
theorem gQ_read_153 {k119 : Int32 → lc_S → Option ((Unit) × lc_S)} (hk119 : ∀ {v0 : Int32} {z : lc_S} {r} {z' : lc_S}, k119 v0 z = some (r, z') → lc_hi z z') {t0 : Int32} {z : lc_S} {r} {z' : lc_S} (hf : fQ_read_153 k119 t0 z = some (r, z')) : lc_hi z z' := by
  rw [fQ_read_153] at hf
  exact lc_hi.rf.tr (hk119 hf)
set_option maxHeartbeats 1000000 in
theorem gQ_read_137 {k119 : Int32 → lc_S → Option ((Unit) × lc_S)} (hk119 : ∀ {v0 : Int32} {z : lc_S} {r} {z' : lc_S}, k119 v0 z = some (r, z') → lc_hi z z') {x1 : Int32} {z : lc_S} {r} {z' : lc_S} (hf : fQ_read_137 k119 x1 z = some (r, z')) : lc_hi z z' := by
  rw [fQ_read_137] at hf
  by_cases hc1 : 0 ≤ x1
  · replace hf := lc_ite_pos hc1 hf
    obtain ⟨r150, z150, hz150, hf⟩ := lc_bnd_some hf
    have gz150 : lc_hi z z150 := lc_hi.rf.tr (gQ_attach hz150)
    exact gz150.tr (gQ_read_153 (fun h => hk119 h) hf)
  · replace hf := lc_ite_neg hc1 hf
    obtain ⟨r142, z142, hz142, hf⟩ := lc_bnd_some hf
    have gz142 : lc_hi z z142 := lc_hi.rf.tr (gQ_begin hz142)
    exact gz142.tr (gQ_read_153 (fun h => hk119 h) hf)
set_option maxHeartbeats 1000000 in
theorem gQ_read_177 {t1 : Int32} {z : lc_S} {r} {z' : lc_S} (hf : fQ_read_177 t1 z = some (r, z')) : lc_hi z z' := by
  rw [fQ_read_177] at hf
  obtain ⟨hw1, hf⟩ := lc_chk_some hf
  cases hf
  exact (lc_hi.rf.ui (by decide))
set_option maxHeartbeats 1000000 in
theorem gQ_read_172 {z : lc_S} {r} {z' : lc_S} (hf : fQ_read_172 z = some (r, z')) : lc_hi z z' := by
  rw [fQ_read_172] at hf
  exact lc_hi.rf.tr (gQ_read_177 hf)
set_option maxHeartbeats 1000000 in
theorem gQ_read_157 {z : lc_S} {r} {z' : lc_S} (hf : fQ_read_157 z = some (r, z')) : lc_hi z z' := by
  rw [fQ_read_157] at hf
  by_cases hc1 : (lcI z 80 14) = 0
  · replace hf := lc_ite_pos hc1 hf
    obtain ⟨r166, z166, hz166, hf⟩ := lc_bnd_some hf
    have gz166 : lc_hi z z166 := lc_hi.rf.tr (gQ_peek hz166)
    by_cases hc2 : r166 = 0
    · replace hf := lc_ite_pos hc2 hf
      exact gz166.tr (gQ_read_177 hf)
    · replace hf := lc_ite_neg hc2 hf
      exact gz166.tr (gQ_read_172 hf)
  · replace hf := lc_ite_neg hc1 hf
    exact lc_hi.rf.tr (gQ_read_172 hf)
set_option maxHeartbeats 1000000 in
theorem gQ_read_119 : ∀ {n : Nat} {x1 : Int32} {z : lc_S} {r} {z' : lc_S}, fQ_read_119 n x1 z = some (r, z') → lc_hi z z' := by
  intro n
  induction n with
  | zero =>
    intro x1 z r z' hf
    cases (show none = some (r, z') from hf)
  | succ n ih =>
    intro x1 z r z' hf
    rw [fQ_read_119] at hf
    by_cases hc1 : (lcI z 80 14) = 0
    · replace hf := lc_ite_pos hc1 hf
      by_cases hc2 : x1 < 0
      · replace hf := lc_ite_pos hc2 hf
        exact lc_hi.rf.tr (gQ_read_137 (fun h => ih h) hf)
      · replace hf := lc_ite_neg hc2 hf
        by_cases hc3 : (lcI z 80 16) ≤ 0
        · replace hf := lc_ite_pos hc3 hf
          exact lc_hi.rf.tr (gQ_read_157 hf)
        · replace hf := lc_ite_neg hc3 hf
          exact lc_hi.rf.tr (gQ_read_137 (fun h => ih h) hf)
    · replace hf := lc_ite_neg hc1 hf
      exact lc_hi.rf.tr (gQ_read_157 hf)
set_option maxHeartbeats 1000000 in
theorem gQ_read_93 : ∀ {n : Nat} {x1 : Int32} {z : lc_S} {r} {z' : lc_S}, fQ_read_93 n x1 z = some (r, z') → lc_hi z z' := by
  intro n
  induction n with
  | zero =>
    intro x1 z r z' hf
    cases (show none = some (r, z') from hf)
  | succ n ih =>
    intro x1 z r z' hf
    rw [fQ_read_93] at hf
    by_cases hc1 : 120 ≤ x1
    · replace hf := lc_ite_pos hc1 hf
      exact lc_hi.rf.tr (gQ_read_119 hf)
    · replace hf := lc_ite_neg hc1 hf
      obtain ⟨hw2, hf⟩ := lc_chk_some hf
      obtain ⟨hw3, hf⟩ := lc_chk_some hf
      obtain ⟨x111, ex111⟩ : ∃ x, x = x1 + 1 := ⟨_, rfl⟩
      replace hf := lc_let_of ex111 hf
      exact (lc_hi.rf.ui (by decide)).tr (ih hf)
set_option maxHeartbeats 1000000 in
theorem gQ_read_91 {z : lc_S} {r} {z' : lc_S} (hf : fQ_read_91 z = some (r, z')) : lc_hi z z' := by
  rw [fQ_read_91] at hf
  exact lc_hi.rf.tr (gQ_read_93 hf)
set_option maxHeartbeats 1000000 in
theorem gQ_read_52 : ∀ {n : Nat} {x1 : Int32} {z : lc_S} {r} {z' : lc_S}, fQ_read_52 n x1 z = some (r, z') → lc_hi z z' := by
  intro n
  induction n with
  | zero =>
    intro x1 z r z' hf
    cases (show none = some (r, z') from hf)
  | succ n ih =>
    intro x1 z r z' hf
    rw [fQ_read_52] at hf
    by_cases hc1 : 120 ≤ x1
    · replace hf := lc_ite_pos hc1 hf
      by_cases hc2 : (lcI z 80 14) = 0
      · replace hf := lc_ite_pos hc2 hf
        obtain ⟨r88, z88, hz88, hf⟩ := lc_bnd_some hf
        have gz88 : lc_hi z z88 := lc_hi.rf.tr (gQ_type hz88)
        exact gz88.tr (gQ_read_91 hf)
      · replace hf := lc_ite_neg hc2 hf
        exact lc_hi.rf.tr (gQ_read_91 hf)
    · replace hf := lc_ite_neg hc1 hf
      obtain ⟨hw3, hf⟩ := lc_chk_some hf
      obtain ⟨hw4, hf⟩ := lc_chk_some hf
      obtain ⟨x70, ex70⟩ : ∃ x, x = x1 + 1 := ⟨_, rfl⟩
      replace hf := lc_let_of ex70 hf
      exact (lc_hi.rf.ui (by decide)).tr (ih hf)
set_option maxHeartbeats 1000000 in
theorem gQ_read {z : lc_S} {r} {z' : lc_S} (hf : fQ_read z = some (r, z')) : lc_hi z z' := by
  rw [fQ_read] at hf
  obtain ⟨r34, z34, hz34, hf⟩ := lc_bnd_some hf
  have gz34 : lc_hi z z34 := ((((((lc_hi.rf.ui (by decide)).ui (by decide)).ui (by decide)).ui (by decide)).ui (by decide)).ui (by decide)).tr (gQ_letter hz34)
  obtain ⟨r39, z39, hz39, hf⟩ := lc_bnd_some hf
  have gz39 : lc_hi z z39 := gz34.tr (gQ_bind hz39)
  obtain ⟨r47, z47, hz47, hf⟩ := lc_bnd_some hf
  have gz47 : lc_hi z z47 := gz39.tr (gQ_type hz47)
  exact gz47.tr (gQ_read_52 hf)
set_option maxHeartbeats 1000000 in
theorem gQ_define_30 {z : lc_S} {r} {z' : lc_S} (hf : fQ_define_30 z = some (r, z')) : lc_hi z z' := by
  rw [fQ_define_30] at hf
  obtain ⟨r32, z32, hz32, hf⟩ := lc_bnd_some hf
  have gz32 : lc_hi z z32 := lc_hi.rf.tr (gQ_refuse hz32)
  cases hf
  exact gz32
set_option maxHeartbeats 1000000 in
theorem gQ_define_58 : ∀ {n : Nat} {x1 : Int32} {x2 : Int32} {x3 : Int32} {z : lc_S} {r} {z' : lc_S}, fQ_define_58 n x1 x2 x3 z = some (r, z') → lc_hi z z' := by
  intro n
  induction n with
  | zero =>
    intro x1 x2 x3 z r z' hf
    cases (show none = some (r, z') from hf)
  | succ n ih =>
    intro x1 x2 x3 z r z' hf
    rw [fQ_define_58] at hf
    by_cases hc1 : 120 ≤ x3
    · replace hf := lc_ite_pos hc1 hf
      obtain ⟨hw2, hf⟩ := lc_chk_some hf
      cases hf
      exact (lc_hi.rf.ui (by decide))
    · replace hf := lc_ite_neg hc1 hf
      obtain ⟨hw3, hf⟩ := lc_chk_some hf
      obtain ⟨hw4, hf⟩ := lc_chk_some hf
      obtain ⟨hw5, hf⟩ := lc_chk_some hf
      obtain ⟨hw6, hf⟩ := lc_chk_some hf
      obtain ⟨hw7, hf⟩ := lc_chk_some hf
      obtain ⟨hw8, hf⟩ := lc_chk_some hf
      obtain ⟨hw9, hf⟩ := lc_chk_some hf
      obtain ⟨hw10, hf⟩ := lc_chk_some hf
      obtain ⟨hw11, hf⟩ := lc_chk_some hf
      obtain ⟨hw12, hf⟩ := lc_chk_some hf
      obtain ⟨hw13, hf⟩ := lc_chk_some hf
      obtain ⟨hw14, hf⟩ := lc_chk_some hf
      obtain ⟨hw15, hf⟩ := lc_chk_some hf
      obtain ⟨hw16, hf⟩ := lc_chk_some hf
      obtain ⟨hw17, hf⟩ := lc_chk_some hf
      obtain ⟨hw18, hf⟩ := lc_chk_some hf
      obtain ⟨hw19, hf⟩ := lc_chk_some hf
      obtain ⟨hw20, hf⟩ := lc_chk_some hf
      obtain ⟨hw21, hf⟩ := lc_chk_some hf
      obtain ⟨x190, ex190⟩ : ∃ x, x = x3 + 1 := ⟨_, rfl⟩
      replace hf := lc_let_of ex190 hf
      exact (((((((((lc_hi.rf.ui (by decide)).ui (by decide)).ui (by decide)).ui (by decide)).ui (by decide)).ui (by decide)).ui (by decide)).ui (by decide)).ui (by decide)).tr (ih hf)
set_option maxHeartbeats 1000000 in
theorem gQ_define {a1 : Int32} {z : lc_S} {r} {z' : lc_S} (hf : fQ_define a1 z = some (r, z')) : lc_hi z z' := by
  rw [fQ_define] at hf
  obtain ⟨r6, z6, hz6, hf⟩ := lc_bnd_some hf
  have gz6 : lc_hi z z6 := (lc_hi.rf.ui (by decide)).tr (gQ_read hz6)
  by_cases hc1 : (lcI (lcUI z6 80 1 0) 80 14) = 0
  · replace hf := lc_ite_pos hc1 hf
    by_cases hc2 : a1 < 0
    · replace hf := lc_ite_pos hc2 hf
      exact (gz6.ui (by decide)).tr (gQ_define_30 hf)
    · replace hf := lc_ite_neg hc2 hf
      by_cases hc3 : a1 ≤ 3
      · replace hf := lc_ite_pos hc3 hf
        by_cases hc4 : (lcI (lcUI z6 80 1 0) 80 15) = 0
        · replace hf := lc_ite_pos hc4 hf
          obtain ⟨x55, ex55⟩ : ∃ x, x = 120 * (a1 + 1) := ⟨_, rfl⟩
          replace hf := lc_let_of ex55 hf
          exact (gz6.ui (by decide)).tr (gQ_define_58 hf)
        · replace hf := lc_ite_neg hc4 hf
          obtain ⟨r45, z45, hz45, hf⟩ := lc_bnd_some hf
          have gz45 : lc_hi z z45 := (gz6.ui (by decide)).tr (gQ_refuse hz45)
          cases hf
          exact gz45
      · replace hf := lc_ite_neg hc3 hf
        exact (gz6.ui (by decide)).tr (gQ_define_30 hf)
  · replace hf := lc_ite_neg hc1 hf
    exact (gz6.ui (by decide)).tr (gQ_define_30 hf)
set_option maxHeartbeats 1000000 in
theorem gQ_isThere_24 {z : lc_S} {r} {z' : lc_S} (hf : fQ_isThere_24 z = some (r, z')) : lc_hi z z' := by
  rw [fQ_isThere_24] at hf
  cases hf
  exact lc_hi.rf
set_option maxHeartbeats 1000000 in
theorem gQ_isThere {a1 : Int32} {z : lc_S} {r} {z' : lc_S} (hf : fQ_isThere a1 z = some (r, z')) : lc_hi z z' := by
  rw [fQ_isThere] at hf
  by_cases hc1 : a1 < 0
  · replace hf := lc_ite_pos hc1 hf
    exact lc_hi.rf.tr (gQ_isThere_24 hf)
  · replace hf := lc_ite_neg hc1 hf
    by_cases hc2 : 4 ≤ a1
    · replace hf := lc_ite_pos hc2 hf
      exact lc_hi.rf.tr (gQ_isThere_24 hf)
    · replace hf := lc_ite_neg hc2 hf
      obtain ⟨hw3, hf⟩ := lc_chk_some hf
      by_cases hc4 : (lcI z 89 (a1 + 1).toNatClampNeg) ≤ 0
      · replace hf := lc_ite_pos hc4 hf
        exact lc_hi.rf.tr (gQ_isThere_24 hf)
      · replace hf := lc_ite_neg hc4 hf
        cases hf
        exact lc_hi.rf
set_option maxHeartbeats 1000000 in
theorem gQ_pairType_32 {k2 : Int32 → Int32 → Int32 → lc_S → Option ((Int32) × lc_S)} (hk2 : ∀ {v0 : Int32} {v1 : Int32} {v2 : Int32} {z : lc_S} {r} {z' : lc_S}, k2 v0 v1 v2 z = some (r, z') → lc_hi z z') {x1 : Int32} {x2 : Int32} {x3 : Int32} {z : lc_S} {r} {z' : lc_S} (hf : fQ_pairType_32 k2 x1 x2 x3 z = some (r, z')) : lc_hi z z' := by
  rw [fQ_pairType_32] at hf
  obtain ⟨x32, ex32⟩ : ∃ x, x = x3 + 1 := ⟨_, rfl⟩
  replace hf := lc_let_of ex32 hf
  exact lc_hi.rf.tr (hk2 hf)
set_option maxHeartbeats 1000000 in
theorem gQ_pairType_2 : ∀ {n : Nat} {x1 : Int32} {x2 : Int32} {x3 : Int32} {z : lc_S} {r} {z' : lc_S}, fQ_pairType_2 n x1 x2 x3 z = some (r, z') → lc_hi z z' := by
  intro n
  induction n with
  | zero =>
    intro x1 x2 x3 z r z' hf
    cases (show none = some (r, z') from hf)
  | succ n ih =>
    intro x1 x2 x3 z r z' hf
    rw [fQ_pairType_2] at hf
    by_cases hc1 : (lcI z 80 25) ≤ x3
    · replace hf := lc_ite_pos hc1 hf
      obtain ⟨hw2, hf⟩ := lc_chk_some hf
      obtain ⟨hw3, hf⟩ := lc_chk_some hf
      cases hf
      exact (((lc_hi.rf.ui (by decide)).ui (by decide)).ui (by decide))
    · replace hf := lc_ite_neg hc1 hf
      obtain ⟨hw4, hf⟩ := lc_chk_some hf
      by_cases hc5 : (lcI z 98 x3.toNatClampNeg) = x1
      · replace hf := lc_ite_pos hc5 hf
        obtain ⟨hw6, hf⟩ := lc_chk_some hf
        by_cases hc7 : (lcI z 99 x3.toNatClampNeg) = x2
        · replace hf := lc_ite_pos hc7 hf
          cases hf
          exact lc_hi.rf
        · replace hf := lc_ite_neg hc7 hf
          exact lc_hi.rf.tr (gQ_pairType_32 (fun h => ih h) hf)
      · replace hf := lc_ite_neg hc5 hf
        exact lc_hi.rf.tr (gQ_pairType_32 (fun h => ih h) hf)
set_option maxHeartbeats 1000000 in
theorem gQ_pairType {a1 : Int32} {a2 : Int32} {z : lc_S} {r} {z' : lc_S} (hf : fQ_pairType a1 a2 z = some (r, z')) : lc_hi z z' := by
  rw [fQ_pairType] at hf
  exact lc_hi.rf.tr (gQ_pairType_2 hf)
set_option maxHeartbeats 1000000 in
theorem gQ_typeIn_125 {k26 : Nat → Int32 → Int32 → lc_S → Option ((Int32) × lc_S)} (hk26 : ∀ {v0 : Nat} {v1 : Int32} {v2 : Int32} {z : lc_S} {r} {z' : lc_S}, k26 v0 v1 v2 z = some (r, z') → lc_hi z z') {p1 : Nat} {x2 : Int32} {x4 : Int32} {z : lc_S} {r} {z' : lc_S} (hf : fQ_typeIn_125 k26 p1 x2 x4 z = some (r, z')) : lc_hi z z' := by
  rw [fQ_typeIn_125] at hf
  obtain ⟨x125, ex125⟩ : ∃ x, x = x4 + (-1) := ⟨_, rfl⟩
  replace hf := lc_let_of ex125 hf
  exact lc_hi.rf.tr (hk26 hf)
set_option maxHeartbeats 1000000 in
theorem gQ_typeIn_114 {k26 : Nat → Int32 → Int32 → lc_S → Option ((Int32) × lc_S)} (hk26 : ∀ {v0 : Nat} {v1 : Int32} {v2 : Int32} {z : lc_S} {r} {z' : lc_S}, k26 v0 v1 v2 z = some (r, z') → lc_hi z z') {p1 : Nat} {x2 : Int32} {x4 : Int32} {t1 : Int32} {t2 : Int32} {z : lc_S} {r} {z' : lc_S} (hf : fQ_typeIn_114 k26 p1 x2 x4 t1 t2 z = some (r, z')) : lc_hi z z' := by
  rw [fQ_typeIn_114] at hf
  obtain ⟨hw1, hf⟩ := lc_chk_some hf
  exact ((lc_hi.rf.ui (by decide)).ui (by decide)).tr (gQ_typeIn_125 (fun h => hk26 h) hf)
set_option maxHeartbeats 1000000 in
theorem gQ_typeIn_26 : ∀ {n : Nat} {p1 : Nat} {x2 : Int32} {x4 : Int32} {z : lc_S} {r} {z' : lc_S}, fQ_typeIn_26 n p1 x2 x4 z = some (r, z') → lc_hi z z' := by
  intro n
  induction n with
  | zero =>
    intro p1 x2 x4 z r z' hf
    cases (show none = some (r, z') from hf)
  | succ n ih =>
    intro p1 x2 x4 z r z' hf
    rw [fQ_typeIn_26] at hf
    by_cases hc1 : x4 < 0
    · replace hf := lc_ite_pos hc1 hf
      cases hf
      exact lc_hi.rf
    · replace hf := lc_ite_neg hc1 hf
      obtain ⟨hw2, hf⟩ := lc_chk_some hf
      obtain ⟨hw3, hf⟩ := lc_chk_some hf
      obtain ⟨x37, ex37⟩ : ∃ x, x = lcI z p1 (x2 + x4).toNatClampNeg := ⟨_, rfl⟩
      replace hf := lc_let_of ex37 hf
      by_cases hc4 : x37 = 40
      · replace hf := lc_ite_pos hc4 hf
        obtain ⟨hw5, hf⟩ := lc_chk_some hf
        obtain ⟨hw6, hf⟩ := lc_chk_some hf
        obtain ⟨r87, z87, hz87, hf⟩ := lc_bnd_some hf
        have gz87 : lc_hi z z87 := (lc_hi.rf.ui (by decide)).tr (gQ_pairType hz87)
        obtain ⟨hw7, hf⟩ := lc_chk_some hf
        exact (gz87.ui (by decide)).tr (gQ_typeIn_125 (fun h => ih h) hf)
      · replace hf := lc_ite_neg hc4 hf
        by_cases hc8 : x37 = 105
        · replace hf := lc_ite_pos hc8 hf
          exact lc_hi.rf.tr (gQ_typeIn_114 (fun h => ih h) hf)
        · replace hf := lc_ite_neg hc8 hf
          exact lc_hi.rf.tr (gQ_typeIn_114 (fun h => ih h) hf)
set_option maxHeartbeats 1000000 in
theorem gQ_typeIn_2 : ∀ {n : Nat} {p1 : Nat} {x2 : Int32} {x3 : Int32} {z : lc_S} {r} {z' : lc_S}, fQ_typeIn_2 n p1 x2 x3 z = some (r, z') → lc_hi z z' := by
  intro n
  induction n with
  | zero =>
    intro p1 x2 x3 z r z' hf
    cases (show none = some (r, z') from hf)
  | succ n ih =>
    intro p1 x2 x3 z r z' hf
    rw [fQ_typeIn_2] at hf
    obtain ⟨hw1, hf⟩ := lc_chk_some hf
    obtain ⟨hw2, hf⟩ := lc_chk_some hf
    by_cases hc3 : (lcI z p1 (x2 + x3).toNatClampNeg) = 0
    · replace hf := lc_ite_pos hc3 hf
      obtain ⟨x24, ex24⟩ : ∃ x, x = x3 - 1 := ⟨_, rfl⟩
      replace hf := lc_let_of ex24 hf
      exact (lc_hi.rf.ui (by decide)).tr (gQ_typeIn_26 hf)
    · replace hf := lc_ite_neg hc3 hf
      obtain ⟨x10, ex10⟩ : ∃ x, x = x3 + 1 := ⟨_, rfl⟩
      replace hf := lc_let_of ex10 hf
      exact lc_hi.rf.tr (ih hf)
set_option maxHeartbeats 1000000 in
theorem gQ_typeIn {a1 : Nat} {a2 : Int32} {z : lc_S} {r} {z' : lc_S} (hf : fQ_typeIn a1 a2 z = some (r, z')) : lc_hi z z' := by
  rw [fQ_typeIn] at hf
  exact lc_hi.rf.tr (gQ_typeIn_2 hf)
set_option maxHeartbeats 1000000 in
theorem gQ_isLinear_57 {k4 : Int32 → Int32 → lc_S → Option ((Int32) × lc_S)} (hk4 : ∀ {v0 : Int32} {v1 : Int32} {z : lc_S} {r} {z' : lc_S}, k4 v0 v1 z = some (r, z') → lc_hi z z') {x1 : Int32} {x3 : Int32} {t1 : Int32} {t2 : Int32} {z : lc_S} {r} {z' : lc_S} (hf : fQ_isLinear_57 k4 x1 x3 t1 t2 z = some (r, z')) : lc_hi z z' := by
  rw [fQ_isLinear_57] at hf
  obtain ⟨hw1, hf⟩ := lc_chk_some hf
  obtain ⟨hw2, hf⟩ := lc_chk_some hf
  obtain ⟨x58, ex58⟩ : ∃ x, x = x3 + 1 := ⟨_, rfl⟩
  replace hf := lc_let_of ex58 hf
  exact (lc_hi.rf.ui (by decide)).tr (hk4 hf)
set_option maxHeartbeats 1000000 in
theorem gQ_isLinear_52 {k4 : Int32 → Int32 → lc_S → Option ((Int32) × lc_S)} (hk4 : ∀ {v0 : Int32} {v1 : Int32} {z : lc_S} {r} {z' : lc_S}, k4 v0 v1 z = some (r, z') → lc_hi z z') {x1 : Int32} {x3 : Int32} {t1 : Int32} {z : lc_S} {r} {z' : lc_S} (hf : fQ_isLinear_52 k4 x1 x3 t1 z = some (r, z')) : lc_hi z z' := by
  rw [fQ_isLinear_52] at hf
  exact lc_hi.rf.tr (gQ_isLinear_57 (fun h => hk4 h) hf)
set_option maxHeartbeats 1000000 in
theorem gQ_isLinear_56 {k4 : Int32 → Int32 → lc_S → Option ((Int32) × lc_S)} (hk4 : ∀ {v0 : Int32} {v1 : Int32} {z : lc_S} {r} {z' : lc_S}, k4 v0 v1 z = some (r, z') → lc_hi z z') {x1 : Int32} {x3 : Int32} {t1 : Int32} {z : lc_S} {r} {z' : lc_S} (hf : fQ_isLinear_56 k4 x1 x3 t1 z = some (r, z')) : lc_hi z z' := by
  rw [fQ_isLinear_56] at hf
  exact lc_hi.rf.tr (gQ_isLinear_57 (fun h => hk4 h) hf)
set_option maxHeartbeats 1000000 in
theorem gQ_isLinear_4 : ∀ {n : Nat} {x1 : Int32} {x3 : Int32} {z : lc_S} {r} {z' : lc_S}, fQ_isLinear_4 n x1 x3 z = some (r, z') → lc_hi z z' := by
  intro n
  induction n with
  | zero =>
    intro x1 x3 z r z' hf
    cases (show none = some (r, z') from hf)
  | succ n ih =>
    intro x1 x3 z r z' hf
    rw [fQ_isLinear_4] at hf
    by_cases hc1 : x1 < x3
    · replace hf := lc_ite_pos hc1 hf
      obtain ⟨hw2, hf⟩ := lc_chk_some hf
      obtain ⟨x70, ex70⟩ : ∃ x, x = lcI z 120 x1.toNatClampNeg := ⟨_, rfl⟩
      replace hf := lc_let_of ex70 hf
      obtain ⟨hw3, hf⟩ := lc_chk_some hf
      cases hf
      exact lc_hi.rf
    · replace hf := lc_ite_neg hc1 hf
      by_cases hc4 : x3 = 1
      · replace hf := lc_ite_pos hc4 hf
        exact lc_hi.rf.tr (gQ_isLinear_52 (fun h => ih h) hf)
      · replace hf := lc_ite_neg hc4 hf
        by_cases hc5 : x3 ≤ 1
        · replace hf := lc_ite_pos hc5 hf
          exact lc_hi.rf.tr (gQ_isLinear_56 (fun h => ih h) hf)
        · replace hf := lc_ite_neg hc5 hf
          obtain ⟨hw6, hf⟩ := lc_chk_some hf
          obtain ⟨hw7, hf⟩ := lc_chk_some hf
          by_cases hc8 : (lcI z 120 (lcI z 98 x3.toNatClampNeg).toNatClampNeg) = 0
          · replace hf := lc_ite_pos hc8 hf
            obtain ⟨hw9, hf⟩ := lc_chk_some hf
            obtain ⟨hw10, hf⟩ := lc_chk_some hf
            by_cases hc11 : (lcI z 120 (lcI z 99 x3.toNatClampNeg).toNatClampNeg) = 0
            · replace hf := lc_ite_pos hc11 hf
              exact lc_hi.rf.tr (gQ_isLinear_56 (fun h => ih h) hf)
            · replace hf := lc_ite_neg hc11 hf
              exact lc_hi.rf.tr (gQ_isLinear_52 (fun h => ih h) hf)
          · replace hf := lc_ite_neg hc8 hf
            exact lc_hi.rf.tr (gQ_isLinear_52 (fun h => ih h) hf)
set_option maxHeartbeats 1000000 in
theorem gQ_isLinear {a1 : Int32} {z : lc_S} {r} {z' : lc_S} (hf : fQ_isLinear a1 z = some (r, z')) : lc_hi z z' := by
  rw [fQ_isLinear] at hf
  exact lc_hi.rf.tr (gQ_isLinear_4 hf)
set_option maxHeartbeats 1000000 in
theorem gQ_bindingType_54 {x4 : Int32} {z : lc_S} {r} {z' : lc_S} (hf : fQ_bindingType_54 x4 z = some (r, z')) : lc_hi z z' := by
  rw [fQ_bindingType_54] at hf
  cases hf
  exact lc_hi.rf
set_option maxHeartbeats 1000000 in
theorem gQ_bindingType {a1 : Int32} {a2 : Int32} {a3 : Int32} {z : lc_S} {r} {z' : lc_S} (hf : fQ_bindingType a1 a2 a3 z = some (r, z')) : lc_hi z z' := by
  rw [fQ_bindingType] at hf
  by_cases hc1 : 0 ≤ a2
  · replace hf := lc_ite_pos hc1 hf
    obtain ⟨hw2, hf⟩ := lc_chk_some hf
    obtain ⟨hw3, hf⟩ := lc_chk_some hf
    obtain ⟨x29, ex29⟩ : ∃ x, x = lcI z 100 (lcI z 84 ((120 * (a1 + 1)) + a2).toNatClampNeg).toNatClampNeg := ⟨_, rfl⟩
    replace hf := lc_let_of ex29 hf
    by_cases hc4 : x29 < 0
    · replace hf := lc_ite_pos hc4 hf
      exact lc_hi.rf.tr (gQ_bindingType_54 hf)
    · replace hf := lc_ite_neg hc4 hf
      obtain ⟨hw5, hf⟩ := lc_chk_some hf
      by_cases hc6 : (lcI z 82 ((120 * (a1 + 1)) + a2).toNatClampNeg) = 58
      · replace hf := lc_ite_pos hc6 hf
        exact lc_hi.rf.tr (gQ_bindingType_54 hf)
      · replace hf := lc_ite_neg hc6 hf
        by_cases hc7 : 2 ≤ x29
        · replace hf := lc_ite_pos hc7 hf
          by_cases hc8 : a3 = 0
          · replace hf := lc_ite_pos hc8 hf
            obtain ⟨hw9, hf⟩ := lc_chk_some hf
            cases hf
            exact lc_hi.rf
          · replace hf := lc_ite_neg hc8 hf
            obtain ⟨hw10, hf⟩ := lc_chk_some hf
            cases hf
            exact lc_hi.rf
        · replace hf := lc_ite_neg hc7 hf
          cases hf
          exact lc_hi.rf
  · replace hf := lc_ite_neg hc1 hf
    obtain ⟨hw11, hf⟩ := lc_chk_some hf
    cases hf
    exact lc_hi.rf
set_option maxHeartbeats 1000000 in
theorem gQ_typeBy_135 {z : lc_S} {r} {z' : lc_S} (hf : fQ_typeBy_135 z = some (r, z')) : lc_hi z z' := by
  rw [fQ_typeBy_135] at hf
  cases hf
  exact lc_hi.rf
set_option maxHeartbeats 1000000 in
theorem gQ_typeBy_152 {z : lc_S} {r} {z' : lc_S} (hf : fQ_typeBy_152 z = some (r, z')) : lc_hi z z' := by
  rw [fQ_typeBy_152] at hf
  cases hf
  exact lc_hi.rf
set_option maxHeartbeats 1000000 in
theorem gQ_typeBy_424 {z : lc_S} {r} {z' : lc_S} (hf : fQ_typeBy_424 z = some (r, z')) : lc_hi z z' := by
  rw [fQ_typeBy_424] at hf
  cases hf
  exact lc_hi.rf
set_option maxHeartbeats 1000000 in
theorem gQ_typeBy_367 {z : lc_S} {r} {z' : lc_S} (hf : fQ_typeBy_367 z = some (r, z')) : lc_hi z z' := by
  rw [fQ_typeBy_367] at hf
  cases hf
  exact lc_hi.rf
set_option maxHeartbeats 1000000 in
theorem gQ_typeBy_297 {z : lc_S} {r} {z' : lc_S} (hf : fQ_typeBy_297 z = some (r, z')) : lc_hi z z' := by
  rw [fQ_typeBy_297] at hf
  cases hf
  exact lc_hi.rf
set_option maxHeartbeats 1000000 in
theorem gQ_typeBy_278 {z : lc_S} {r} {z' : lc_S} (hf : fQ_typeBy_278 z = some (r, z')) : lc_hi z z' := by
  rw [fQ_typeBy_278] at hf
  cases hf
  exact lc_hi.rf
set_option maxHeartbeats 1000000 in
theorem gQ_typeBy_264 {x6 : Int32} {x7 : Int32} {z : lc_S} {r} {z' : lc_S} (hf : fQ_typeBy_264 x6 x7 z = some (r, z')) : lc_hi z z' := by
  rw [fQ_typeBy_264] at hf
  by_cases hc1 : x6 = 0
  · replace hf := lc_ite_pos hc1 hf
    by_cases hc2 : x7 = 0
    · replace hf := lc_ite_pos hc2 hf
      cases hf
      exact lc_hi.rf
    · replace hf := lc_ite_neg hc2 hf
      exact lc_hi.rf.tr (gQ_typeBy_278 hf)
  · replace hf := lc_ite_neg hc1 hf
    exact lc_hi.rf.tr (gQ_typeBy_278 hf)
set_option maxHeartbeats 1000000 in
theorem gQ_typeBy_115 {x3 : Int32} {x4 : Int32} {x6 : Int32} {x7 : Int32} {t0 : Int32} {z : lc_S} {r} {z' : lc_S} (hf : fQ_typeBy_115 x3 x4 x6 x7 t0 z = some (r, z')) : lc_hi z z' := by
  rw [fQ_typeBy_115] at hf
  by_cases hc1 : x6 = (-1)
  · replace hf := lc_ite_pos hc1 hf
    exact lc_hi.rf.tr (gQ_typeBy_135 hf)
  · replace hf := lc_ite_neg hc1 hf
    by_cases hc2 : x7 = (-1)
    · replace hf := lc_ite_pos hc2 hf
      exact lc_hi.rf.tr (gQ_typeBy_135 hf)
    · replace hf := lc_ite_neg hc2 hf
      by_cases hc3 : t0 = (-1)
      · replace hf := lc_ite_pos hc3 hf
        exact lc_hi.rf.tr (gQ_typeBy_135 hf)
      · replace hf := lc_ite_neg hc3 hf
        by_cases hc4 : x6 < 0
        · replace hf := lc_ite_pos hc4 hf
          exact lc_hi.rf.tr (gQ_typeBy_152 hf)
        · replace hf := lc_ite_neg hc4 hf
          by_cases hc5 : x7 < 0
          · replace hf := lc_ite_pos hc5 hf
            exact lc_hi.rf.tr (gQ_typeBy_152 hf)
          · replace hf := lc_ite_neg hc5 hf
            by_cases hc6 : 0 ≤ t0
            · replace hf := lc_ite_pos hc6 hf
              by_cases hc7 : x4 = 42
              · replace hf := lc_ite_pos hc7 hf
                exact lc_hi.rf.tr (gQ_typeBy_264 hf)
              · replace hf := lc_ite_neg hc7 hf
                by_cases hc8 : x4 = 43
                · replace hf := lc_ite_pos hc8 hf
                  exact lc_hi.rf.tr (gQ_typeBy_264 hf)
                · replace hf := lc_ite_neg hc8 hf
                  by_cases hc9 : x4 = 44
                  · replace hf := lc_ite_pos hc9 hf
                    obtain ⟨r320, z320, hz320, hf⟩ := lc_bnd_some hf
                    have gz320 : lc_hi z z320 := lc_hi.rf.tr (gQ_pairType hz320)
                    cases hf
                    exact gz320
                  · replace hf := lc_ite_neg hc9 hf
                    by_cases hc10 : x4 = 45
                    · replace hf := lc_ite_pos hc10 hf
                      exact lc_hi.rf.tr (gQ_typeBy_264 hf)
                    · replace hf := lc_ite_neg hc10 hf
                      by_cases hc11 : x4 = 47
                      · replace hf := lc_ite_pos hc11 hf
                        by_cases hc12 : x6 ≤ 1
                        · replace hf := lc_ite_pos hc12 hf
                          cases hf
                          exact lc_hi.rf
                        · replace hf := lc_ite_neg hc12 hf
                          cases hf
                          exact lc_hi.rf
                      · replace hf := lc_ite_neg hc11 hf
                        by_cases hc13 : x4 = 58
                        · replace hf := lc_ite_pos hc13 hf
                          cases hf
                          exact lc_hi.rf
                        · replace hf := lc_ite_neg hc13 hf
                          by_cases hc14 : x4 = 60
                          · replace hf := lc_ite_pos hc14 hf
                            exact lc_hi.rf.tr (gQ_typeBy_264 hf)
                          · replace hf := lc_ite_neg hc14 hf
                            by_cases hc15 : x4 = 63
                            · replace hf := lc_ite_pos hc15 hf
                              by_cases hc16 : x6 = 0
                              · replace hf := lc_ite_pos hc16 hf
                                by_cases hc17 : x7 = t0
                                · replace hf := lc_ite_pos hc17 hf
                                  cases hf
                                  exact lc_hi.rf
                                · replace hf := lc_ite_neg hc17 hf
                                  exact lc_hi.rf.tr (gQ_typeBy_297 hf)
                              · replace hf := lc_ite_neg hc16 hf
                                exact lc_hi.rf.tr (gQ_typeBy_297 hf)
                            · replace hf := lc_ite_neg hc15 hf
                              by_cases hc18 : x4 = 100
                              · replace hf := lc_ite_pos hc18 hf
                                by_cases hc19 : x6 = 1
                                · replace hf := lc_ite_pos hc19 hf
                                  cases hf
                                  exact lc_hi.rf
                                · replace hf := lc_ite_neg hc19 hf
                                  cases hf
                                  exact lc_hi.rf
                              · replace hf := lc_ite_neg hc18 hf
                                by_cases hc20 : x4 = 103
                                · replace hf := lc_ite_pos hc20 hf
                                  by_cases hc21 : x6 = 1
                                  · replace hf := lc_ite_pos hc21 hf
                                    obtain ⟨r344, z344, hz344, hf⟩ := lc_bnd_some hf
                                    have gz344 : lc_hi z z344 := lc_hi.rf.tr (gQ_pairType hz344)
                                    cases hf
                                    exact gz344
                                  · replace hf := lc_ite_neg hc21 hf
                                    cases hf
                                    exact lc_hi.rf
                                · replace hf := lc_ite_neg hc20 hf
                                  by_cases hc22 : x4 = 110
                                  · replace hf := lc_ite_pos hc22 hf
                                    by_cases hc23 : x6 = 0
                                    · replace hf := lc_ite_pos hc23 hf
                                      cases hf
                                      exact lc_hi.rf
                                    · replace hf := lc_ite_neg hc23 hf
                                      cases hf
                                      exact lc_hi.rf
                                  · replace hf := lc_ite_neg hc22 hf
                                    by_cases hc24 : x4 = 112
                                    · replace hf := lc_ite_pos hc24 hf
                                      by_cases hc25 : x6 = 1
                                      · replace hf := lc_ite_pos hc25 hf
                                        by_cases hc26 : x7 = 0
                                        · replace hf := lc_ite_pos hc26 hf
                                          cases hf
                                          exact lc_hi.rf
                                        · replace hf := lc_ite_neg hc26 hf
                                          exact lc_hi.rf.tr (gQ_typeBy_367 hf)
                                      · replace hf := lc_ite_neg hc25 hf
                                        exact lc_hi.rf.tr (gQ_typeBy_367 hf)
                                    · replace hf := lc_ite_neg hc24 hf
                                      obtain ⟨hw27, hf⟩ := lc_chk_some hf
                                      obtain ⟨r388, z388, hz388, hf⟩ := lc_bnd_some hf
                                      have gz388 : lc_hi z z388 := lc_hi.rf.tr (gQ_isThere hz388)
                                      by_cases hc28 : r388 = 0
                                      · replace hf := lc_ite_pos hc28 hf
                                        exact gz388.tr (gQ_typeBy_424 hf)
                                      · replace hf := lc_ite_neg hc28 hf
                                        obtain ⟨hw29, hf⟩ := lc_chk_some hf
                                        obtain ⟨hw30, hf⟩ := lc_chk_some hf
                                        by_cases hc31 : x6 = (lcI z388 101 (lcI z388 83 x3.toNatClampNeg).toNatClampNeg)
                                        · replace hf := lc_ite_pos hc31 hf
                                          obtain ⟨hw32, hf⟩ := lc_chk_some hf
                                          obtain ⟨hw33, hf⟩ := lc_chk_some hf
                                          cases hf
                                          exact gz388
                                        · replace hf := lc_ite_neg hc31 hf
                                          exact gz388.tr (gQ_typeBy_424 hf)
            · replace hf := lc_ite_neg hc6 hf
              exact lc_hi.rf.tr (gQ_typeBy_152 hf)
set_option maxHeartbeats 1000000 in
theorem gQ_typeBy_92 {x3 : Int32} {x4 : Int32} {x5 : Int32} {x6 : Int32} {t0 : Int32} {z : lc_S} {r} {z' : lc_S} (hf : fQ_typeBy_92 x3 x4 x5 x6 t0 z = some (r, z')) : lc_hi z z' := by
  rw [fQ_typeBy_92] at hf
  by_cases hc1 : x5 ≤ 2
  · replace hf := lc_ite_pos hc1 hf
    exact lc_hi.rf.tr (gQ_typeBy_115 hf)
  · replace hf := lc_ite_neg hc1 hf
    obtain ⟨hw2, hf⟩ := lc_chk_some hf
    obtain ⟨hw3, hf⟩ := lc_chk_some hf
    exact lc_hi.rf.tr (gQ_typeBy_115 hf)
set_option maxHeartbeats 1000000 in
theorem gQ_typeBy {a1 : Int32} {a2 : Int32} {z : lc_S} {r} {z' : lc_S} (hf : fQ_typeBy a1 a2 z = some (r, z')) : lc_hi z z' := by
  rw [fQ_typeBy] at hf
  obtain ⟨x8, ex8⟩ : ∃ x, x = (120 * (a1 + 1)) + a2 := ⟨_, rfl⟩
  replace hf := lc_let_of ex8 hf
  obtain ⟨hw1, hf⟩ := lc_chk_some hf
  obtain ⟨x15, ex15⟩ : ∃ x, x = lcI z 82 x8.toNatClampNeg := ⟨_, rfl⟩
  replace hf := lc_let_of ex15 hf
  by_cases hc2 : x15 = 48
  · replace hf := lc_ite_pos hc2 hf
    cases hf
    exact lc_hi.rf
  · replace hf := lc_ite_neg hc2 hf
    by_cases hc3 : x15 = 120
    · replace hf := lc_ite_pos hc3 hf
      obtain ⟨hw4, hf⟩ := lc_chk_some hf
      obtain ⟨hw5, hf⟩ := lc_chk_some hf
      obtain ⟨r47, z47, hz47, hf⟩ := lc_bnd_some hf
      have gz47 : lc_hi z z47 := lc_hi.rf.tr (gQ_bindingType hz47)
      cases hf
      exact gz47
    · replace hf := lc_ite_neg hc3 hf
      obtain ⟨r53, z53, hz53, hf⟩ := lc_bnd_some hf
      have gz53 : lc_hi z z53 := lc_hi.rf.tr (gQ_partsOf hz53)
      obtain ⟨hw6, hf⟩ := lc_chk_some hf
      obtain ⟨hw7, hf⟩ := lc_chk_some hf
      obtain ⟨x69, ex69⟩ : ∃ x, x = lcI z53 100 (lcI z53 84 x8.toNatClampNeg).toNatClampNeg := ⟨_, rfl⟩
      replace hf := lc_let_of ex69 hf
      by_cases hc8 : r53 ≤ 1
      · replace hf := lc_ite_pos hc8 hf
        exact gz53.tr (gQ_typeBy_92 hf)
      · replace hf := lc_ite_neg hc8 hf
        obtain ⟨hw9, hf⟩ := lc_chk_some hf
        obtain ⟨hw10, hf⟩ := lc_chk_some hf
        exact gz53.tr (gQ_typeBy_92 hf)
set_option maxHeartbeats 1000000 in
theorem gQ_find_63 {k7 : Int32 → Int32 → lc_S → Option ((Int32) × lc_S)} (hk7 : ∀ {v0 : Int32} {v1 : Int32} {z : lc_S} {r} {z' : lc_S}, k7 v0 v1 z = some (r, z') → lc_hi z z') {x1 : Int32} {x2 : Int32} {z : lc_S} {r} {z' : lc_S} (hf : fQ_find_63 k7 x1 x2 z = some (r, z')) : lc_hi z z' := by
  rw [fQ_find_63] at hf
  obtain ⟨x63, ex63⟩ : ∃ x, x = x2 + 1 := ⟨_, rfl⟩
  replace hf := lc_let_of ex63 hf
  exact lc_hi.rf.tr (hk7 hf)
set_option maxHeartbeats 1000000 in
theorem gQ_find_168 {k101 : Int32 → Int32 → Int32 → lc_S → Option ((Int32) × lc_S)} (hk101 : ∀ {v0 : Int32} {v1 : Int32} {v2 : Int32} {z : lc_S} {r} {z' : lc_S}, k101 v0 v1 v2 z = some (r, z') → lc_hi z z') {k112 : Int32 → Int32 → Int32 → Int32 → lc_S → Option ((Int32) × lc_S)} (hk112 : ∀ {v0 : Int32} {v1 : Int32} {v2 : Int32} {v3 : Int32} {z : lc_S} {r} {z' : lc_S}, k112 v0 v1 v2 v3 z = some (r, z') → lc_hi z z') {x1 : Int32} {x2 : Int32} {x3 : Int32} {x4 : Int32} {z : lc_S} {r} {z' : lc_S} (hf : fQ_find_168 k101 k112 x1 x2 x3 x4 z = some (r, z')) : lc_hi z z' := by
  rw [fQ_find_168] at hf
  obtain ⟨x168, ex168⟩ : ∃ x, x = x4 + (-1) := ⟨_, rfl⟩
  replace hf := lc_let_of ex168 hf
  exact lc_hi.rf.tr (hk112 hf)
set_option maxHeartbeats 1000000 in
theorem gQ_find_167 {k101 : Int32 → Int32 → Int32 → lc_S → Option ((Int32) × lc_S)} (hk101 : ∀ {v0 : Int32} {v1 : Int32} {v2 : Int32} {z : lc_S} {r} {z' : lc_S}, k101 v0 v1 v2 z = some (r, z') → lc_hi z z') {k112 : Int32 → Int32 → Int32 → Int32 → lc_S → Option ((Int32) × lc_S)} (hk112 : ∀ {v0 : Int32} {v1 : Int32} {v2 : Int32} {v3 : Int32} {z : lc_S} {r} {z' : lc_S}, k112 v0 v1 v2 v3 z = some (r, z') → lc_hi z z') {x1 : Int32} {x2 : Int32} {x4 : Int32} {t0 : Int32} {z : lc_S} {r} {z' : lc_S} (hf : fQ_find_167 k101 k112 x1 x2 x4 t0 z = some (r, z')) : lc_hi z z' := by
  rw [fQ_find_167] at hf
  exact lc_hi.rf.tr (gQ_find_168 (fun h => hk101 h) (fun h => hk112 h) hf)
set_option maxHeartbeats 1000000 in
theorem gQ_find_162 {k101 : Int32 → Int32 → Int32 → lc_S → Option ((Int32) × lc_S)} (hk101 : ∀ {v0 : Int32} {v1 : Int32} {v2 : Int32} {z : lc_S} {r} {z' : lc_S}, k101 v0 v1 v2 z = some (r, z') → lc_hi z z') {k112 : Int32 → Int32 → Int32 → Int32 → lc_S → Option ((Int32) × lc_S)} (hk112 : ∀ {v0 : Int32} {v1 : Int32} {v2 : Int32} {v3 : Int32} {z : lc_S} {r} {z' : lc_S}, k112 v0 v1 v2 v3 z = some (r, z') → lc_hi z z') {x1 : Int32} {x2 : Int32} {x4 : Int32} {z : lc_S} {r} {z' : lc_S} (hf : fQ_find_162 k101 k112 x1 x2 x4 z = some (r, z')) : lc_hi z z' := by
  rw [fQ_find_162] at hf
  exact lc_hi.rf.tr (gQ_find_167 (fun h => hk101 h) (fun h => hk112 h) hf)
set_option maxHeartbeats 1000000 in
theorem gQ_find_112 {k101 : Int32 → Int32 → Int32 → lc_S → Option ((Int32) × lc_S)} (hk101 : ∀ {v0 : Int32} {v1 : Int32} {v2 : Int32} {z : lc_S} {r} {z' : lc_S}, k101 v0 v1 v2 z = some (r, z') → lc_hi z z') : ∀ {n : Nat} {x1 : Int32} {x2 : Int32} {x3 : Int32} {x4 : Int32} {z : lc_S} {r} {z' : lc_S}, fQ_find_112 k101 n x1 x2 x3 x4 z = some (r, z') → lc_hi z z' := by
  intro n
  induction n with
  | zero =>
    intro x1 x2 x3 x4 z r z' hf
    cases (show none = some (r, z') from hf)
  | succ n ih =>
    intro x1 x2 x3 x4 z r z' hf
    rw [fQ_find_112] at hf
    by_cases hc1 : x4 < 0
    · replace hf := lc_ite_pos hc1 hf
      exact lc_hi.rf.tr (hk101 hf)
    · replace hf := lc_ite_neg hc1 hf
      obtain ⟨hw2, hf⟩ := lc_chk_some hf
      by_cases hc3 : (lcI z 100 x4.toNatClampNeg) = (-2)
      · replace hf := lc_ite_pos hc3 hf
        obtain ⟨r142, z142, hz142, hf⟩ := lc_bnd_some hf
        have gz142 : lc_hi z z142 := lc_hi.rf.tr (gQ_typeBy hz142)
        obtain ⟨hw4, hf⟩ := lc_chk_some hf
        by_cases hc5 : x3 = 0
        · replace hf := lc_ite_pos hc5 hf
          obtain ⟨hw6, hf⟩ := lc_chk_some hf
          by_cases hc7 : (lcI (lcUI z142 100 x4.toNatClampNeg r142) 100 x4.toNatClampNeg) = (-2)
          · replace hf := lc_ite_pos hc7 hf
            exact (gz142.ui (by decide)).tr (gQ_find_167 (fun h => hk101 h) (fun h => ih h) hf)
          · replace hf := lc_ite_neg hc7 hf
            exact (gz142.ui (by decide)).tr (gQ_find_162 (fun h => hk101 h) (fun h => ih h) hf)
        · replace hf := lc_ite_neg hc5 hf
          exact (gz142.ui (by decide)).tr (gQ_find_162 (fun h => hk101 h) (fun h => ih h) hf)
      · replace hf := lc_ite_neg hc3 hf
        exact lc_hi.rf.tr (gQ_find_168 (fun h => hk101 h) (fun h => ih h) hf)
set_option maxHeartbeats 1000000 in
theorem gQ_find_209 {k183 : Int32 → Int32 → Int32 → lc_S → Option ((Int32) × lc_S)} (hk183 : ∀ {v0 : Int32} {v1 : Int32} {v2 : Int32} {z : lc_S} {r} {z' : lc_S}, k183 v0 v1 v2 z = some (r, z') → lc_hi z z') {x2 : Int32} {x5 : Int32} {t0 : Int32} {z : lc_S} {r} {z' : lc_S} (hf : fQ_find_209 k183 x2 x5 t0 z = some (r, z')) : lc_hi z z' := by
  rw [fQ_find_209] at hf
  obtain ⟨x211, ex211⟩ : ∃ x, x = x5 + 1 := ⟨_, rfl⟩
  replace hf := lc_let_of ex211 hf
  exact lc_hi.rf.tr (hk183 hf)
set_option maxHeartbeats 1000000 in
theorem gQ_find_208 {k183 : Int32 → Int32 → Int32 → lc_S → Option ((Int32) × lc_S)} (hk183 : ∀ {v0 : Int32} {v1 : Int32} {v2 : Int32} {z : lc_S} {r} {z' : lc_S}, k183 v0 v1 v2 z = some (r, z') → lc_hi z z') {x2 : Int32} {x5 : Int32} {z : lc_S} {r} {z' : lc_S} (hf : fQ_find_208 k183 x2 x5 z = some (r, z')) : lc_hi z z' := by
  rw [fQ_find_208] at hf
  exact lc_hi.rf.tr (gQ_find_209 (fun h => hk183 h) hf)
set_option maxHeartbeats 1000000 in
theorem gQ_find_183 : ∀ {n : Nat} {x2 : Int32} {x4 : Int32} {x5 : Int32} {z : lc_S} {r} {z' : lc_S}, fQ_find_183 n x2 x4 x5 z = some (r, z') → lc_hi z z' := by
  intro n
  induction n with
  | zero =>
    intro x2 x4 x5 z r z' hf
    cases (show none = some (r, z') from hf)
  | succ n ih =>
    intro x2 x4 x5 z r z' hf
    rw [fQ_find_183] at hf
    by_cases hc1 : x2 ≤ x5
    · replace hf := lc_ite_pos hc1 hf
      obtain ⟨hw2, hf⟩ := lc_chk_some hf
      cases hf
      exact lc_hi.rf
    · replace hf := lc_ite_neg hc1 hf
      by_cases hc3 : x4 = 0
      · replace hf := lc_ite_pos hc3 hf
        exact lc_hi.rf.tr (gQ_find_208 (fun h => ih h) hf)
      · replace hf := lc_ite_neg hc3 hf
        obtain ⟨hw4, hf⟩ := lc_chk_some hf
        by_cases hc5 : (lcI z 100 x5.toNatClampNeg) < 0
        · replace hf := lc_ite_pos hc5 hf
          exact lc_hi.rf.tr (gQ_find_208 (fun h => ih h) hf)
        · replace hf := lc_ite_neg hc5 hf
          exact lc_hi.rf.tr (gQ_find_209 (fun h => ih h) hf)
set_option maxHeartbeats 1000000 in
theorem gQ_find_101 : ∀ {n : Nat} {x1 : Int32} {x2 : Int32} {x3 : Int32} {z : lc_S} {r} {z' : lc_S}, fQ_find_101 n x1 x2 x3 z = some (r, z') → lc_hi z z' := by
  intro n
  induction n with
  | zero =>
    intro x1 x2 x3 z r z' hf
    cases (show none = some (r, z') from hf)
  | succ n ih =>
    intro x1 x2 x3 z r z' hf
    rw [fQ_find_101] at hf
    by_cases hc1 : x3 = 0
    · replace hf := lc_ite_pos hc1 hf
      exact lc_hi.rf.tr (gQ_find_183 hf)
    · replace hf := lc_ite_neg hc1 hf
      obtain ⟨x110, ex110⟩ : ∃ x, x = x2 - 1 := ⟨_, rfl⟩
      replace hf := lc_let_of ex110 hf
      exact lc_hi.rf.tr (gQ_find_112 (fun h => ih h) hf)
set_option maxHeartbeats 1000000 in
theorem gQ_find_80 : ∀ {n : Nat} {x1 : Int32} {x2 : Int32} {x3 : Int32} {z : lc_S} {r} {z' : lc_S}, fQ_find_80 n x1 x2 x3 z = some (r, z') → lc_hi z z' := by
  intro n
  induction n with
  | zero =>
    intro x1 x2 x3 z r z' hf
    cases (show none = some (r, z') from hf)
  | succ n ih =>
    intro x1 x2 x3 z r z' hf
    rw [fQ_find_80] at hf
    by_cases hc1 : x2 ≤ x3
    · replace hf := lc_ite_pos hc1 hf
      exact lc_hi.rf.tr (gQ_find_101 hf)
    · replace hf := lc_ite_neg hc1 hf
      obtain ⟨hw2, hf⟩ := lc_chk_some hf
      obtain ⟨x93, ex93⟩ : ∃ x, x = x3 + 1 := ⟨_, rfl⟩
      replace hf := lc_let_of ex93 hf
      exact (lc_hi.rf.ui (by decide)).tr (ih hf)
set_option maxHeartbeats 1000000 in
theorem gQ_find_7 : ∀ {n : Nat} {x1 : Int32} {x2 : Int32} {z : lc_S} {r} {z' : lc_S}, fQ_find_7 n x1 x2 z = some (r, z') → lc_hi z z' := by
  intro n
  induction n with
  | zero =>
    intro x1 x2 z r z' hf
    cases (show none = some (r, z') from hf)
  | succ n ih =>
    intro x1 x2 z r z' hf
    rw [fQ_find_7] at hf
    by_cases hc1 : 4 ≤ x2
    · replace hf := lc_ite_pos hc1 hf
      obtain ⟨hw2, hf⟩ := lc_chk_some hf
      obtain ⟨x77, ex77⟩ : ∃ x, x = lcI z 89 (x1 + 1).toNatClampNeg := ⟨_, rfl⟩
      replace hf := lc_let_of ex77 hf
      exact lc_hi.rf.tr (gQ_find_80 hf)
    · replace hf := lc_ite_neg hc1 hf
      obtain ⟨r14, z14, hz14, hf⟩ := lc_bnd_some hf
      have gz14 : lc_hi z z14 := lc_hi.rf.tr (gQ_isThere hz14)
      by_cases hc3 : r14 = 0
      · replace hf := lc_ite_pos hc3 hf
        exact gz14.tr (gQ_find_63 (fun h => ih h) hf)
      · replace hf := lc_ite_neg hc3 hf
        obtain ⟨r39, z39, hz39, hf⟩ := lc_bnd_some hf
        have gz39 : lc_hi z z39 := gz14.tr (gQ_typeIn hz39)
        obtain ⟨hw4, hf⟩ := lc_chk_some hf
        obtain ⟨r59, z59, hz59, hf⟩ := lc_bnd_some hf
        have gz59 : lc_hi z z59 := (gz39.ui (by decide)).tr (gQ_typeIn hz59)
        obtain ⟨hw5, hf⟩ := lc_chk_some hf
        exact (gz59.ui (by decide)).tr (gQ_find_63 (fun h => ih h) hf)
set_option maxHeartbeats 1000000 in
theorem gQ_find {a1 : Int32} {z : lc_S} {r} {z' : lc_S} (hf : fQ_find a1 z = some (r, z')) : lc_hi z z' := by
  rw [fQ_find] at hf
  exact (lc_hi.rf.ui (by decide)).tr (gQ_find_7 hf)
set_option maxHeartbeats 1000000 in
theorem gQ_isUsedOnce_308 {k20 : Int32 → Int32 → Int32 → Int32 → Int32 → lc_S → Option ((Int32) × lc_S)} (hk20 : ∀ {v0 : Int32} {v1 : Int32} {v2 : Int32} {v3 : Int32} {v4 : Int32} {z : lc_S} {r} {z' : lc_S}, k20 v0 v1 v2 v3 v4 z = some (r, z') → lc_hi z z') {x2 : Int32} {x3 : Int32} {x4 : Int32} {x5 : Int32} {x6 : Int32} {t1 : Int32} {t2 : Int32} {z : lc_S} {r} {z' : lc_S} (hf : fQ_isUsedOnce_308 k20 x2 x3 x4 x5 x6 t1 t2 z = some (r, z')) : lc_hi z z' := by
  rw [fQ_isUsedOnce_308] at hf
  obtain ⟨hw1, hf⟩ := lc_chk_some hf
  obtain ⟨x309, ex309⟩ : ∃ x, x = x6 + (-1) := ⟨_, rfl⟩
  replace hf := lc_let_of ex309 hf
  exact (lc_hi.rf.ui (by decide)).tr (hk20 hf)
set_option maxHeartbeats 1000000 in
theorem gQ_isUsedOnce_289 {k20 : Int32 → Int32 → Int32 → Int32 → Int32 → lc_S → Option ((Int32) × lc_S)} (hk20 : ∀ {v0 : Int32} {v1 : Int32} {v2 : Int32} {v3 : Int32} {v4 : Int32} {z : lc_S} {r} {z' : lc_S}, k20 v0 v1 v2 v3 v4 z = some (r, z') → lc_hi z z') {x2 : Int32} {x3 : Int32} {x4 : Int32} {x5 : Int32} {x6 : Int32} {x11 : Int32} {t1 : Int32} {t2 : Int32} {z : lc_S} {r} {z' : lc_S} (hf : fQ_isUsedOnce_289 k20 x2 x3 x4 x5 x6 x11 t1 t2 z = some (r, z')) : lc_hi z z' := by
  rw [fQ_isUsedOnce_289] at hf
  obtain ⟨hw1, hf⟩ := lc_chk_some hf
  by_cases hc2 : x11 ≤ 3
  · replace hf := lc_ite_pos hc2 hf
    exact (lc_hi.rf.ui (by decide)).tr (gQ_isUsedOnce_308 (fun h => hk20 h) hf)
  · replace hf := lc_ite_neg hc2 hf
    exact (lc_hi.rf.ui (by decide)).tr (gQ_isUsedOnce_308 (fun h => hk20 h) hf)
set_option maxHeartbeats 1000000 in
theorem gQ_isUsedOnce_271 {k20 : Int32 → Int32 → Int32 → Int32 → Int32 → lc_S → Option ((Int32) × lc_S)} (hk20 : ∀ {v0 : Int32} {v1 : Int32} {v2 : Int32} {v3 : Int32} {v4 : Int32} {z : lc_S} {r} {z' : lc_S}, k20 v0 v1 v2 v3 v4 z = some (r, z') → lc_hi z z') {x2 : Int32} {x3 : Int32} {x4 : Int32} {x5 : Int32} {x6 : Int32} {x10 : Int32} {x11 : Int32} {z : lc_S} {r} {z' : lc_S} (hf : fQ_isUsedOnce_271 k20 x2 x3 x4 x5 x6 x10 x11 z = some (r, z')) : lc_hi z z' := by
  rw [fQ_isUsedOnce_271] at hf
  by_cases hc1 : x10 ≤ 3
  · replace hf := lc_ite_pos hc1 hf
    exact lc_hi.rf.tr (gQ_isUsedOnce_289 (fun h => hk20 h) hf)
  · replace hf := lc_ite_neg hc1 hf
    exact lc_hi.rf.tr (gQ_isUsedOnce_289 (fun h => hk20 h) hf)
set_option maxHeartbeats 1000000 in
theorem gQ_isUsedOnce_268 {k20 : Int32 → Int32 → Int32 → Int32 → Int32 → lc_S → Option ((Int32) × lc_S)} (hk20 : ∀ {v0 : Int32} {v1 : Int32} {v2 : Int32} {v3 : Int32} {v4 : Int32} {z : lc_S} {r} {z' : lc_S}, k20 v0 v1 v2 v3 v4 z = some (r, z') → lc_hi z z') {x2 : Int32} {x3 : Int32} {x4 : Int32} {x5 : Int32} {x6 : Int32} {x10 : Int32} {t0 : Int32} {t1 : Int32} {z : lc_S} {r} {z' : lc_S} (hf : fQ_isUsedOnce_268 k20 x2 x3 x4 x5 x6 x10 t0 t1 z = some (r, z')) : lc_hi z z' := by
  rw [fQ_isUsedOnce_268] at hf
  obtain ⟨x269, ex269⟩ : ∃ x, x = t0 + t1 := ⟨_, rfl⟩
  replace hf := lc_let_of ex269 hf
  exact lc_hi.rf.tr (gQ_isUsedOnce_271 (fun h => hk20 h) hf)
set_option maxHeartbeats 1000000 in
theorem gQ_isUsedOnce_229 {k20 : Int32 → Int32 → Int32 → Int32 → Int32 → lc_S → Option ((Int32) × lc_S)} (hk20 : ∀ {v0 : Int32} {v1 : Int32} {v2 : Int32} {v3 : Int32} {v4 : Int32} {z : lc_S} {r} {z' : lc_S}, k20 v0 v1 v2 v3 v4 z = some (r, z') → lc_hi z z') {x2 : Int32} {x3 : Int32} {x4 : Int32} {x5 : Int32} {x6 : Int32} {x11 : Int32} {x12 : Int32} {x13 : Int32} {t0 : Int32} {t1 : Int32} {z : lc_S} {r} {z' : lc_S} (hf : fQ_isUsedOnce_229 k20 x2 x3 x4 x5 x6 x11 x12 x13 t0 t1 z = some (r, z')) : lc_hi z z' := by
  rw [fQ_isUsedOnce_229] at hf
  obtain ⟨x230, ex230⟩ : ∃ x, x = t0 + t1 := ⟨_, rfl⟩
  replace hf := lc_let_of ex230 hf
  obtain ⟨hw1, hf⟩ := lc_chk_some hf
  obtain ⟨hw2, hf⟩ := lc_chk_some hf
  by_cases hc3 : (lcI z 104 x12.toNatClampNeg) ≤ (lcI z 104 x13.toNatClampNeg)
  · replace hf := lc_ite_pos hc3 hf
    obtain ⟨hw4, hf⟩ := lc_chk_some hf
    exact lc_hi.rf.tr (gQ_isUsedOnce_268 (fun h => hk20 h) hf)
  · replace hf := lc_ite_neg hc3 hf
    obtain ⟨hw5, hf⟩ := lc_chk_some hf
    exact lc_hi.rf.tr (gQ_isUsedOnce_268 (fun h => hk20 h) hf)
set_option maxHeartbeats 1000000 in
theorem gQ_isUsedOnce_169 {k20 : Int32 → Int32 → Int32 → Int32 → Int32 → lc_S → Option ((Int32) × lc_S)} (hk20 : ∀ {v0 : Int32} {v1 : Int32} {v2 : Int32} {v3 : Int32} {v4 : Int32} {z : lc_S} {r} {z' : lc_S}, k20 v0 v1 v2 v3 v4 z = some (r, z') → lc_hi z z') {x2 : Int32} {x3 : Int32} {x4 : Int32} {x5 : Int32} {x6 : Int32} {x7 : Int32} {x9 : Int32} {x10 : Int32} {x11 : Int32} {z : lc_S} {r} {z' : lc_S} (hf : fQ_isUsedOnce_169 k20 x2 x3 x4 x5 x6 x7 x9 x10 x11 z = some (r, z')) : lc_hi z z' := by
  rw [fQ_isUsedOnce_169] at hf
  by_cases hc1 : x9 = 3
  · replace hf := lc_ite_pos hc1 hf
    obtain ⟨hw2, hf⟩ := lc_chk_some hf
    obtain ⟨x182, ex182⟩ : ∃ x, x = lcI z 85 x7.toNatClampNeg := ⟨_, rfl⟩
    replace hf := lc_let_of ex182 hf
    obtain ⟨hw3, hf⟩ := lc_chk_some hf
    obtain ⟨x191, ex191⟩ : ∃ x, x = lcI z 86 x7.toNatClampNeg := ⟨_, rfl⟩
    replace hf := lc_let_of ex191 hf
    obtain ⟨hw4, hf⟩ := lc_chk_some hf
    obtain ⟨hw5, hf⟩ := lc_chk_some hf
    by_cases hc6 : (lcI z 103 x191.toNatClampNeg) ≤ (lcI z 103 x182.toNatClampNeg)
    · replace hf := lc_ite_pos hc6 hf
      obtain ⟨hw7, hf⟩ := lc_chk_some hf
      exact lc_hi.rf.tr (gQ_isUsedOnce_229 (fun h => hk20 h) hf)
    · replace hf := lc_ite_neg hc6 hf
      obtain ⟨hw8, hf⟩ := lc_chk_some hf
      exact lc_hi.rf.tr (gQ_isUsedOnce_229 (fun h => hk20 h) hf)
  · replace hf := lc_ite_neg hc1 hf
    exact lc_hi.rf.tr (gQ_isUsedOnce_271 (fun h => hk20 h) hf)
set_option maxHeartbeats 1000000 in
theorem gQ_isUsedOnce_129 {k20 : Int32 → Int32 → Int32 → Int32 → Int32 → lc_S → Option ((Int32) × lc_S)} (hk20 : ∀ {v0 : Int32} {v1 : Int32} {v2 : Int32} {v3 : Int32} {v4 : Int32} {z : lc_S} {r} {z' : lc_S}, k20 v0 v1 v2 v3 v4 z = some (r, z') → lc_hi z z') {x2 : Int32} {x3 : Int32} {x4 : Int32} {x5 : Int32} {x6 : Int32} {x7 : Int32} {x9 : Int32} {x10 : Int32} {x11 : Int32} {z : lc_S} {r} {z' : lc_S} (hf : fQ_isUsedOnce_129 k20 x2 x3 x4 x5 x6 x7 x9 x10 x11 z = some (r, z')) : lc_hi z z' := by
  rw [fQ_isUsedOnce_129] at hf
  by_cases hc1 : x9 = 2
  · replace hf := lc_ite_pos hc1 hf
    obtain ⟨hw2, hf⟩ := lc_chk_some hf
    obtain ⟨hw3, hf⟩ := lc_chk_some hf
    obtain ⟨x150, ex150⟩ : ∃ x, x = x10 + (lcI z 103 (lcI z 85 x7.toNatClampNeg).toNatClampNeg) := ⟨_, rfl⟩
    replace hf := lc_let_of ex150 hf
    obtain ⟨hw4, hf⟩ := lc_chk_some hf
    obtain ⟨hw5, hf⟩ := lc_chk_some hf
    obtain ⟨x167, ex167⟩ : ∃ x, x = x11 + (lcI z 104 (lcI z 85 x7.toNatClampNeg).toNatClampNeg) := ⟨_, rfl⟩
    replace hf := lc_let_of ex167 hf
    exact lc_hi.rf.tr (gQ_isUsedOnce_169 (fun h => hk20 h) hf)
  · replace hf := lc_ite_neg hc1 hf
    exact lc_hi.rf.tr (gQ_isUsedOnce_169 (fun h => hk20 h) hf)
set_option maxHeartbeats 1000000 in
theorem gQ_isUsedOnce_84 {k20 : Int32 → Int32 → Int32 → Int32 → Int32 → lc_S → Option ((Int32) × lc_S)} (hk20 : ∀ {v0 : Int32} {v1 : Int32} {v2 : Int32} {v3 : Int32} {v4 : Int32} {z : lc_S} {r} {z' : lc_S}, k20 v0 v1 v2 v3 v4 z = some (r, z') → lc_hi z z') {x2 : Int32} {x3 : Int32} {x4 : Int32} {x5 : Int32} {x6 : Int32} {x7 : Int32} {x9 : Int32} {t0 : Int32} {z : lc_S} {r} {z' : lc_S} (hf : fQ_isUsedOnce_84 k20 x2 x3 x4 x5 x6 x7 x9 t0 z = some (r, z')) : lc_hi z z' := by
  rw [fQ_isUsedOnce_84] at hf
  by_cases hc1 : x9 ≤ 0
  · replace hf := lc_ite_pos hc1 hf
    exact lc_hi.rf.tr (gQ_isUsedOnce_129 (fun h => hk20 h) hf)
  · replace hf := lc_ite_neg hc1 hf
    obtain ⟨hw2, hf⟩ := lc_chk_some hf
    obtain ⟨hw3, hf⟩ := lc_chk_some hf
    obtain ⟨x110, ex110⟩ : ∃ x, x = t0 + (lcI z 103 (lcI z 84 x7.toNatClampNeg).toNatClampNeg) := ⟨_, rfl⟩
    replace hf := lc_let_of ex110 hf
    obtain ⟨hw4, hf⟩ := lc_chk_some hf
    obtain ⟨hw5, hf⟩ := lc_chk_some hf
    obtain ⟨x127, ex127⟩ : ∃ x, x = t0 + (lcI z 104 (lcI z 84 x7.toNatClampNeg).toNatClampNeg) := ⟨_, rfl⟩
    replace hf := lc_let_of ex127 hf
    exact lc_hi.rf.tr (gQ_isUsedOnce_129 (fun h => hk20 h) hf)
set_option maxHeartbeats 1000000 in
theorem gQ_isUsedOnce_83 {k20 : Int32 → Int32 → Int32 → Int32 → Int32 → lc_S → Option ((Int32) × lc_S)} (hk20 : ∀ {v0 : Int32} {v1 : Int32} {v2 : Int32} {v3 : Int32} {v4 : Int32} {z : lc_S} {r} {z' : lc_S}, k20 v0 v1 v2 v3 v4 z = some (r, z') → lc_hi z z') {x2 : Int32} {x3 : Int32} {x4 : Int32} {x5 : Int32} {x6 : Int32} {x7 : Int32} {x9 : Int32} {z : lc_S} {r} {z' : lc_S} (hf : fQ_isUsedOnce_83 k20 x2 x3 x4 x5 x6 x7 x9 z = some (r, z')) : lc_hi z z' := by
  rw [fQ_isUsedOnce_83] at hf
  exact lc_hi.rf.tr (gQ_isUsedOnce_84 (fun h => hk20 h) hf)
set_option maxHeartbeats 1000000 in
theorem gQ_isUsedOnce_341 {z : lc_S} {r} {z' : lc_S} (hf : fQ_isUsedOnce_341 z = some (r, z')) : lc_hi z z' := by
  rw [fQ_isUsedOnce_341] at hf
  cases hf
  exact lc_hi.rf
set_option maxHeartbeats 1000000 in
theorem gQ_isUsedOnce_20 : ∀ {n : Nat} {x2 : Int32} {x3 : Int32} {x4 : Int32} {x5 : Int32} {x6 : Int32} {z : lc_S} {r} {z' : lc_S}, fQ_isUsedOnce_20 n x2 x3 x4 x5 x6 z = some (r, z') → lc_hi z z' := by
  intro n
  induction n with
  | zero =>
    intro x2 x3 x4 x5 x6 z r z' hf
    cases (show none = some (r, z') from hf)
  | succ n ih =>
    intro x2 x3 x4 x5 x6 z r z' hf
    rw [fQ_isUsedOnce_20] at hf
    by_cases hc1 : x6 < x4
    · replace hf := lc_ite_pos hc1 hf
      obtain ⟨hw2, hf⟩ := lc_chk_some hf
      by_cases hc3 : (lcI z 103 x4.toNatClampNeg) = 1
      · replace hf := lc_ite_pos hc3 hf
        obtain ⟨hw4, hf⟩ := lc_chk_some hf
        by_cases hc5 : (lcI z 104 x4.toNatClampNeg) = 1
        · replace hf := lc_ite_pos hc5 hf
          cases hf
          exact lc_hi.rf
        · replace hf := lc_ite_neg hc5 hf
          exact lc_hi.rf.tr (gQ_isUsedOnce_341 hf)
      · replace hf := lc_ite_neg hc3 hf
        exact lc_hi.rf.tr (gQ_isUsedOnce_341 hf)
    · replace hf := lc_ite_neg hc1 hf
      obtain ⟨x32, ex32⟩ : ∃ x, x = x5 + x6 := ⟨_, rfl⟩
      replace hf := lc_let_of ex32 hf
      obtain ⟨hw6, hf⟩ := lc_chk_some hf
      obtain ⟨x41, ex41⟩ : ∃ x, x = lcI z 82 x32.toNatClampNeg := ⟨_, rfl⟩
      replace hf := lc_let_of ex41 hf
      obtain ⟨r45, z45, hz45, hf⟩ := lc_bnd_some hf
      have gz45 : lc_hi z z45 := lc_hi.rf.tr (gQ_partsOf hz45)
      by_cases hc7 : x41 = 120
      · replace hf := lc_ite_pos hc7 hf
        obtain ⟨hw8, hf⟩ := lc_chk_some hf
        by_cases hc9 : (lcI z45 87 x32.toNatClampNeg) = x2
        · replace hf := lc_ite_pos hc9 hf
          obtain ⟨hw10, hf⟩ := lc_chk_some hf
          by_cases hc11 : (lcI z45 88 x32.toNatClampNeg) = x3
          · replace hf := lc_ite_pos hc11 hf
            exact gz45.tr (gQ_isUsedOnce_84 (fun h => ih h) hf)
          · replace hf := lc_ite_neg hc11 hf
            exact gz45.tr (gQ_isUsedOnce_83 (fun h => ih h) hf)
        · replace hf := lc_ite_neg hc9 hf
          exact gz45.tr (gQ_isUsedOnce_83 (fun h => ih h) hf)
      · replace hf := lc_ite_neg hc7 hf
        exact gz45.tr (gQ_isUsedOnce_83 (fun h => ih h) hf)
set_option maxHeartbeats 1000000 in
theorem gQ_isUsedOnce {a1 : Int32} {a2 : Int32} {a3 : Int32} {a4 : Int32} {z : lc_S} {r} {z' : lc_S} (hf : fQ_isUsedOnce a1 a2 a3 a4 z = some (r, z')) : lc_hi z z' := by
  rw [fQ_isUsedOnce] at hf
  obtain ⟨x6, ex6⟩ : ∃ x, x = 120 * (a1 + 1) := ⟨_, rfl⟩
  replace hf := lc_let_of ex6 hf
  obtain ⟨hw1, hf⟩ := lc_chk_some hf
  obtain ⟨x18, ex18⟩ : ∃ x, x = (lcI z 89 (a1 + 1).toNatClampNeg) - 1 := ⟨_, rfl⟩
  replace hf := lc_let_of ex18 hf
  exact lc_hi.rf.tr (gQ_isUsedOnce_20 hf)
set_option maxHeartbeats 1000000 in
theorem gQ_isChecked_23 {z : lc_S} {r} {z' : lc_S} (hf : fQ_isChecked_23 z = some (r, z')) : lc_hi z z' := by
  rw [fQ_isChecked_23] at hf
  cases hf
  exact lc_hi.rf
set_option maxHeartbeats 1000000 in
theorem gQ_isChecked_249 {k57 : Int32 → Int32 → Int32 → lc_S → Option ((Int32) × lc_S)} (hk57 : ∀ {v0 : Int32} {v1 : Int32} {v2 : Int32} {z : lc_S} {r} {z' : lc_S}, k57 v0 v1 v2 z = some (r, z') → lc_hi z z') {x1 : Int32} {x2 : Int32} {x3 : Int32} {z : lc_S} {r} {z' : lc_S} (hf : fQ_isChecked_249 k57 x1 x2 x3 z = some (r, z')) : lc_hi z z' := by
  rw [fQ_isChecked_249] at hf
  obtain ⟨x249, ex249⟩ : ∃ x, x = x3 + 1 := ⟨_, rfl⟩
  replace hf := lc_let_of ex249 hf
  exact lc_hi.rf.tr (hk57 hf)
set_option maxHeartbeats 1000000 in
theorem gQ_isChecked_248 {k57 : Int32 → Int32 → Int32 → lc_S → Option ((Int32) × lc_S)} (hk57 : ∀ {v0 : Int32} {v1 : Int32} {v2 : Int32} {z : lc_S} {r} {z' : lc_S}, k57 v0 v1 v2 z = some (r, z') → lc_hi z z') {x1 : Int32} {x3 : Int32} {t0 : Int32} {z : lc_S} {r} {z' : lc_S} (hf : fQ_isChecked_248 k57 x1 x3 t0 z = some (r, z')) : lc_hi z z' := by
  rw [fQ_isChecked_248] at hf
  exact lc_hi.rf.tr (gQ_isChecked_249 (fun h => hk57 h) hf)
set_option maxHeartbeats 1000000 in
theorem gQ_isChecked_243 {k57 : Int32 → Int32 → Int32 → lc_S → Option ((Int32) × lc_S)} (hk57 : ∀ {v0 : Int32} {v1 : Int32} {v2 : Int32} {z : lc_S} {r} {z' : lc_S}, k57 v0 v1 v2 z = some (r, z') → lc_hi z z') {x1 : Int32} {x3 : Int32} {z : lc_S} {r} {z' : lc_S} (hf : fQ_isChecked_243 k57 x1 x3 z = some (r, z')) : lc_hi z z' := by
  rw [fQ_isChecked_243] at hf
  exact lc_hi.rf.tr (gQ_isChecked_248 (fun h => hk57 h) hf)
set_option maxHeartbeats 1000000 in
theorem gQ_isChecked_247 {k57 : Int32 → Int32 → Int32 → lc_S → Option ((Int32) × lc_S)} (hk57 : ∀ {v0 : Int32} {v1 : Int32} {v2 : Int32} {z : lc_S} {r} {z' : lc_S}, k57 v0 v1 v2 z = some (r, z') → lc_hi z z') {x1 : Int32} {x3 : Int32} {z : lc_S} {r} {z' : lc_S} (hf : fQ_isChecked_247 k57 x1 x3 z = some (r, z')) : lc_hi z z' := by
  rw [fQ_isChecked_247] at hf
  exact lc_hi.rf.tr (gQ_isChecked_248 (fun h => hk57 h) hf)
set_option maxHeartbeats 1000000 in
theorem gQ_isChecked_212 {k57 : Int32 → Int32 → Int32 → lc_S → Option ((Int32) × lc_S)} (hk57 : ∀ {v0 : Int32} {v1 : Int32} {v2 : Int32} {z : lc_S} {r} {z' : lc_S}, k57 v0 v1 v2 z = some (r, z') → lc_hi z z') {x1 : Int32} {x3 : Int32} {x4 : Int32} {x5 : Int32} {z : lc_S} {r} {z' : lc_S} (hf : fQ_isChecked_212 k57 x1 x3 x4 x5 z = some (r, z')) : lc_hi z z' := by
  rw [fQ_isChecked_212] at hf
  obtain ⟨hw1, hf⟩ := lc_chk_some hf
  obtain ⟨r220, z220, hz220, hf⟩ := lc_bnd_some hf
  have gz220 : lc_hi z z220 := lc_hi.rf.tr (gQ_isLinear hz220)
  by_cases hc2 : r220 = 0
  · replace hf := lc_ite_pos hc2 hf
    exact gz220.tr (gQ_isChecked_243 (fun h => hk57 h) hf)
  · replace hf := lc_ite_neg hc2 hf
    obtain ⟨hw3, hf⟩ := lc_chk_some hf
    obtain ⟨r237, z237, hz237, hf⟩ := lc_bnd_some hf
    have gz237 : lc_hi z z237 := gz220.tr (gQ_isUsedOnce hz237)
    by_cases hc4 : r237 = 0
    · replace hf := lc_ite_pos hc4 hf
      exact gz237.tr (gQ_isChecked_247 (fun h => hk57 h) hf)
    · replace hf := lc_ite_neg hc4 hf
      exact gz237.tr (gQ_isChecked_243 (fun h => hk57 h) hf)
set_option maxHeartbeats 1000000 in
theorem gQ_isChecked_169 {k57 : Int32 → Int32 → Int32 → lc_S → Option ((Int32) × lc_S)} (hk57 : ∀ {v0 : Int32} {v1 : Int32} {v2 : Int32} {z : lc_S} {r} {z' : lc_S}, k57 v0 v1 v2 z = some (r, z') → lc_hi z z') {x1 : Int32} {x2 : Int32} {x3 : Int32} {x4 : Int32} {x5 : Int32} {z : lc_S} {r} {z' : lc_S} (hf : fQ_isChecked_169 k57 x1 x2 x3 x4 x5 z = some (r, z')) : lc_hi z z' := by
  rw [fQ_isChecked_169] at hf
  obtain ⟨hw1, hf⟩ := lc_chk_some hf
  by_cases hc2 : (lcI z 82 x4.toNatClampNeg) = 47
  · replace hf := lc_ite_pos hc2 hf
    obtain ⟨hw3, hf⟩ := lc_chk_some hf
    obtain ⟨r189, z189, hz189, hf⟩ := lc_bnd_some hf
    have gz189 : lc_hi z z189 := lc_hi.rf.tr (gQ_isLinear hz189)
    by_cases hc4 : r189 = 0
    · replace hf := lc_ite_pos hc4 hf
      exact gz189.tr (gQ_isChecked_212 (fun h => hk57 h) hf)
    · replace hf := lc_ite_neg hc4 hf
      obtain ⟨hw5, hf⟩ := lc_chk_some hf
      obtain ⟨r206, z206, hz206, hf⟩ := lc_bnd_some hf
      have gz206 : lc_hi z z206 := gz189.tr (gQ_isUsedOnce hz206)
      by_cases hc6 : r206 = 0
      · replace hf := lc_ite_pos hc6 hf
        exact gz206.tr (gQ_isChecked_247 (fun h => hk57 h) hf)
      · replace hf := lc_ite_neg hc6 hf
        exact gz206.tr (gQ_isChecked_212 (fun h => hk57 h) hf)
  · replace hf := lc_ite_neg hc2 hf
    exact lc_hi.rf.tr (gQ_isChecked_249 (fun h => hk57 h) hf)
set_option maxHeartbeats 1000000 in
theorem gQ_isChecked_168 {k57 : Int32 → Int32 → Int32 → lc_S → Option ((Int32) × lc_S)} (hk57 : ∀ {v0 : Int32} {v1 : Int32} {v2 : Int32} {z : lc_S} {r} {z' : lc_S}, k57 v0 v1 v2 z = some (r, z') → lc_hi z z') {x1 : Int32} {x3 : Int32} {x4 : Int32} {x5 : Int32} {t0 : Int32} {z : lc_S} {r} {z' : lc_S} (hf : fQ_isChecked_168 k57 x1 x3 x4 x5 t0 z = some (r, z')) : lc_hi z z' := by
  rw [fQ_isChecked_168] at hf
  exact lc_hi.rf.tr (gQ_isChecked_169 (fun h => hk57 h) hf)
set_option maxHeartbeats 1000000 in
theorem gQ_isChecked_163 {k57 : Int32 → Int32 → Int32 → lc_S → Option ((Int32) × lc_S)} (hk57 : ∀ {v0 : Int32} {v1 : Int32} {v2 : Int32} {z : lc_S} {r} {z' : lc_S}, k57 v0 v1 v2 z = some (r, z') → lc_hi z z') {x1 : Int32} {x3 : Int32} {x4 : Int32} {x5 : Int32} {z : lc_S} {r} {z' : lc_S} (hf : fQ_isChecked_163 k57 x1 x3 x4 x5 z = some (r, z')) : lc_hi z z' := by
  rw [fQ_isChecked_163] at hf
  exact lc_hi.rf.tr (gQ_isChecked_168 (fun h => hk57 h) hf)
set_option maxHeartbeats 1000000 in
theorem gQ_isChecked_123 {k57 : Int32 → Int32 → Int32 → lc_S → Option ((Int32) × lc_S)} (hk57 : ∀ {v0 : Int32} {v1 : Int32} {v2 : Int32} {z : lc_S} {r} {z' : lc_S}, k57 v0 v1 v2 z = some (r, z') → lc_hi z z') {x1 : Int32} {x2 : Int32} {x3 : Int32} {x4 : Int32} {t0 : Int32} {z : lc_S} {r} {z' : lc_S} (hf : fQ_isChecked_123 k57 x1 x2 x3 x4 t0 z = some (r, z')) : lc_hi z z' := by
  rw [fQ_isChecked_123] at hf
  obtain ⟨hw1, hf⟩ := lc_chk_some hf
  by_cases hc2 : (lcI z 82 x4.toNatClampNeg) = 58
  · replace hf := lc_ite_pos hc2 hf
    obtain ⟨r140, z140, hz140, hf⟩ := lc_bnd_some hf
    have gz140 : lc_hi z z140 := lc_hi.rf.tr (gQ_isLinear hz140)
    by_cases hc3 : r140 = 0
    · replace hf := lc_ite_pos hc3 hf
      exact gz140.tr (gQ_isChecked_163 (fun h => hk57 h) hf)
    · replace hf := lc_ite_neg hc3 hf
      obtain ⟨hw4, hf⟩ := lc_chk_some hf
      obtain ⟨r157, z157, hz157, hf⟩ := lc_bnd_some hf
      have gz157 : lc_hi z z157 := gz140.tr (gQ_isUsedOnce hz157)
      by_cases hc5 : r157 = 0
      · replace hf := lc_ite_pos hc5 hf
        exact gz157.tr (gQ_isChecked_168 (fun h => hk57 h) hf)
      · replace hf := lc_ite_neg hc5 hf
        exact gz157.tr (gQ_isChecked_163 (fun h => hk57 h) hf)
  · replace hf := lc_ite_neg hc2 hf
    exact lc_hi.rf.tr (gQ_isChecked_169 (fun h => hk57 h) hf)
set_option maxHeartbeats 1000000 in
theorem gQ_isChecked_107 {k57 : Int32 → Int32 → Int32 → lc_S → Option ((Int32) × lc_S)} (hk57 : ∀ {v0 : Int32} {v1 : Int32} {v2 : Int32} {z : lc_S} {r} {z' : lc_S}, k57 v0 v1 v2 z = some (r, z') → lc_hi z z') {x1 : Int32} {x2 : Int32} {x3 : Int32} {x4 : Int32} {z : lc_S} {r} {z' : lc_S} (hf : fQ_isChecked_107 k57 x1 x2 x3 x4 z = some (r, z')) : lc_hi z z' := by
  rw [fQ_isChecked_107] at hf
  obtain ⟨hw1, hf⟩ := lc_chk_some hf
  obtain ⟨hw2, hf⟩ := lc_chk_some hf
  exact lc_hi.rf.tr (gQ_isChecked_123 (fun h => hk57 h) hf)
set_option maxHeartbeats 1000000 in
theorem gQ_isChecked_255 {x2 : Int32} {z : lc_S} {r} {z' : lc_S} (hf : fQ_isChecked_255 x2 z = some (r, z')) : lc_hi z z' := by
  rw [fQ_isChecked_255] at hf
  obtain ⟨hw1, hf⟩ := lc_chk_some hf
  cases hf
  exact lc_hi.rf
set_option maxHeartbeats 1000000 in
theorem gQ_isChecked_57 : ∀ {n : Nat} {x1 : Int32} {x2 : Int32} {x3 : Int32} {z : lc_S} {r} {z' : lc_S}, fQ_isChecked_57 n x1 x2 x3 z = some (r, z') → lc_hi z z' := by
  intro n
  induction n with
  | zero =>
    intro x1 x2 x3 z r z' hf
    cases (show none = some (r, z') from hf)
  | succ n ih =>
    intro x1 x2 x3 z r z' hf
    rw [fQ_isChecked_57] at hf
    obtain ⟨hw1, hf⟩ := lc_chk_some hf
    by_cases hc2 : (lcI z 89 (x1 + 1).toNatClampNeg) ≤ x3
    · replace hf := lc_ite_pos hc2 hf
      exact lc_hi.rf.tr (gQ_isChecked_255 hf)
    · replace hf := lc_ite_neg hc2 hf
      by_cases hc3 : x2 = 0
      · replace hf := lc_ite_pos hc3 hf
        exact lc_hi.rf.tr (gQ_isChecked_255 hf)
      · replace hf := lc_ite_neg hc3 hf
        obtain ⟨x81, ex81⟩ : ∃ x, x = (120 * (x1 + 1)) + x3 := ⟨_, rfl⟩
        replace hf := lc_let_of ex81 hf
        obtain ⟨hw4, hf⟩ := lc_chk_some hf
        by_cases hc5 : (lcI z 82 x81.toNatClampNeg) = 58
        · replace hf := lc_ite_pos hc5 hf
          exact lc_hi.rf.tr (gQ_isChecked_107 (fun h => ih h) hf)
        · replace hf := lc_ite_neg hc5 hf
          obtain ⟨hw6, hf⟩ := lc_chk_some hf
          by_cases hc7 : (lcI z 82 x81.toNatClampNeg) = 47
          · replace hf := lc_ite_pos hc7 hf
            exact lc_hi.rf.tr (gQ_isChecked_107 (fun h => ih h) hf)
          · replace hf := lc_ite_neg hc7 hf
            exact lc_hi.rf.tr (gQ_isChecked_123 (fun h => ih h) hf)
set_option maxHeartbeats 1000000 in
theorem gQ_isChecked_54 {x1 : Int32} {t0 : Int32} {z : lc_S} {r} {z' : lc_S} (hf : fQ_isChecked_54 x1 t0 z = some (r, z')) : lc_hi z z' := by
  rw [fQ_isChecked_54] at hf
  exact lc_hi.rf.tr (gQ_isChecked_57 hf)
set_option maxHeartbeats 1000000 in
theorem gQ_isChecked_49 {x1 : Int32} {z : lc_S} {r} {z' : lc_S} (hf : fQ_isChecked_49 x1 z = some (r, z')) : lc_hi z z' := by
  rw [fQ_isChecked_49] at hf
  exact lc_hi.rf.tr (gQ_isChecked_54 hf)
set_option maxHeartbeats 1000000 in
theorem gQ_isChecked {a1 : Int32} {z : lc_S} {r} {z' : lc_S} (hf : fQ_isChecked a1 z = some (r, z')) : lc_hi z z' := by
  rw [fQ_isChecked] at hf
  obtain ⟨r2, z2, hz2, hf⟩ := lc_bnd_some hf
  have gz2 : lc_hi z z2 := lc_hi.rf.tr (gQ_find hz2)
  by_cases hc1 : r2 = 0
  · replace hf := lc_ite_pos hc1 hf
    exact gz2.tr (gQ_isChecked_23 hf)
  · replace hf := lc_ite_neg hc1 hf
    obtain ⟨hw2, hf⟩ := lc_chk_some hf
    by_cases hc3 : (lcI z2 100 (0 : Int32).toNatClampNeg) = (lcI z2 102 a1.toNatClampNeg)
    · replace hf := lc_ite_pos hc3 hf
      obtain ⟨hw4, hf⟩ := lc_chk_some hf
      obtain ⟨r32, z32, hz32, hf⟩ := lc_bnd_some hf
      have gz32 : lc_hi z z32 := gz2.tr (gQ_isLinear hz32)
      by_cases hc5 : r32 = 0
      · replace hf := lc_ite_pos hc5 hf
        exact gz32.tr (gQ_isChecked_49 hf)
      · replace hf := lc_ite_neg hc5 hf
        obtain ⟨r43, z43, hz43, hf⟩ := lc_bnd_some hf
        have gz43 : lc_hi z z43 := gz32.tr (gQ_isUsedOnce hz43)
        by_cases hc6 : r43 = 0
        · replace hf := lc_ite_pos hc6 hf
          exact gz43.tr (gQ_isChecked_54 hf)
        · replace hf := lc_ite_neg hc6 hf
          exact gz43.tr (gQ_isChecked_49 hf)
    · replace hf := lc_ite_neg hc3 hf
      exact gz2.tr (gQ_isChecked_23 hf)
set_option maxHeartbeats 1000000 in
theorem gQ_sound_56 {k24 : Int32 → Int32 → Int32 → lc_S → Option ((Int32) × lc_S)} (hk24 : ∀ {v0 : Int32} {v1 : Int32} {v2 : Int32} {z : lc_S} {r} {z' : lc_S}, k24 v0 v1 v2 z = some (r, z') → lc_hi z z') {k37 : Int32 → Int32 → Int32 → lc_S → Option ((Int32) × lc_S)} (hk37 : ∀ {v0 : Int32} {v1 : Int32} {v2 : Int32} {z : lc_S} {r} {z' : lc_S}, k37 v0 v1 v2 z = some (r, z') → lc_hi z z') {x2 : Int32} {x3 : Int32} {x5 : Int32} {z : lc_S} {r} {z' : lc_S} (hf : fQ_sound_56 k24 k37 x2 x3 x5 z = some (r, z')) : lc_hi z z' := by
  rw [fQ_sound_56] at hf
  obtain ⟨x56, ex56⟩ : ∃ x, x = x5 + 1 := ⟨_, rfl⟩
  replace hf := lc_let_of ex56 hf
  exact lc_hi.rf.tr (hk37 hf)
set_option maxHeartbeats 1000000 in
theorem gQ_sound_149 {k24 : Int32 → Int32 → Int32 → lc_S → Option ((Int32) × lc_S)} (hk24 : ∀ {v0 : Int32} {v1 : Int32} {v2 : Int32} {z : lc_S} {r} {z' : lc_S}, k24 v0 v1 v2 z = some (r, z') → lc_hi z z') {k97 : Int32 → Int32 → Int32 → Int32 → Int32 → lc_S → Option ((Int32) × lc_S)} (hk97 : ∀ {v0 : Int32} {v1 : Int32} {v2 : Int32} {v3 : Int32} {v4 : Int32} {z : lc_S} {r} {z' : lc_S}, k97 v0 v1 v2 v3 v4 z = some (r, z') → lc_hi z z') {x3 : Int32} {x4 : Int32} {x5 : Int32} {x6 : Int32} {t0 : Int32} {t1 : Int32} {z : lc_S} {r} {z' : lc_S} (hf : fQ_sound_149 k24 k97 x3 x4 x5 x6 t0 t1 z = some (r, z')) : lc_hi z z' := by
  rw [fQ_sound_149] at hf
  obtain ⟨x150, ex150⟩ : ∃ x, x = t0 ||| t1 := ⟨_, rfl⟩
  replace hf := lc_let_of ex150 hf
  obtain ⟨x151, ex151⟩ : ∃ x, x = x6 + 1 := ⟨_, rfl⟩
  replace hf := lc_let_of ex151 hf
  exact lc_hi.rf.tr (hk97 hf)
set_option maxHeartbeats 1000000 in
theorem gQ_sound_97 {k24 : Int32 → Int32 → Int32 → lc_S → Option ((Int32) × lc_S)} (hk24 : ∀ {v0 : Int32} {v1 : Int32} {v2 : Int32} {z : lc_S} {r} {z' : lc_S}, k24 v0 v1 v2 z = some (r, z') → lc_hi z z') : ∀ {n : Nat} {x2 : Int32} {x3 : Int32} {x4 : Int32} {x5 : Int32} {x6 : Int32} {z : lc_S} {r} {z' : lc_S}, fQ_sound_97 k24 n x2 x3 x4 x5 x6 z = some (r, z') → lc_hi z z' := by
  intro n
  induction n with
  | zero =>
    intro x2 x3 x4 x5 x6 z r z' hf
    cases (show none = some (r, z') from hf)
  | succ n ih =>
    intro x2 x3 x4 x5 x6 z r z' hf
    rw [fQ_sound_97] at hf
    obtain ⟨hw1, hf⟩ := lc_chk_some hf
    by_cases hc2 : (lcI z 89 (x5 + 1).toNatClampNeg) ≤ x6
    · replace hf := lc_ite_pos hc2 hf
      exact lc_hi.rf.tr (hk24 hf)
    · replace hf := lc_ite_neg hc2 hf
      obtain ⟨x121, ex121⟩ : ∃ x, x = (120 * (x5 + 1)) + x6 := ⟨_, rfl⟩
      replace hf := lc_let_of ex121 hf
      obtain ⟨hw3, hf⟩ := lc_chk_some hf
      by_cases hc4 : (lcI z 82 x121.toNatClampNeg) = 64
      · replace hf := lc_ite_pos hc4 hf
        obtain ⟨hw5, hf⟩ := lc_chk_some hf
        exact lc_hi.rf.tr (gQ_sound_149 (fun h => hk24 h) (fun h => ih h) hf)
      · replace hf := lc_ite_neg hc4 hf
        exact lc_hi.rf.tr (gQ_sound_149 (fun h => hk24 h) (fun h => ih h) hf)
set_option maxHeartbeats 1000000 in
theorem gQ_sound_92 {k24 : Int32 → Int32 → Int32 → lc_S → Option ((Int32) × lc_S)} (hk24 : ∀ {v0 : Int32} {v1 : Int32} {v2 : Int32} {z : lc_S} {r} {z' : lc_S}, k24 v0 v1 v2 z = some (r, z') → lc_hi z z') {x2 : Int32} {x3 : Int32} {x5 : Int32} {t0 : Int32} {z : lc_S} {r} {z' : lc_S} (hf : fQ_sound_92 k24 x2 x3 x5 t0 z = some (r, z')) : lc_hi z z' := by
  rw [fQ_sound_92] at hf
  exact lc_hi.rf.tr (gQ_sound_97 (fun h => hk24 h) hf)
set_option maxHeartbeats 1000000 in
theorem gQ_sound_91 {k24 : Int32 → Int32 → Int32 → lc_S → Option ((Int32) × lc_S)} (hk24 : ∀ {v0 : Int32} {v1 : Int32} {v2 : Int32} {z : lc_S} {r} {z' : lc_S}, k24 v0 v1 v2 z = some (r, z') → lc_hi z z') {x2 : Int32} {x3 : Int32} {x5 : Int32} {z : lc_S} {r} {z' : lc_S} (hf : fQ_sound_91 k24 x2 x3 x5 z = some (r, z')) : lc_hi z z' := by
  rw [fQ_sound_91] at hf
  exact lc_hi.rf.tr (gQ_sound_92 (fun h => hk24 h) hf)
set_option maxHeartbeats 1000000 in
theorem gQ_sound_37 {k24 : Int32 → Int32 → Int32 → lc_S → Option ((Int32) × lc_S)} (hk24 : ∀ {v0 : Int32} {v1 : Int32} {v2 : Int32} {z : lc_S} {r} {z' : lc_S}, k24 v0 v1 v2 z = some (r, z') → lc_hi z z') : ∀ {n : Nat} {x2 : Int32} {x3 : Int32} {x5 : Int32} {z : lc_S} {r} {z' : lc_S}, fQ_sound_37 k24 n x2 x3 x5 z = some (r, z') → lc_hi z z' := by
  intro n
  induction n with
  | zero =>
    intro x2 x3 x5 z r z' hf
    cases (show none = some (r, z') from hf)
  | succ n ih =>
    intro x2 x3 x5 z r z' hf
    rw [fQ_sound_37] at hf
    by_cases hc1 : ((x2 >>> (x5 &&& 31)) &&& 1) = 0
    · replace hf := lc_ite_pos hc1 hf
      exact lc_hi.rf.tr (gQ_sound_56 (fun h => hk24 h) (fun h => ih h) hf)
    · replace hf := lc_ite_neg hc1 hf
      by_cases hc2 : ((x3 >>> (x5 &&& 31)) &&& 1) = 1
      · replace hf := lc_ite_pos hc2 hf
        exact lc_hi.rf.tr (gQ_sound_56 (fun h => hk24 h) (fun h => ih h) hf)
      · replace hf := lc_ite_neg hc2 hf
        obtain ⟨x68, ex68⟩ : ∃ x, x = x3 ||| (1 <<< (x5 &&& 31)) := ⟨_, rfl⟩
        replace hf := lc_let_of ex68 hf
        obtain ⟨r72, z72, hz72, hf⟩ := lc_bnd_some hf
        have gz72 : lc_hi z z72 := lc_hi.rf.tr (gQ_isThere hz72)
        by_cases hc3 : r72 = 0
        · replace hf := lc_ite_pos hc3 hf
          exact gz72.tr (gQ_sound_91 (fun h => hk24 h) hf)
        · replace hf := lc_ite_neg hc3 hf
          obtain ⟨r81, z81, hz81, hf⟩ := lc_bnd_some hf
          have gz81 : lc_hi z z81 := gz72.tr (gQ_isChecked hz81)
          by_cases hc4 : r81 = 0
          · replace hf := lc_ite_pos hc4 hf
            exact gz81.tr (gQ_sound_91 (fun h => hk24 h) hf)
          · replace hf := lc_ite_neg hc4 hf
            exact gz81.tr (gQ_sound_92 (fun h => hk24 h) hf)
set_option maxHeartbeats 1000000 in
theorem gQ_sound_160 {x4 : Int32} {z : lc_S} {r} {z' : lc_S} (hf : fQ_sound_160 x4 z = some (r, z')) : lc_hi z z' := by
  rw [fQ_sound_160] at hf
  obtain ⟨hw1, hf⟩ := lc_chk_some hf
  cases hf
  exact lc_hi.rf
set_option maxHeartbeats 1000000 in
theorem gQ_sound_24 : ∀ {n : Nat} {x2 : Int32} {x3 : Int32} {x4 : Int32} {z : lc_S} {r} {z' : lc_S}, fQ_sound_24 n x2 x3 x4 z = some (r, z') → lc_hi z z' := by
  intro n
  induction n with
  | zero =>
    intro x2 x3 x4 z r z' hf
    cases (show none = some (r, z') from hf)
  | succ n ih =>
    intro x2 x3 x4 z r z' hf
    rw [fQ_sound_24] at hf
    by_cases hc1 : x3 = x2
    · replace hf := lc_ite_pos hc1 hf
      exact lc_hi.rf.tr (gQ_sound_160 hf)
    · replace hf := lc_ite_neg hc1 hf
      by_cases hc2 : x4 = 0
      · replace hf := lc_ite_pos hc2 hf
        exact lc_hi.rf.tr (gQ_sound_160 hf)
      · replace hf := lc_ite_neg hc2 hf
        exact lc_hi.rf.tr (gQ_sound_37 (fun h => ih h) hf)
set_option maxHeartbeats 1000000 in
theorem gQ_sound {a1 : Int32} {z : lc_S} {r} {z' : lc_S} (hf : fQ_sound a1 z = some (r, z')) : lc_hi z z' := by
  rw [fQ_sound] at hf
  obtain ⟨r7, z7, hz7, hf⟩ := lc_bnd_some hf
  have gz7 : lc_hi z z7 := (lc_hi.rf.ui (by decide)).tr (gQ_isThere hz7)
  by_cases hc1 : r7 = 0
  · replace hf := lc_ite_pos hc1 hf
    cases hf
    exact gz7
  · replace hf := lc_ite_neg hc1 hf
    obtain ⟨x18, ex18⟩ : ∃ x, x = 1 <<< (a1 &&& 31) := ⟨_, rfl⟩
    replace hf := lc_let_of ex18 hf
    exact gz7.tr (gQ_sound_24 hf)
set_option maxHeartbeats 1000000 in
theorem gQ_typed_32 {z : lc_S} {r} {z' : lc_S} (hf : fQ_typed_32 z = some (r, z')) : lc_hi z z' := by
  rw [fQ_typed_32] at hf
  cases hf
  exact lc_hi.rf
set_option maxHeartbeats 1000000 in
theorem gQ_typed_90 {k36 : Int32 → lc_S → Option ((Int32) × lc_S)} (hk36 : ∀ {v0 : Int32} {z : lc_S} {r} {z' : lc_S}, k36 v0 z = some (r, z') → lc_hi z z') {x2 : Int32} {t1 : Int32} {t2 : Int32} {z : lc_S} {r} {z' : lc_S} (hf : fQ_typed_90 k36 x2 t1 t2 z = some (r, z')) : lc_hi z z' := by
  rw [fQ_typed_90] at hf
  obtain ⟨hw1, hf⟩ := lc_chk_some hf
  obtain ⟨x91, ex91⟩ : ∃ x, x = x2 + 1 := ⟨_, rfl⟩
  replace hf := lc_let_of ex91 hf
  exact (lc_hi.rf.ui (by decide)).tr (hk36 hf)
set_option maxHeartbeats 1000000 in
theorem gQ_typed_36 : ∀ {n : Nat} {x2 : Int32} {z : lc_S} {r} {z' : lc_S}, fQ_typed_36 n x2 z = some (r, z') → lc_hi z z' := by
  intro n
  induction n with
  | zero =>
    intro x2 z r z' hf
    cases (show none = some (r, z') from hf)
  | succ n ih =>
    intro x2 z r z' hf
    rw [fQ_typed_36] at hf
    by_cases hc1 : (lcI z 100 (0 : Int32).toNatClampNeg) < x2
    · replace hf := lc_ite_pos hc1 hf
      obtain ⟨hw2, hf⟩ := lc_chk_some hf
      cases hf
      exact lc_hi.rf
    · replace hf := lc_ite_neg hc1 hf
      by_cases hc3 : 2 ≤ x2
      · replace hf := lc_ite_pos hc3 hf
        obtain ⟨hw4, hf⟩ := lc_chk_some hf
        obtain ⟨hw5, hf⟩ := lc_chk_some hf
        obtain ⟨hw6, hf⟩ := lc_chk_some hf
        obtain ⟨hw7, hf⟩ := lc_chk_some hf
        exact lc_hi.rf.tr (gQ_typed_90 (fun h => ih h) hf)
      · replace hf := lc_ite_neg hc3 hf
        exact lc_hi.rf.tr (gQ_typed_90 (fun h => ih h) hf)
set_option maxHeartbeats 1000000 in
theorem gQ_typed_14 {x1 : Int32} {t1 : Int32} {z : lc_S} {r} {z' : lc_S} (hf : fQ_typed_14 x1 t1 z = some (r, z')) : lc_hi z z' := by
  rw [fQ_typed_14] at hf
  by_cases hc1 : 0 < (lcI (lcUI z 80 0 t1) 80 0)
  · replace hf := lc_ite_pos hc1 hf
    exact (lc_hi.rf.ui (by decide)).tr (gQ_typed_32 hf)
  · replace hf := lc_ite_neg hc1 hf
    obtain ⟨r26, z26, hz26, hf⟩ := lc_bnd_some hf
    have gz26 : lc_hi z z26 := (lc_hi.rf.ui (by decide)).tr (gQ_find hz26)
    by_cases hc2 : r26 = 0
    · replace hf := lc_ite_pos hc2 hf
      exact gz26.tr (gQ_typed_32 hf)
    · replace hf := lc_ite_neg hc2 hf
      exact gz26.tr (gQ_typed_36 hf)
set_option maxHeartbeats 1000000 in
theorem gQ_typed {a1 : Int32} {z : lc_S} {r} {z' : lc_S} (hf : fQ_typed a1 z = some (r, z')) : lc_hi z z' := by
  rw [fQ_typed] at hf
  obtain ⟨r3, z3, hz3, hf⟩ := lc_bnd_some hf
  have gz3 : lc_hi z z3 := lc_hi.rf.tr (gQ_isThere hz3)
  by_cases hc1 : r3 = 0
  · replace hf := lc_ite_pos hc1 hf
    exact gz3.tr (gQ_typed_14 hf)
  · replace hf := lc_ite_neg hc1 hf
    exact gz3.tr (gQ_typed_14 hf)
set_option maxHeartbeats 1000000 in
theorem gQ_isNumber {a0 : Int64} {z : lc_S} {r} {z' : lc_S} (hf : fQ_isNumber a0 z = some (r, z')) : lc_hi z z' := by
  rw [fQ_isNumber] at hf
  by_cases hc1 : (lg_cmp (a0 >>> ((32 : Int32).toInt64 &&& 63)) 0) = 0
  · replace hf := lc_ite_pos hc1 hf
    cases hf
    exact lc_hi.rf
  · replace hf := lc_ite_neg hc1 hf
    cases hf
    exact lc_hi.rf
set_option maxHeartbeats 1000000 in
theorem gQ_plain {a0 : Int64} {z : lc_S} {r} {z' : lc_S} (hf : fQ_plain a0 z = some (r, z')) : lc_hi z z' := by
  rw [fQ_plain] at hf
  cases hf
  exact lc_hi.rf
set_option maxHeartbeats 1000000 in
theorem gQ_stop_16 {t1 : Int32} {z : lc_S} {r} {z' : lc_S} (hf : fQ_stop_16 t1 z = some (r, z')) : lc_hi z z' := by
  rw [fQ_stop_16] at hf
  cases hf
  exact (lc_hi.rf.ui (by decide))
set_option maxHeartbeats 1000000 in
theorem gQ_stop {a1 : Int32} {z : lc_S} {r} {z' : lc_S} (hf : fQ_stop a1 z = some (r, z')) : lc_hi z z' := by
  rw [fQ_stop] at hf
  by_cases hc1 : (lcI z 80 45) = 0
  · replace hf := lc_ite_pos hc1 hf
    exact lc_hi.rf.tr (gQ_stop_16 hf)
  · replace hf := lc_ite_neg hc1 hf
    exact lc_hi.rf.tr (gQ_stop_16 hf)
set_option maxHeartbeats 1000000 in
theorem gQ_enter {a1 : Int32} {a2 : Int32} {a3 : Int32} {a4 : Int32} {z : lc_S} {r} {z' : lc_S} (hf : fQ_enter a1 a2 a3 a4 z = some (r, z')) : lc_hi z z' := by
  rw [fQ_enter] at hf
  by_cases hc1 : (lcI z 80 48) = 2000
  · replace hf := lc_ite_pos hc1 hf
    obtain ⟨r12, z12, hz12, hf⟩ := lc_bnd_some hf
    have gz12 : lc_hi z z12 := lc_hi.rf.tr (gQ_stop hz12)
    cases hf
    exact gz12
  · replace hf := lc_ite_neg hc1 hf
    obtain ⟨hw2, hf⟩ := lc_chk_some hf
    obtain ⟨hw3, hf⟩ := lc_chk_some hf
    obtain ⟨hw4, hf⟩ := lc_chk_some hf
    obtain ⟨hw5, hf⟩ := lc_chk_some hf
    obtain ⟨hw6, hf⟩ := lc_chk_some hf
    cases hf
    exact (((((((lc_hi.rf.ui (by decide)).ui (by decide)).ui (by decide)).ui (by decide)).ui (by decide)).ui (by decide)).ui (by decide))
set_option maxHeartbeats 1000000 in
theorem gQ_withName {a1 : Int32} {a2 : Int32} {a3 : Int64} {a5 : Int32} {z : lc_S} {r} {z' : lc_S} (hf : fQ_withName a1 a2 a3 a5 z = some (r, z')) : lc_hi z z' := by
  rw [fQ_withName] at hf
  obtain ⟨hw1, hf⟩ := lc_chk_some hf
  obtain ⟨hw2, hf⟩ := lc_chk_some hf
  obtain ⟨hw3, hf⟩ := lc_chk_some hf
  obtain ⟨hw4, hf⟩ := lc_chk_some hf
  obtain ⟨hw5, hf⟩ := lc_chk_some hf
  cases hf
  exact (((((lc_hi.rf.ui (by decide)).ui (by decide)).ul (by decide)).ui (by decide)).ui (by decide))
set_option maxHeartbeats 1000000 in
theorem gQ_answer {a1 : Int64} {z : lc_S} {r} {z' : lc_S} (hf : fQ_answer a1 z = some (r, z')) : lc_hi z z' := by
  rw [fQ_answer] at hf
  cases hf
  exact ((lc_hi.rf.ui (by decide)).ul (by decide))
set_option maxHeartbeats 1000000 in
theorem gQ_lookUp_25 {k3 : Int32 → Int32 → Int32 → lc_S → Option ((Int64) × lc_S)} (hk3 : ∀ {v0 : Int32} {v1 : Int32} {v2 : Int32} {z : lc_S} {r} {z' : lc_S}, k3 v0 v1 v2 z = some (r, z') → lc_hi z z') {x2 : Int32} {x3 : Int32} {x4 : Int32} {z : lc_S} {r} {z' : lc_S} (hf : fQ_lookUp_25 k3 x2 x3 x4 z = some (r, z')) : lc_hi z z' := by
  rw [fQ_lookUp_25] at hf
  obtain ⟨hw1, hf⟩ := lc_chk_some hf
  obtain ⟨x32, ex32⟩ : ∃ x, x = lcI z 114 x4.toNatClampNeg := ⟨_, rfl⟩
  replace hf := lc_let_of ex32 hf
  exact lc_hi.rf.tr (hk3 hf)
set_option maxHeartbeats 1000000 in
theorem gQ_lookUp_3 : ∀ {n : Nat} {x2 : Int32} {x3 : Int32} {x4 : Int32} {z : lc_S} {r} {z' : lc_S}, fQ_lookUp_3 n x2 x3 x4 z = some (r, z') → lc_hi z z' := by
  intro n
  induction n with
  | zero =>
    intro x2 x3 x4 z r z' hf
    cases (show none = some (r, z') from hf)
  | succ n ih =>
    intro x2 x3 x4 z r z' hf
    rw [fQ_lookUp_3] at hf
    obtain ⟨hw1, hf⟩ := lc_chk_some hf
    by_cases hc2 : (lcI z 111 x4.toNatClampNeg) = x2
    · replace hf := lc_ite_pos hc2 hf
      obtain ⟨hw3, hf⟩ := lc_chk_some hf
      by_cases hc4 : (lcI z 112 x4.toNatClampNeg) = x3
      · replace hf := lc_ite_pos hc4 hf
        obtain ⟨hw5, hf⟩ := lc_chk_some hf
        cases hf
        exact lc_hi.rf
      · replace hf := lc_ite_neg hc4 hf
        exact lc_hi.rf.tr (gQ_lookUp_25 (fun h => ih h) hf)
    · replace hf := lc_ite_neg hc2 hf
      exact lc_hi.rf.tr (gQ_lookUp_25 (fun h => ih h) hf)
set_option maxHeartbeats 1000000 in
theorem gQ_lookUp {a1 : Int32} {a2 : Int32} {a3 : Int32} {z : lc_S} {r} {z' : lc_S} (hf : fQ_lookUp a1 a2 a3 z = some (r, z')) : lc_hi z z' := by
  rw [fQ_lookUp] at hf
  exact lc_hi.rf.tr (gQ_lookUp_3 hf)
set_option maxHeartbeats 1000000 in
theorem gQ_goOn_58 {z : lc_S} {r} {z' : lc_S} (hf : fQ_goOn_58 z = some (r, z')) : lc_hi z z' := by
  rw [fQ_goOn_58] at hf
  obtain ⟨r60, z60, hz60, hf⟩ := lc_bnd_some hf
  have gz60 : lc_hi z z60 := lc_hi.rf.tr (gQ_stop hz60)
  cases hf
  exact gz60
set_option maxHeartbeats 1000000 in
theorem gQ_goOn_181 {x1 : Int32} {x7 : Int32} {t1 : Int32} {t2 : Int32} {z : lc_S} {r} {z' : lc_S} (hf : fQ_goOn_181 x1 x7 t1 t2 z = some (r, z')) : lc_hi z z' := by
  rw [fQ_goOn_181] at hf
  obtain ⟨hw1, hf⟩ := lc_chk_some hf
  obtain ⟨r189, z189, hz189, hf⟩ := lc_bnd_some hf
  have gz189 : lc_hi z z189 := lc_hi.rf.tr (gQ_enter hz189)
  cases hf
  exact gz189
set_option maxHeartbeats 1000000 in
theorem gQ_goOn_175 {x1 : Int32} {x2 : Int32} {x7 : Int32} {t1 : Int32} {z : lc_S} {r} {z' : lc_S} (hf : fQ_goOn_175 x1 x2 x7 t1 z = some (r, z')) : lc_hi z z' := by
  rw [fQ_goOn_175] at hf
  obtain ⟨hw1, hf⟩ := lc_chk_some hf
  exact lc_hi.rf.tr (gQ_goOn_181 hf)
set_option maxHeartbeats 1000000 in
theorem gQ_goOn_146 {x1 : Int32} {x2 : Int32} {x3 : Int32} {x5 : Int64} {x7 : Int32} {z : lc_S} {r} {z' : lc_S} (hf : fQ_goOn_146 x1 x2 x3 x5 x7 z = some (r, z')) : lc_hi z z' := by
  rw [fQ_goOn_146] at hf
  obtain ⟨hw1, hf⟩ := lc_chk_some hf
  by_cases hc2 : x3 = 63
  · replace hf := lc_ite_pos hc2 hf
    by_cases hc3 : (lg_cmp x5 0) = 0
    · replace hf := lc_ite_pos hc3 hf
      obtain ⟨hw4, hf⟩ := lc_chk_some hf
      exact lc_hi.rf.tr (gQ_goOn_181 hf)
    · replace hf := lc_ite_neg hc3 hf
      exact lc_hi.rf.tr (gQ_goOn_175 hf)
  · replace hf := lc_ite_neg hc2 hf
    exact lc_hi.rf.tr (gQ_goOn_175 hf)
set_option maxHeartbeats 1000000 in
theorem gQ_goOn_87 {x1 : Int32} {x2 : Int32} {x3 : Int32} {x5 : Int64} {x7 : Int32} {z : lc_S} {r} {z' : lc_S} (hf : fQ_goOn_87 x1 x2 x3 x5 x7 z = some (r, z')) : lc_hi z z' := by
  rw [fQ_goOn_87] at hf
  by_cases hc1 : x3 = 47
  · replace hf := lc_ite_pos hc1 hf
    obtain ⟨x100, ex100⟩ : ∃ x, x = (x5 - 8589934592).toInt32 := ⟨_, rfl⟩
    replace hf := lc_let_of ex100 hf
    obtain ⟨hw2, hf⟩ := lc_chk_some hf
    obtain ⟨hw3, hf⟩ := lc_chk_some hf
    obtain ⟨r119, z119, hz119, hf⟩ := lc_bnd_some hf
    have gz119 : lc_hi z z119 := lc_hi.rf.tr (gQ_withName hz119)
    obtain ⟨hw4, hf⟩ := lc_chk_some hf
    obtain ⟨hw5, hf⟩ := lc_chk_some hf
    obtain ⟨r141, z141, hz141, hf⟩ := lc_bnd_some hf
    have gz141 : lc_hi z z141 := gz119.tr (gQ_withName hz141)
    exact gz141.tr (gQ_goOn_146 hf)
  · replace hf := lc_ite_neg hc1 hf
    exact lc_hi.rf.tr (gQ_goOn_146 hf)
set_option maxHeartbeats 1000000 in
theorem gQ_goOn_64 {x1 : Int32} {x2 : Int32} {x3 : Int32} {x5 : Int64} {x7 : Int32} {z : lc_S} {r} {z' : lc_S} (hf : fQ_goOn_64 x1 x2 x3 x5 x7 z = some (r, z')) : lc_hi z z' := by
  rw [fQ_goOn_64] at hf
  by_cases hc1 : x3 = 58
  · replace hf := lc_ite_pos hc1 hf
    obtain ⟨hw2, hf⟩ := lc_chk_some hf
    obtain ⟨r82, z82, hz82, hf⟩ := lc_bnd_some hf
    have gz82 : lc_hi z z82 := lc_hi.rf.tr (gQ_withName hz82)
    exact gz82.tr (gQ_goOn_87 hf)
  · replace hf := lc_ite_neg hc1 hf
    exact lc_hi.rf.tr (gQ_goOn_87 hf)
set_option maxHeartbeats 1000000 in
theorem gQ_goOn_43 {x1 : Int32} {x2 : Int32} {x3 : Int32} {x5 : Int64} {x7 : Int32} {z : lc_S} {r} {z' : lc_S} (hf : fQ_goOn_43 x1 x2 x3 x5 x7 z = some (r, z')) : lc_hi z z' := by
  rw [fQ_goOn_43] at hf
  by_cases hc1 : x3 = 47
  · replace hf := lc_ite_pos hc1 hf
    by_cases hc2 : 0 ≤ (lg_cmp x5 8589934592)
    · replace hf := lc_ite_pos hc2 hf
      exact lc_hi.rf.tr (gQ_goOn_64 hf)
    · replace hf := lc_ite_neg hc2 hf
      exact lc_hi.rf.tr (gQ_goOn_58 hf)
  · replace hf := lc_ite_neg hc1 hf
    exact lc_hi.rf.tr (gQ_goOn_64 hf)
set_option maxHeartbeats 1000000 in
theorem gQ_goOn {a1 : Int32} {a2 : Int32} {a3 : Int32} {a4 : Int32} {z : lc_S} {r} {z' : lc_S} (hf : fQ_goOn a1 a2 a3 a4 z = some (r, z')) : lc_hi z z' := by
  rw [fQ_goOn] at hf
  by_cases hc1 : a4 = 2
  · replace hf := lc_ite_pos hc1 hf
    obtain ⟨r11, z11, hz11, hf⟩ := lc_bnd_some hf
    have gz11 : lc_hi z z11 := lc_hi.rf.tr (gQ_answer hz11)
    cases hf
    exact gz11
  · replace hf := lc_ite_neg hc1 hf
    obtain ⟨x19, ex19⟩ : ∃ x, x = lcL z 80 47 := ⟨_, rfl⟩
    replace hf := lc_let_of ex19 hf
    obtain ⟨hw2, hf⟩ := lc_chk_some hf
    obtain ⟨x27, ex27⟩ : ∃ x, x = lcI z 107 a1.toNatClampNeg := ⟨_, rfl⟩
    replace hf := lc_let_of ex27 hf
    by_cases hc3 : a3 = 63
    · replace hf := lc_ite_pos hc3 hf
      obtain ⟨r37, z37, hz37, hf⟩ := lc_bnd_some hf
      have gz37 : lc_hi z z37 := lc_hi.rf.tr (gQ_isNumber hz37)
      by_cases hc4 : r37 = 0
      · replace hf := lc_ite_pos hc4 hf
        exact gz37.tr (gQ_goOn_58 hf)
      · replace hf := lc_ite_neg hc4 hf
        exact gz37.tr (gQ_goOn_43 hf)
    · replace hf := lc_ite_neg hc3 hf
      exact lc_hi.rf.tr (gQ_goOn_43 hf)
set_option maxHeartbeats 1000000 in
theorem gQ_call {a1 : Int32} {a2 : Int32} {a3 : Int32} {z : lc_S} {r} {z' : lc_S} (hf : fQ_call a1 a2 a3 z = some (r, z')) : lc_hi z z' := by
  rw [fQ_call] at hf
  by_cases hc1 : a3 = 2
  · replace hf := lc_ite_pos hc1 hf
    obtain ⟨r10, z10, hz10, hf⟩ := lc_bnd_some hf
    have gz10 : lc_hi z z10 := lc_hi.rf.tr (gQ_answer hz10)
    cases hf
    exact gz10
  · replace hf := lc_ite_neg hc1 hf
    obtain ⟨r16, z16, hz16, hf⟩ := lc_bnd_some hf
    have gz16 : lc_hi z z16 := lc_hi.rf.tr (gQ_isThere hz16)
    by_cases hc2 : r16 = 0
    · replace hf := lc_ite_pos hc2 hf
      obtain ⟨r24, z24, hz24, hf⟩ := lc_bnd_some hf
      have gz24 : lc_hi z z24 := gz16.tr (gQ_stop hz24)
      cases hf
      exact gz24
    · replace hf := lc_ite_neg hc2 hf
      obtain ⟨hw3, hf⟩ := lc_chk_some hf
      by_cases hc4 : (lcI z16 108 a1.toNatClampNeg) = 24
      · replace hf := lc_ite_pos hc4 hf
        obtain ⟨r43, z43, hz43, hf⟩ := lc_bnd_some hf
        have gz43 : lc_hi z z43 := gz16.tr (gQ_stop hz43)
        cases hf
        exact gz43
      · replace hf := lc_ite_neg hc4 hf
        obtain ⟨r65, z65, hz65, hf⟩ := lc_bnd_some hf
        have gz65 : lc_hi z z65 := gz16.tr (gQ_withName hz65)
        obtain ⟨hw5, hf⟩ := lc_chk_some hf
        obtain ⟨r76, z76, hz76, hf⟩ := lc_bnd_some hf
        have gz76 : lc_hi z z76 := gz65.tr (gQ_enter hz76)
        cases hf
        exact gz76
set_option maxHeartbeats 1000000 in
theorem gQ_pairUp {a1 : Int64} {a3 : Int64} {z : lc_S} {r} {z' : lc_S} (hf : fQ_pairUp a1 a3 z = some (r, z')) : lc_hi z z' := by
  rw [fQ_pairUp] at hf
  by_cases hc1 : (lcI z 80 53) = 120
  · replace hf := lc_ite_pos hc1 hf
    obtain ⟨r11, z11, hz11, hf⟩ := lc_bnd_some hf
    have gz11 : lc_hi z z11 := lc_hi.rf.tr (gQ_stop hz11)
    cases hf
    exact gz11
  · replace hf := lc_ite_neg hc1 hf
    obtain ⟨hw2, hf⟩ := lc_chk_some hf
    obtain ⟨hw3, hf⟩ := lc_chk_some hf
    obtain ⟨r57, z57, hz57, hf⟩ := lc_bnd_some hf
    have gz57 : lc_hi z z57 := (((lc_hi.rf.ul (by decide)).ul (by decide)).ui (by decide)).tr (gQ_answer hz57)
    cases hf
    exact gz57
set_option maxHeartbeats 1000000 in
theorem gQ_isCell_20 {z : lc_S} {r} {z' : lc_S} (hf : fQ_isCell_20 z = some (r, z')) : lc_hi z z' := by
  rw [fQ_isCell_20] at hf
  cases hf
  exact lc_hi.rf
set_option maxHeartbeats 1000000 in
theorem gQ_isCell {a0 : Int64} {z : lc_S} {r} {z' : lc_S} (hf : fQ_isCell a0 z = some (r, z')) : lc_hi z z' := by
  rw [fQ_isCell] at hf
  by_cases hc1 : (lg_cmp a0 4294967296) < 0
  · replace hf := lc_ite_pos hc1 hf
    exact lc_hi.rf.tr (gQ_isCell_20 hf)
  · replace hf := lc_ite_neg hc1 hf
    by_cases hc2 : 0 ≤ (lg_cmp a0 8589934592)
    · replace hf := lc_ite_pos hc2 hf
      exact lc_hi.rf.tr (gQ_isCell_20 hf)
    · replace hf := lc_ite_neg hc2 hf
      cases hf
      exact lc_hi.rf
set_option maxHeartbeats 1000000 in
theorem gQ_two_105 {x2 : Int64} {z : lc_S} {r} {z' : lc_S} (hf : fQ_two_105 x2 z = some (r, z')) : lc_hi z z' := by
  rw [fQ_two_105] at hf
  by_cases hc1 : (lcI z 80 45) = 0
  · replace hf := lc_ite_pos hc1 hf
    obtain ⟨r114, z114, hz114, hf⟩ := lc_bnd_some hf
    have gz114 : lc_hi z z114 := lc_hi.rf.tr (gQ_answer hz114)
    cases hf
    exact gz114
  · replace hf := lc_ite_neg hc1 hf
    cases hf
    exact lc_hi.rf
set_option maxHeartbeats 1000000 in
theorem gQ_two_176 {t1 : Int64} {z : lc_S} {r} {z' : lc_S} (hf : fQ_two_176 t1 z = some (r, z')) : lc_hi z z' := by
  rw [fQ_two_176] at hf
  obtain ⟨r176, z176, hz176, hf⟩ := lc_bnd_some hf
  have gz176 : lc_hi z z176 := lc_hi.rf.tr (gQ_plain hz176)
  obtain ⟨r179, z179, hz179, hf⟩ := lc_bnd_some hf
  have gz179 : lc_hi z z179 := gz176.tr (gQ_answer hz179)
  cases hf
  exact gz179
set_option maxHeartbeats 1000000 in
theorem gQ_two_50 {x1 : Int32} {x2 : Int64} {x4 : Int64} {t0 : Int32} {z : lc_S} {r} {z' : lc_S} (hf : fQ_two_50 x1 x2 x4 t0 z = some (r, z')) : lc_hi z z' := by
  rw [fQ_two_50] at hf
  by_cases hc1 : t0 = 0
  · replace hf := lc_ite_pos hc1 hf
    obtain ⟨r59, z59, hz59, hf⟩ := lc_bnd_some hf
    have gz59 : lc_hi z z59 := lc_hi.rf.tr (gQ_stop hz59)
    cases hf
    exact gz59
  · replace hf := lc_ite_neg hc1 hf
    obtain ⟨x65, ex65⟩ : ∃ x, x = x2.toInt32 := ⟨_, rfl⟩
    replace hf := lc_let_of ex65 hf
    obtain ⟨x70, ex70⟩ : ∃ x, x = x4.toInt32 := ⟨_, rfl⟩
    replace hf := lc_let_of ex70 hf
    by_cases hc2 : x1 = 112
    · replace hf := lc_ite_pos hc2 hf
      obtain ⟨hw3, hf⟩ := lc_chk_some hf
      by_cases hc4 : (lcI z 115 x65.toNatClampNeg) = 0
      · replace hf := lc_ite_pos hc4 hf
        obtain ⟨r90, z90, hz90, hf⟩ := lc_bnd_some hf
        have gz90 : lc_hi z z90 := lc_hi.rf.tr (gQ_stop hz90)
        exact gz90.tr (gQ_two_105 hf)
      · replace hf := lc_ite_neg hc4 hf
        obtain ⟨hw5, hf⟩ := lc_chk_some hf
        exact (lc_hi.rf.ui (by decide)).tr (gQ_two_105 hf)
    · replace hf := lc_ite_neg hc2 hf
      by_cases hc6 : x1 = 43
      · replace hf := lc_ite_pos hc6 hf
        exact lc_hi.rf.tr (gQ_two_176 hf)
      · replace hf := lc_ite_neg hc6 hf
        by_cases hc7 : x1 = 45
        · replace hf := lc_ite_pos hc7 hf
          exact lc_hi.rf.tr (gQ_two_176 hf)
        · replace hf := lc_ite_neg hc7 hf
          by_cases hc8 : x1 = 42
          · replace hf := lc_ite_pos hc8 hf
            exact lc_hi.rf.tr (gQ_two_176 hf)
          · replace hf := lc_ite_neg hc8 hf
            by_cases hc9 : x70 ≤ x65
            · replace hf := lc_ite_pos hc9 hf
              exact lc_hi.rf.tr (gQ_two_176 hf)
            · replace hf := lc_ite_neg hc9 hf
              exact lc_hi.rf.tr (gQ_two_176 hf)
set_option maxHeartbeats 1000000 in
theorem gQ_two_49 {x1 : Int32} {x2 : Int64} {x4 : Int64} {z : lc_S} {r} {z' : lc_S} (hf : fQ_two_49 x1 x2 x4 z = some (r, z')) : lc_hi z z' := by
  rw [fQ_two_49] at hf
  exact lc_hi.rf.tr (gQ_two_50 hf)
set_option maxHeartbeats 1000000 in
theorem gQ_two_37 {x1 : Int32} {x2 : Int64} {x4 : Int64} {z : lc_S} {r} {z' : lc_S} (hf : fQ_two_37 x1 x2 x4 z = some (r, z')) : lc_hi z z' := by
  rw [fQ_two_37] at hf
  obtain ⟨r39, z39, hz39, hf⟩ := lc_bnd_some hf
  have gz39 : lc_hi z z39 := lc_hi.rf.tr (gQ_isNumber hz39)
  by_cases hc1 : r39 = 0
  · replace hf := lc_ite_pos hc1 hf
    exact gz39.tr (gQ_two_49 hf)
  · replace hf := lc_ite_neg hc1 hf
    exact gz39.tr (gQ_two_50 hf)
set_option maxHeartbeats 1000000 in
theorem gQ_two {a1 : Int32} {a2 : Int64} {a4 : Int64} {z : lc_S} {r} {z' : lc_S} (hf : fQ_two a1 a2 a4 z = some (r, z')) : lc_hi z z' := by
  rw [fQ_two] at hf
  by_cases hc1 : a1 = 44
  · replace hf := lc_ite_pos hc1 hf
    obtain ⟨r10, z10, hz10, hf⟩ := lc_bnd_some hf
    have gz10 : lc_hi z z10 := lc_hi.rf.tr (gQ_pairUp hz10)
    cases hf
    exact gz10
  · replace hf := lc_ite_neg hc1 hf
    by_cases hc2 : a1 = 112
    · replace hf := lc_ite_pos hc2 hf
      obtain ⟨r21, z21, hz21, hf⟩ := lc_bnd_some hf
      have gz21 : lc_hi z z21 := lc_hi.rf.tr (gQ_isCell hz21)
      by_cases hc3 : r21 = 0
      · replace hf := lc_ite_pos hc3 hf
        exact gz21.tr (gQ_two_49 hf)
      · replace hf := lc_ite_neg hc3 hf
        exact gz21.tr (gQ_two_37 hf)
    · replace hf := lc_ite_neg hc2 hf
      obtain ⟨r31, z31, hz31, hf⟩ := lc_bnd_some hf
      have gz31 : lc_hi z z31 := lc_hi.rf.tr (gQ_isNumber hz31)
      by_cases hc4 : r31 = 0
      · replace hf := lc_ite_pos hc4 hf
        exact gz31.tr (gQ_two_49 hf)
      · replace hf := lc_ite_neg hc4 hf
        exact gz31.tr (gQ_two_37 hf)
set_option maxHeartbeats 1000000 in
theorem gQ_one_23 {z : lc_S} {r} {z' : lc_S} (hf : fQ_one_23 z = some (r, z')) : lc_hi z z' := by
  rw [fQ_one_23] at hf
  obtain ⟨r25, z25, hz25, hf⟩ := lc_bnd_some hf
  have gz25 : lc_hi z z25 := lc_hi.rf.tr (gQ_stop hz25)
  cases hf
  exact gz25
set_option maxHeartbeats 1000000 in
theorem gQ_one_65 {x4 : Int32} {x5 : Int32} {z : lc_S} {r} {z' : lc_S} (hf : fQ_one_65 x4 x5 z = some (r, z')) : lc_hi z z' := by
  rw [fQ_one_65] at hf
  by_cases hc1 : x5 = 12
  · replace hf := lc_ite_pos hc1 hf
    obtain ⟨r74, z74, hz74, hf⟩ := lc_bnd_some hf
    have gz74 : lc_hi z z74 := lc_hi.rf.tr (gQ_stop hz74)
    cases hf
    exact gz74
  · replace hf := lc_ite_neg hc1 hf
    obtain ⟨hw2, hf⟩ := lc_chk_some hf
    obtain ⟨hw3, hf⟩ := lc_chk_some hf
    obtain ⟨r113, z113, hz113, hf⟩ := lc_bnd_some hf
    have gz113 : lc_hi z z113 := (((lc_hi.rf.ui (by decide)).ui (by decide)).ui (by decide)).tr (gQ_answer hz113)
    cases hf
    exact gz113
set_option maxHeartbeats 1000000 in
theorem gQ_one_42 : ∀ {n : Nat} {x4 : Int32} {x5 : Int32} {z : lc_S} {r} {z' : lc_S}, fQ_one_42 n x4 x5 z = some (r, z') → lc_hi z z' := by
  intro n
  induction n with
  | zero =>
    intro x4 x5 z r z' hf
    cases (show none = some (r, z') from hf)
  | succ n ih =>
    intro x4 x5 z r z' hf
    rw [fQ_one_42] at hf
    by_cases hc1 : 12 ≤ x5
    · replace hf := lc_ite_pos hc1 hf
      exact lc_hi.rf.tr (gQ_one_65 hf)
    · replace hf := lc_ite_neg hc1 hf
      obtain ⟨hw2, hf⟩ := lc_chk_some hf
      by_cases hc3 : (lcI z 115 x5.toNatClampNeg) = 0
      · replace hf := lc_ite_pos hc3 hf
        exact lc_hi.rf.tr (gQ_one_65 hf)
      · replace hf := lc_ite_neg hc3 hf
        obtain ⟨x59, ex59⟩ : ∃ x, x = x5 + 1 := ⟨_, rfl⟩
        replace hf := lc_let_of ex59 hf
        exact lc_hi.rf.tr (ih hf)
set_option maxHeartbeats 1000000 in
theorem gQ_one_29 {x1 : Int32} {x2 : Int64} {z : lc_S} {r} {z' : lc_S} (hf : fQ_one_29 x1 x2 z = some (r, z')) : lc_hi z z' := by
  rw [fQ_one_29] at hf
  obtain ⟨x31, ex31⟩ : ∃ x, x = x2.toInt32 := ⟨_, rfl⟩
  replace hf := lc_let_of ex31 hf
  by_cases hc1 : x1 = 110
  · replace hf := lc_ite_pos hc1 hf
    exact lc_hi.rf.tr (gQ_one_42 hf)
  · replace hf := lc_ite_neg hc1 hf
    obtain ⟨hw2, hf⟩ := lc_chk_some hf
    by_cases hc3 : (lcI z 115 x31.toNatClampNeg) = 0
    · replace hf := lc_ite_pos hc3 hf
      obtain ⟨r131, z131, hz131, hf⟩ := lc_bnd_some hf
      have gz131 : lc_hi z z131 := lc_hi.rf.tr (gQ_stop hz131)
      cases hf
      exact gz131
    · replace hf := lc_ite_neg hc3 hf
      by_cases hc4 : x1 = 103
      · replace hf := lc_ite_pos hc4 hf
        obtain ⟨hw5, hf⟩ := lc_chk_some hf
        obtain ⟨r152, z152, hz152, hf⟩ := lc_bnd_some hf
        have gz152 : lc_hi z z152 := lc_hi.rf.tr (gQ_plain hz152)
        obtain ⟨r156, z156, hz156, hf⟩ := lc_bnd_some hf
        have gz156 : lc_hi z z156 := gz152.tr (gQ_pairUp hz156)
        cases hf
        exact gz156
      · replace hf := lc_ite_neg hc4 hf
        obtain ⟨hw6, hf⟩ := lc_chk_some hf
        obtain ⟨hw7, hf⟩ := lc_chk_some hf
        obtain ⟨r189, z189, hz189, hf⟩ := lc_bnd_some hf
        have gz189 : lc_hi z z189 := ((lc_hi.rf.ui (by decide)).ui (by decide)).tr (gQ_plain hz189)
        obtain ⟨r192, z192, hz192, hf⟩ := lc_bnd_some hf
        have gz192 : lc_hi z z192 := gz189.tr (gQ_answer hz192)
        cases hf
        exact gz192
set_option maxHeartbeats 1000000 in
theorem gQ_one {a1 : Int32} {a2 : Int64} {z : lc_S} {r} {z' : lc_S} (hf : fQ_one a1 a2 z = some (r, z')) : lc_hi z z' := by
  rw [fQ_one] at hf
  by_cases hc1 : a1 = 110
  · replace hf := lc_ite_pos hc1 hf
    obtain ⟨r7, z7, hz7, hf⟩ := lc_bnd_some hf
    have gz7 : lc_hi z z7 := lc_hi.rf.tr (gQ_isNumber hz7)
    by_cases hc2 : r7 = 0
    · replace hf := lc_ite_pos hc2 hf
      exact gz7.tr (gQ_one_23 hf)
    · replace hf := lc_ite_neg hc2 hf
      exact gz7.tr (gQ_one_29 hf)
  · replace hf := lc_ite_neg hc1 hf
    obtain ⟨r17, z17, hz17, hf⟩ := lc_bnd_some hf
    have gz17 : lc_hi z z17 := lc_hi.rf.tr (gQ_isCell hz17)
    by_cases hc3 : r17 = 0
    · replace hf := lc_ite_pos hc3 hf
      exact gz17.tr (gQ_one_23 hf)
    · replace hf := lc_ite_neg hc3 hf
      exact gz17.tr (gQ_one_29 hf)
set_option maxHeartbeats 1000000 in
theorem gQ_step_158 {x1 : Int32} {x2 : Int32} {x3 : Int32} {x4 : Int32} {z : lc_S} {r} {z' : lc_S} (hf : fQ_step_158 x1 x2 x3 x4 z = some (r, z')) : lc_hi z z' := by
  rw [fQ_step_158] at hf
  obtain ⟨r164, z164, hz164, hf⟩ := lc_bnd_some hf
  have gz164 : lc_hi z z164 := lc_hi.rf.tr (gQ_goOn hz164)
  cases hf
  exact gz164
set_option maxHeartbeats 1000000 in
theorem gQ_step_225 {x1 : Int32} {x2 : Int32} {x3 : Int32} {x4 : Int32} {z : lc_S} {r} {z' : lc_S} (hf : fQ_step_225 x1 x2 x3 x4 z = some (r, z')) : lc_hi z z' := by
  rw [fQ_step_225] at hf
  by_cases hc1 : x3 = 64
  · replace hf := lc_ite_pos hc1 hf
    obtain ⟨hw2, hf⟩ := lc_chk_some hf
    obtain ⟨r241, z241, hz241, hf⟩ := lc_bnd_some hf
    have gz241 : lc_hi z z241 := lc_hi.rf.tr (gQ_call hz241)
    cases hf
    exact gz241
  · replace hf := lc_ite_neg hc1 hf
    obtain ⟨r248, z248, hz248, hf⟩ := lc_bnd_some hf
    have gz248 : lc_hi z z248 := lc_hi.rf.tr (gQ_partsOf hz248)
    by_cases hc3 : r248 = 2
    · replace hf := lc_ite_pos hc3 hf
      obtain ⟨hw4, hf⟩ := lc_chk_some hf
      obtain ⟨r267, z267, hz267, hf⟩ := lc_bnd_some hf
      have gz267 : lc_hi z z267 := gz248.tr (gQ_two hz267)
      cases hf
      exact gz267
    · replace hf := lc_ite_neg hc3 hf
      obtain ⟨r279, z279, hz279, hf⟩ := lc_bnd_some hf
      have gz279 : lc_hi z z279 := gz248.tr (gQ_one hz279)
      cases hf
      exact gz279
set_option maxHeartbeats 1000000 in
theorem gQ_step {z : lc_S} {r} {z' : lc_S} (hf : fQ_step z = some (r, z')) : lc_hi z z' := by
  rw [fQ_step] at hf
  obtain ⟨x6, ex6⟩ : ∃ x, x = (lcI z 80 33) - 1 := ⟨_, rfl⟩
  replace hf := lc_let_of ex6 hf
  obtain ⟨hw1, hf⟩ := lc_chk_some hf
  obtain ⟨hw2, hf⟩ := lc_chk_some hf
  obtain ⟨x20, ex20⟩ : ∃ x, x = (lcI z 106 x6.toNatClampNeg) + (lcI z 105 x6.toNatClampNeg) := ⟨_, rfl⟩
  replace hf := lc_let_of ex20 hf
  obtain ⟨hw3, hf⟩ := lc_chk_some hf
  obtain ⟨x27, ex27⟩ : ∃ x, x = lcI z 82 x20.toNatClampNeg := ⟨_, rfl⟩
  replace hf := lc_let_of ex27 hf
  obtain ⟨hw4, hf⟩ := lc_chk_some hf
  obtain ⟨x34, ex34⟩ : ∃ x, x = lcI z 109 x6.toNatClampNeg := ⟨_, rfl⟩
  replace hf := lc_let_of ex34 hf
  obtain ⟨hw5, hf⟩ := lc_chk_some hf
  obtain ⟨hw6, hf⟩ := lc_chk_some hf
  by_cases hc7 : x27 = 48
  · replace hf := lc_ite_pos hc7 hf
    obtain ⟨hw8, hf⟩ := lc_chk_some hf
    obtain ⟨r60, z60, hz60, hf⟩ := lc_bnd_some hf
    have gz60 : lc_hi z z60 := (lc_hi.rf.ui (by decide)).tr (gQ_plain hz60)
    obtain ⟨r63, z63, hz63, hf⟩ := lc_bnd_some hf
    have gz63 : lc_hi z z63 := gz60.tr (gQ_answer hz63)
    cases hf
    exact gz63
  · replace hf := lc_ite_neg hc7 hf
    by_cases hc9 : x27 = 120
    · replace hf := lc_ite_pos hc9 hf
      obtain ⟨hw10, hf⟩ := lc_chk_some hf
      obtain ⟨hw11, hf⟩ := lc_chk_some hf
      obtain ⟨hw12, hf⟩ := lc_chk_some hf
      obtain ⟨r95, z95, hz95, hf⟩ := lc_bnd_some hf
      have gz95 : lc_hi z z95 := (lc_hi.rf.ui (by decide)).tr (gQ_lookUp hz95)
      obtain ⟨r98, z98, hz98, hf⟩ := lc_bnd_some hf
      have gz98 : lc_hi z z98 := gz95.tr (gQ_answer hz98)
      cases hf
      exact gz98
    · replace hf := lc_ite_neg hc9 hf
      by_cases hc13 : x34 = 0
      · replace hf := lc_ite_pos hc13 hf
        obtain ⟨hw14, hf⟩ := lc_chk_some hf
        obtain ⟨hw15, hf⟩ := lc_chk_some hf
        obtain ⟨hw16, hf⟩ := lc_chk_some hf
        obtain ⟨hw17, hf⟩ := lc_chk_some hf
        obtain ⟨r134, z134, hz134, hf⟩ := lc_bnd_some hf
        have gz134 : lc_hi z z134 := (lc_hi.rf.ui (by decide)).tr (gQ_enter hz134)
        cases hf
        exact gz134
      · replace hf := lc_ite_neg hc13 hf
        by_cases hc18 : x27 = 63
        · replace hf := lc_ite_pos hc18 hf
          exact (lc_hi.rf.ui (by decide)).tr (gQ_step_158 hf)
        · replace hf := lc_ite_neg hc18 hf
          by_cases hc19 : x27 = 58
          · replace hf := lc_ite_pos hc19 hf
            exact (lc_hi.rf.ui (by decide)).tr (gQ_step_158 hf)
          · replace hf := lc_ite_neg hc19 hf
            by_cases hc20 : x27 = 47
            · replace hf := lc_ite_pos hc20 hf
              exact (lc_hi.rf.ui (by decide)).tr (gQ_step_158 hf)
            · replace hf := lc_ite_neg hc20 hf
              obtain ⟨r171, z171, hz171, hf⟩ := lc_bnd_some hf
              have gz171 : lc_hi z z171 := (lc_hi.rf.ui (by decide)).tr (gQ_partsOf hz171)
              by_cases hc21 : r171 = 2
              · replace hf := lc_ite_pos hc21 hf
                by_cases hc22 : x34 = 1
                · replace hf := lc_ite_pos hc22 hf
                  obtain ⟨hw23, hf⟩ := lc_chk_some hf
                  obtain ⟨hw24, hf⟩ := lc_chk_some hf
                  obtain ⟨hw25, hf⟩ := lc_chk_some hf
                  obtain ⟨hw26, hf⟩ := lc_chk_some hf
                  obtain ⟨hw27, hf⟩ := lc_chk_some hf
                  obtain ⟨r219, z219, hz219, hf⟩ := lc_bnd_some hf
                  have gz219 : lc_hi z z219 := (gz171.ul (by decide)).tr (gQ_enter hz219)
                  cases hf
                  exact gz219
                · replace hf := lc_ite_neg hc22 hf
                  exact gz171.tr (gQ_step_225 hf)
              · replace hf := lc_ite_neg hc21 hf
                exact gz171.tr (gQ_step_225 hf)
set_option maxHeartbeats 1000000 in
theorem gQ_run_132 {z : lc_S} {r} {z' : lc_S} (hf : fQ_run_132 z = some (r, z')) : lc_hi z z' := by
  rw [fQ_run_132] at hf
  cases hf
  exact lc_hi.rf
set_option maxHeartbeats 1000000 in
theorem gQ_run_111 : ∀ {n : Nat} {z : lc_S} {r} {z' : lc_S}, fQ_run_111 n z = some (r, z') → lc_hi z z' := by
  intro n
  induction n with
  | zero =>
    intro z r z' hf
    cases (show none = some (r, z') from hf)
  | succ n ih =>
    intro z r z' hf
    rw [fQ_run_111] at hf
    by_cases hc1 : (lcI z 80 33) ≤ 0
    · replace hf := lc_ite_pos hc1 hf
      exact lc_hi.rf.tr (gQ_run_132 hf)
    · replace hf := lc_ite_neg hc1 hf
      by_cases hc2 : (lcI z 80 45) = 0
      · replace hf := lc_ite_pos hc2 hf
        obtain ⟨r126, z126, hz126, hf⟩ := lc_bnd_some hf
        have gz126 : lc_hi z z126 := lc_hi.rf.tr (gQ_step hz126)
        exact gz126.tr (ih hf)
      · replace hf := lc_ite_neg hc2 hf
        exact lc_hi.rf.tr (gQ_run_132 hf)
set_option maxHeartbeats 1000000 in
theorem gQ_run_68 : ∀ {n : Nat} {x1 : Int32} {x2 : Int32} {x3 : Int32} {z : lc_S} {r} {z' : lc_S}, fQ_run_68 n x1 x2 x3 z = some (r, z') → lc_hi z z' := by
  intro n
  induction n with
  | zero =>
    intro x1 x2 x3 z r z' hf
    cases (show none = some (r, z') from hf)
  | succ n ih =>
    intro x1 x2 x3 z r z' hf
    rw [fQ_run_68] at hf
    by_cases hc1 : 12 ≤ x3
    · replace hf := lc_ite_pos hc1 hf
      obtain ⟨r100, z100, hz100, hf⟩ := lc_bnd_some hf
      have gz100 : lc_hi z z100 := lc_hi.rf.tr (gQ_plain hz100)
      obtain ⟨r104, z104, hz104, hf⟩ := lc_bnd_some hf
      have gz104 : lc_hi z z104 := gz100.tr (gQ_withName hz104)
      obtain ⟨r108, z108, hz108, hf⟩ := lc_bnd_some hf
      have gz108 : lc_hi z z108 := gz104.tr (gQ_enter hz108)
      exact gz108.tr (gQ_run_111 hf)
    · replace hf := lc_ite_neg hc1 hf
      obtain ⟨hw2, hf⟩ := lc_chk_some hf
      obtain ⟨x81, ex81⟩ : ∃ x, x = x3 + 1 := ⟨_, rfl⟩
      replace hf := lc_let_of ex81 hf
      exact (lc_hi.rf.ui (by decide)).tr (ih hf)
set_option maxHeartbeats 1000000 in
theorem gQ_run_14 {x1 : Int32} {x2 : Int32} {t1 : Int32} {z : lc_S} {r} {z' : lc_S} (hf : fQ_run_14 x1 x2 t1 z = some (r, z')) : lc_hi z z' := by
  rw [fQ_run_14] at hf
  by_cases hc1 : (lcI (lcUI z 80 0 t1) 80 0) ≤ 0
  · replace hf := lc_ite_pos hc1 hf
    exact (((((((((lc_hi.rf.ui (by decide)).ui (by decide)).ui (by decide)).ui (by decide)).ui (by decide)).ui (by decide)).ui (by decide)).ui (by decide)).ui (by decide)).tr (gQ_run_68 hf)
  · replace hf := lc_ite_neg hc1 hf
    cases hf
    exact (lc_hi.rf.ui (by decide))
set_option maxHeartbeats 1000000 in
theorem gQ_run {a1 : Int32} {a2 : Int32} {z : lc_S} {r} {z' : lc_S} (hf : fQ_run a1 a2 z = some (r, z')) : lc_hi z z' := by
  rw [fQ_run] at hf
  obtain ⟨r3, z3, hz3, hf⟩ := lc_bnd_some hf
  have gz3 : lc_hi z z3 := lc_hi.rf.tr (gQ_isThere hz3)
  by_cases hc1 : r3 = 0
  · replace hf := lc_ite_pos hc1 hf
    exact gz3.tr (gQ_run_14 hf)
  · replace hf := lc_ite_neg hc1 hf
    exact gz3.tr (gQ_run_14 hf)
set_option maxHeartbeats 1000000 in
theorem gQ_hasValue_18 {z : lc_S} {r} {z' : lc_S} (hf : fQ_hasValue_18 z = some (r, z')) : lc_hi z z' := by
  rw [fQ_hasValue_18] at hf
  cases hf
  exact lc_hi.rf
set_option maxHeartbeats 1000000 in
theorem gQ_hasValue {z : lc_S} {r} {z' : lc_S} (hf : fQ_hasValue z = some (r, z')) : lc_hi z z' := by
  rw [fQ_hasValue] at hf
  by_cases hc1 : (lcI z 80 46) = 0
  · replace hf := lc_ite_pos hc1 hf
    exact lc_hi.rf.tr (gQ_hasValue_18 hf)
  · replace hf := lc_ite_neg hc1 hf
    by_cases hc2 : (lcI z 80 45) = 0
    · replace hf := lc_ite_pos hc2 hf
      cases hf
      exact lc_hi.rf
    · replace hf := lc_ite_neg hc2 hf
      exact lc_hi.rf.tr (gQ_hasValue_18 hf)
set_option maxHeartbeats 1000000 in
theorem gQ_in {a1 : Int64} {a3 : Int32} {z : lc_S} {r} {z' : lc_S} (hf : fQ_in a1 a3 z = some (r, z')) : lc_hi z z' := by
  rw [fQ_in] at hf
  by_cases hc1 : (lg_cmp a1 8589934592) < 0
  · replace hf := lc_ite_pos hc1 hf
    obtain ⟨r23, z23, hz23, hf⟩ := lc_bnd_some hf
    have gz23 : lc_hi z z23 := lc_hi.rf.tr (gQ_isNumber hz23)
    by_cases hc2 : r23 = a3
    · replace hf := lc_ite_pos hc2 hf
      cases hf
      exact gz23
    · replace hf := lc_ite_neg hc2 hf
      cases hf
      exact gz23
  · replace hf := lc_ite_neg hc1 hf
    obtain ⟨hw3, hf⟩ := lc_chk_some hf
    cases hf
    exact lc_hi.rf
set_option maxHeartbeats 1000000 in
theorem gQ_count_30 : ∀ {n : Nat} {x1 : Int32} {x2 : Int32} {z : lc_S} {r} {z' : lc_S}, fQ_count_30 n x1 x2 z = some (r, z') → lc_hi z z' := by
  intro n
  induction n with
  | zero =>
    intro x1 x2 z r z' hf
    cases (show none = some (r, z') from hf)
  | succ n ih =>
    intro x1 x2 z r z' hf
    rw [fQ_count_30] at hf
    by_cases hc1 : (lcI z 80 53) ≤ x2
    · replace hf := lc_ite_pos hc1 hf
      obtain ⟨hw2, hf⟩ := lc_chk_some hf
      cases hf
      exact lc_hi.rf
    · replace hf := lc_ite_neg hc1 hf
      obtain ⟨hw3, hf⟩ := lc_chk_some hf
      obtain ⟨r51, z51, hz51, hf⟩ := lc_bnd_some hf
      have gz51 : lc_hi z z51 := lc_hi.rf.tr (gQ_in hz51)
      obtain ⟨hw4, hf⟩ := lc_chk_some hf
      obtain ⟨r62, z62, hz62, hf⟩ := lc_bnd_some hf
      have gz62 : lc_hi z z62 := gz51.tr (gQ_in hz62)
      obtain ⟨hw5, hf⟩ := lc_chk_some hf
      obtain ⟨x67, ex67⟩ : ∃ x, x = x2 + 1 := ⟨_, rfl⟩
      replace hf := lc_let_of ex67 hf
      exact (gz62.ui (by decide)).tr (ih hf)
set_option maxHeartbeats 1000000 in
theorem gQ_count {a1 : Int32} {z : lc_S} {r} {z' : lc_S} (hf : fQ_count a1 z = some (r, z')) : lc_hi z z' := by
  rw [fQ_count] at hf
  by_cases hc1 : 0 ≤ (lg_cmp (lcL z 80 47) 8589934592)
  · replace hf := lc_ite_pos hc1 hf
    exact lc_hi.rf.tr (gQ_count_30 hf)
  · replace hf := lc_ite_neg hc1 hf
    obtain ⟨r15, z15, hz15, hf⟩ := lc_bnd_some hf
    have gz15 : lc_hi z z15 := lc_hi.rf.tr (gQ_isNumber hz15)
    by_cases hc2 : r15 = a1
    · replace hf := lc_ite_pos hc2 hf
      cases hf
      exact gz15
    · replace hf := lc_ite_neg hc2 hf
      cases hf
      exact gz15
set_option maxHeartbeats 1000000 in
theorem gQ_hasIn {a1 : Int64} {z : lc_S} {r} {z' : lc_S} (hf : fQ_hasIn a1 z = some (r, z')) : lc_hi z z' := by
  rw [fQ_hasIn] at hf
  by_cases hc1 : (lg_cmp a1 8589934592) < 0
  · replace hf := lc_ite_pos hc1 hf
    obtain ⟨r23, z23, hz23, hf⟩ := lc_bnd_some hf
    have gz23 : lc_hi z z23 := lc_hi.rf.tr (gQ_isNumber hz23)
    obtain ⟨hw2, hf⟩ := lc_chk_some hf
    cases hf
    exact gz23
  · replace hf := lc_ite_neg hc1 hf
    obtain ⟨hw3, hf⟩ := lc_chk_some hf
    obtain ⟨hw4, hf⟩ := lc_chk_some hf
    cases hf
    exact lc_hi.rf
set_option maxHeartbeats 1000000 in
theorem gQ_has_46 {k2 : Int64 → Int32 → lc_S → Option ((Int32) × lc_S)} (hk2 : ∀ {v0 : Int64} {v1 : Int32} {z : lc_S} {r} {z' : lc_S}, k2 v0 v1 z = some (r, z') → lc_hi z z') {x1 : Int64} {x3 : Int32} {t1 : Int32} {t2 : Int32} {z : lc_S} {r} {z' : lc_S} (hf : fQ_has_46 k2 x1 x3 t1 t2 z = some (r, z')) : lc_hi z z' := by
  rw [fQ_has_46] at hf
  obtain ⟨hw1, hf⟩ := lc_chk_some hf
  obtain ⟨hw2, hf⟩ := lc_chk_some hf
  obtain ⟨x47, ex47⟩ : ∃ x, x = x3 + 1 := ⟨_, rfl⟩
  replace hf := lc_let_of ex47 hf
  exact (lc_hi.rf.ui (by decide)).tr (hk2 hf)
set_option maxHeartbeats 1000000 in
theorem gQ_has_41 {k2 : Int64 → Int32 → lc_S → Option ((Int32) × lc_S)} (hk2 : ∀ {v0 : Int64} {v1 : Int32} {z : lc_S} {r} {z' : lc_S}, k2 v0 v1 z = some (r, z') → lc_hi z z') {x1 : Int64} {x3 : Int32} {t1 : Int32} {z : lc_S} {r} {z' : lc_S} (hf : fQ_has_41 k2 x1 x3 t1 z = some (r, z')) : lc_hi z z' := by
  rw [fQ_has_41] at hf
  exact lc_hi.rf.tr (gQ_has_46 (fun h => hk2 h) hf)
set_option maxHeartbeats 1000000 in
theorem gQ_has_2 : ∀ {n : Nat} {x1 : Int64} {x3 : Int32} {z : lc_S} {r} {z' : lc_S}, fQ_has_2 n x1 x3 z = some (r, z') → lc_hi z z' := by
  intro n
  induction n with
  | zero =>
    intro x1 x3 z r z' hf
    cases (show none = some (r, z') from hf)
  | succ n ih =>
    intro x1 x3 z r z' hf
    rw [fQ_has_2] at hf
    by_cases hc1 : (lcI z 80 53) ≤ x3
    · replace hf := lc_ite_pos hc1 hf
      obtain ⟨r55, z55, hz55, hf⟩ := lc_bnd_some hf
      have gz55 : lc_hi z z55 := lc_hi.rf.tr (gQ_hasIn hz55)
      obtain ⟨hw2, hf⟩ := lc_chk_some hf
      cases hf
      exact gz55
    · replace hf := lc_ite_neg hc1 hf
      obtain ⟨hw3, hf⟩ := lc_chk_some hf
      obtain ⟨r22, z22, hz22, hf⟩ := lc_bnd_some hf
      have gz22 : lc_hi z z22 := lc_hi.rf.tr (gQ_hasIn hz22)
      by_cases hc4 : r22 = 0
      · replace hf := lc_ite_pos hc4 hf
        obtain ⟨hw5, hf⟩ := lc_chk_some hf
        obtain ⟨r35, z35, hz35, hf⟩ := lc_bnd_some hf
        have gz35 : lc_hi z z35 := gz22.tr (gQ_hasIn hz35)
        by_cases hc6 : r35 = 0
        · replace hf := lc_ite_pos hc6 hf
          exact gz35.tr (gQ_has_46 (fun h => ih h) hf)
        · replace hf := lc_ite_neg hc6 hf
          exact gz35.tr (gQ_has_41 (fun h => ih h) hf)
      · replace hf := lc_ite_neg hc4 hf
        exact gz22.tr (gQ_has_41 (fun h => ih h) hf)
set_option maxHeartbeats 1000000 in
theorem gQ_has {a1 : Int64} {z : lc_S} {r} {z' : lc_S} (hf : fQ_has a1 z = some (r, z')) : lc_hi z z' := by
  rw [fQ_has] at hf
  exact lc_hi.rf.tr (gQ_has_2 hf)
set_option maxHeartbeats 1000000 in
theorem gQ_firstNumber_96 {k14 : Int64 → Int32 → lc_S → Option ((Int32) × lc_S)} (hk14 : ∀ {v0 : Int64} {v1 : Int32} {z : lc_S} {r} {z' : lc_S}, k14 v0 v1 z = some (r, z') → lc_hi z z') {x4 : Int32} {t0 : Int64} {z : lc_S} {r} {z' : lc_S} (hf : fQ_firstNumber_96 k14 x4 t0 z = some (r, z')) : lc_hi z z' := by
  rw [fQ_firstNumber_96] at hf
  exact lc_hi.rf.tr (hk14 hf)
set_option maxHeartbeats 1000000 in
theorem gQ_firstNumber_72 {k14 : Int64 → Int32 → lc_S → Option ((Int32) × lc_S)} (hk14 : ∀ {v0 : Int64} {v1 : Int32} {z : lc_S} {r} {z' : lc_S}, k14 v0 v1 z = some (r, z') → lc_hi z z') {x5 : Int32} {x6 : Int32} {t0 : Int32} {z : lc_S} {r} {z' : lc_S} (hf : fQ_firstNumber_72 k14 x5 x6 t0 z = some (r, z')) : lc_hi z z' := by
  rw [fQ_firstNumber_72] at hf
  by_cases hc1 : x6 = 0
  · replace hf := lc_ite_pos hc1 hf
    obtain ⟨hw2, hf⟩ := lc_chk_some hf
    exact lc_hi.rf.tr (gQ_firstNumber_96 (fun h => hk14 h) hf)
  · replace hf := lc_ite_neg hc1 hf
    obtain ⟨hw3, hf⟩ := lc_chk_some hf
    exact lc_hi.rf.tr (gQ_firstNumber_96 (fun h => hk14 h) hf)
set_option maxHeartbeats 1000000 in
theorem gQ_firstNumber_71 {k14 : Int64 → Int32 → lc_S → Option ((Int32) × lc_S)} (hk14 : ∀ {v0 : Int64} {v1 : Int32} {z : lc_S} {r} {z' : lc_S}, k14 v0 v1 z = some (r, z') → lc_hi z z') {x5 : Int32} {x6 : Int32} {z : lc_S} {r} {z' : lc_S} (hf : fQ_firstNumber_71 k14 x5 x6 z = some (r, z')) : lc_hi z z' := by
  rw [fQ_firstNumber_71] at hf
  exact lc_hi.rf.tr (gQ_firstNumber_72 (fun h => hk14 h) hf)
set_option maxHeartbeats 1000000 in
theorem gQ_firstNumber_112 {z : lc_S} {r} {z' : lc_S} (hf : fQ_firstNumber_112 z = some (r, z')) : lc_hi z z' := by
  rw [fQ_firstNumber_112] at hf
  cases hf
  exact lc_hi.rf
set_option maxHeartbeats 1000000 in
theorem gQ_firstNumber_100 {x2 : Int64} {x4 : Int32} {z : lc_S} {r} {z' : lc_S} (hf : fQ_firstNumber_100 x2 x4 z = some (r, z')) : lc_hi z z' := by
  rw [fQ_firstNumber_100] at hf
  by_cases hc1 : x4 = 0
  · replace hf := lc_ite_pos hc1 hf
    obtain ⟨r106, z106, hz106, hf⟩ := lc_bnd_some hf
    have gz106 : lc_hi z z106 := lc_hi.rf.tr (gQ_isNumber hz106)
    by_cases hc2 : r106 = 0
    · replace hf := lc_ite_pos hc2 hf
      exact gz106.tr (gQ_firstNumber_112 hf)
    · replace hf := lc_ite_neg hc2 hf
      cases hf
      exact gz106
  · replace hf := lc_ite_neg hc1 hf
    exact lc_hi.rf.tr (gQ_firstNumber_112 hf)
set_option maxHeartbeats 1000000 in
theorem gQ_firstNumber_14 : ∀ {n : Nat} {x2 : Int64} {x4 : Int32} {z : lc_S} {r} {z' : lc_S}, fQ_firstNumber_14 n x2 x4 z = some (r, z') → lc_hi z z' := by
  intro n
  induction n with
  | zero =>
    intro x2 x4 z r z' hf
    cases (show none = some (r, z') from hf)
  | succ n ih =>
    intro x2 x4 z r z' hf
    rw [fQ_firstNumber_14] at hf
    by_cases hc1 : (lg_cmp x2 8589934592) < 0
    · replace hf := lc_ite_pos hc1 hf
      exact lc_hi.rf.tr (gQ_firstNumber_100 hf)
    · replace hf := lc_ite_neg hc1 hf
      by_cases hc2 : x4 = 0
      · replace hf := lc_ite_pos hc2 hf
        obtain ⟨x33, ex33⟩ : ∃ x, x = (x2 - 8589934592).toInt32 := ⟨_, rfl⟩
        replace hf := lc_let_of ex33 hf
        obtain ⟨hw3, hf⟩ := lc_chk_some hf
        obtain ⟨r43, z43, hz43, hf⟩ := lc_bnd_some hf
        have gz43 : lc_hi z z43 := lc_hi.rf.tr (gQ_has hz43)
        by_cases hc4 : r43 = 0
        · replace hf := lc_ite_pos hc4 hf
          obtain ⟨hw5, hf⟩ := lc_chk_some hf
          obtain ⟨r61, z61, hz61, hf⟩ := lc_bnd_some hf
          have gz61 : lc_hi z z61 := gz43.tr (gQ_has hz61)
          by_cases hc6 : r61 = 0
          · replace hf := lc_ite_pos hc6 hf
            exact gz61.tr (gQ_firstNumber_72 (fun h => ih h) hf)
          · replace hf := lc_ite_neg hc6 hf
            exact gz61.tr (gQ_firstNumber_71 (fun h => ih h) hf)
        · replace hf := lc_ite_neg hc4 hf
          exact gz43.tr (gQ_firstNumber_71 (fun h => ih h) hf)
      · replace hf := lc_ite_neg hc2 hf
        exact lc_hi.rf.tr (gQ_firstNumber_100 hf)
set_option maxHeartbeats 1000000 in
theorem gQ_firstNumber {z : lc_S} {r} {z' : lc_S} (hf : fQ_firstNumber z = some (r, z')) : lc_hi z z' := by
  rw [fQ_firstNumber] at hf
  obtain ⟨r2, z2, hz2, hf⟩ := lc_bnd_some hf
  have gz2 : lc_hi z z2 := lc_hi.rf.tr (gQ_count hz2)
  obtain ⟨x10, ex10⟩ : ∃ x, x = lcL z2 80 47 := ⟨_, rfl⟩
  replace hf := lc_let_of ex10 hf
  exact gz2.tr (gQ_firstNumber_14 hf)
set_option maxHeartbeats 1000000 in
theorem gQ_value_32 {z : lc_S} {r} {z' : lc_S} (hf : fQ_value_32 z = some (r, z')) : lc_hi z z' := by
  rw [fQ_value_32] at hf
  cases hf
  exact lc_hi.rf
set_option maxHeartbeats 1000000 in
theorem gQ_value_15 {x1 : Int32} {t1 : Int32} {z : lc_S} {r} {z' : lc_S} (hf : fQ_value_15 x1 t1 z = some (r, z')) : lc_hi z z' := by
  rw [fQ_value_15] at hf
  by_cases hc1 : 0 < (lcI (lcUI z 80 0 t1) 80 0)
  · replace hf := lc_ite_pos hc1 hf
    exact (lc_hi.rf.ui (by decide)).tr (gQ_value_32 hf)
  · replace hf := lc_ite_neg hc1 hf
    obtain ⟨r26, z26, hz26, hf⟩ := lc_bnd_some hf
    have gz26 : lc_hi z z26 := (lc_hi.rf.ui (by decide)).tr (gQ_hasValue hz26)
    by_cases hc2 : r26 = 0
    · replace hf := lc_ite_pos hc2 hf
      exact gz26.tr (gQ_value_32 hf)
    · replace hf := lc_ite_neg hc2 hf
      by_cases hc3 : x1 = 0
      · replace hf := lc_ite_pos hc3 hf
        obtain ⟨r64, z64, hz64, hf⟩ := lc_bnd_some hf
        have gz64 : lc_hi z z64 := gz26.tr (gQ_isNumber hz64)
        by_cases hc4 : r64 = 0
        · replace hf := lc_ite_pos hc4 hf
          obtain ⟨r78, z78, hz78, hf⟩ := lc_bnd_some hf
          have gz78 : lc_hi z z78 := gz64.tr (gQ_isCell hz78)
          by_cases hc5 : r78 = 0
          · replace hf := lc_ite_pos hc5 hf
            cases hf
            exact gz78
          · replace hf := lc_ite_neg hc5 hf
            cases hf
            exact gz78
        · replace hf := lc_ite_neg hc4 hf
          cases hf
          exact gz64
      · replace hf := lc_ite_neg hc3 hf
        by_cases hc6 : x1 = 1
        · replace hf := lc_ite_pos hc6 hf
          by_cases hc7 : 0 ≤ (lg_cmp (lcL z26 80 47) 8589934592)
          · replace hf := lc_ite_pos hc7 hf
            obtain ⟨r110, z110, hz110, hf⟩ := lc_bnd_some hf
            have gz110 : lc_hi z z110 := gz26.tr (gQ_firstNumber hz110)
            cases hf
            exact gz110
          · replace hf := lc_ite_neg hc7 hf
            cases hf
            exact gz26
        · replace hf := lc_ite_neg hc6 hf
          by_cases hc8 : x1 = 2
          · replace hf := lc_ite_pos hc8 hf
            obtain ⟨r116, z116, hz116, hf⟩ := lc_bnd_some hf
            have gz116 : lc_hi z z116 := gz26.tr (gQ_count hz116)
            cases hf
            exact gz116
          · replace hf := lc_ite_neg hc8 hf
            obtain ⟨r122, z122, hz122, hf⟩ := lc_bnd_some hf
            have gz122 : lc_hi z z122 := gz26.tr (gQ_count hz122)
            cases hf
            exact gz122
set_option maxHeartbeats 1000000 in
theorem gQ_value_10 {x1 : Int32} {z : lc_S} {r} {z' : lc_S} (hf : fQ_value_10 x1 z = some (r, z')) : lc_hi z z' := by
  rw [fQ_value_10] at hf
  exact lc_hi.rf.tr (gQ_value_15 hf)
set_option maxHeartbeats 1000000 in
theorem gQ_value {a1 : Int32} {z : lc_S} {r} {z' : lc_S} (hf : fQ_value a1 z = some (r, z')) : lc_hi z z' := by
  rw [fQ_value] at hf
  by_cases hc1 : a1 < 0
  · replace hf := lc_ite_pos hc1 hf
    exact lc_hi.rf.tr (gQ_value_10 hf)
  · replace hf := lc_ite_neg hc1 hf
    by_cases hc2 : a1 ≤ 3
    · replace hf := lc_ite_pos hc2 hf
      exact lc_hi.rf.tr (gQ_value_15 hf)
    · replace hf := lc_ite_neg hc2 hf
      exact lc_hi.rf.tr (gQ_value_10 hf)
set_option maxHeartbeats 1000000 in
theorem gQ_heap_52 {k31 : Int32 → Int32 → Int32 → lc_S → Option ((Int32) × lc_S)} (hk31 : ∀ {v0 : Int32} {v1 : Int32} {v2 : Int32} {z : lc_S} {r} {z' : lc_S}, k31 v0 v1 v2 z = some (r, z') → lc_hi z z') {x1 : Int32} {x3 : Int32} {t0 : Int32} {t1 : Int32} {z : lc_S} {r} {z' : lc_S} (hf : fQ_heap_52 k31 x1 x3 t0 t1 z = some (r, z')) : lc_hi z z' := by
  rw [fQ_heap_52] at hf
  obtain ⟨x53, ex53⟩ : ∃ x, x = t0 + t1 := ⟨_, rfl⟩
  replace hf := lc_let_of ex53 hf
  obtain ⟨x54, ex54⟩ : ∃ x, x = x3 + 1 := ⟨_, rfl⟩
  replace hf := lc_let_of ex54 hf
  exact lc_hi.rf.tr (hk31 hf)
set_option maxHeartbeats 1000000 in
theorem gQ_heap_31 : ∀ {n : Nat} {x1 : Int32} {x2 : Int32} {x3 : Int32} {z : lc_S} {r} {z' : lc_S}, fQ_heap_31 n x1 x2 x3 z = some (r, z') → lc_hi z z' := by
  intro n
  induction n with
  | zero =>
    intro x1 x2 x3 z r z' hf
    cases (show none = some (r, z') from hf)
  | succ n ih =>
    intro x1 x2 x3 z r z' hf
    rw [fQ_heap_31] at hf
    by_cases hc1 : 12 ≤ x3
    · replace hf := lc_ite_pos hc1 hf
      by_cases hc2 : x1 = 0
      · replace hf := lc_ite_pos hc2 hf
        cases hf
        exact lc_hi.rf
      · replace hf := lc_ite_neg hc2 hf
        by_cases hc3 : x1 = 1
        · replace hf := lc_ite_pos hc3 hf
          cases hf
          exact lc_hi.rf
        · replace hf := lc_ite_neg hc3 hf
          by_cases hc4 : x1 = 2
          · replace hf := lc_ite_pos hc4 hf
            cases hf
            exact lc_hi.rf
          · replace hf := lc_ite_neg hc4 hf
            by_cases hc5 : x1 = 3
            · replace hf := lc_ite_pos hc5 hf
              cases hf
              exact lc_hi.rf
            · replace hf := lc_ite_neg hc5 hf
              cases hf
              exact lc_hi.rf
    · replace hf := lc_ite_neg hc1 hf
      obtain ⟨hw6, hf⟩ := lc_chk_some hf
      by_cases hc7 : (lcI z 115 x3.toNatClampNeg) = 0
      · replace hf := lc_ite_pos hc7 hf
        exact lc_hi.rf.tr (gQ_heap_52 (fun h => ih h) hf)
      · replace hf := lc_ite_neg hc7 hf
        exact lc_hi.rf.tr (gQ_heap_52 (fun h => ih h) hf)
