/-! checks, the reference -/
def lc_a4 (c k : Nat) : Bool := (Nat.beq c 80 && (Nat.beq k 0 || Nat.beq k 23 || Nat.beq k 25)) || (Nat.ble 97 c && Nat.ble c 104) || Nat.beq c 120 || Nat.beq c 121
set_option maxHeartbeats 1000000 in
theorem g4Q_isTwo_36 {z : lc_S} {r} {z' : lc_S} (hf : fQ_isTwo_36 z = some (r, z')) : lc_fr lc_a4 z z' := by
  rw [fQ_isTwo_36] at hf
  cases hf
  exact lc_fr.rf

set_option maxHeartbeats 1000000 in
theorem g4Q_isTwo {a0 : Int32} {z : lc_S} {r} {z' : lc_S} (hf : fQ_isTwo a0 z = some (r, z')) : lc_fr lc_a4 z z' := by
  rw [fQ_isTwo] at hf
  by_cases hc1 : a0 = 43
  · replace hf := lc_ite_pos hc1 hf
    exact lc_fr.rf.tr (g4Q_isTwo_36 hf)
  · replace hf := lc_ite_neg hc1 hf
    by_cases hc2 : a0 = 45
    · replace hf := lc_ite_pos hc2 hf
      exact lc_fr.rf.tr (g4Q_isTwo_36 hf)
    · replace hf := lc_ite_neg hc2 hf
      by_cases hc3 : a0 = 42
      · replace hf := lc_ite_pos hc3 hf
        exact lc_fr.rf.tr (g4Q_isTwo_36 hf)
      · replace hf := lc_ite_neg hc3 hf
        by_cases hc4 : a0 = 60
        · replace hf := lc_ite_pos hc4 hf
          exact lc_fr.rf.tr (g4Q_isTwo_36 hf)
        · replace hf := lc_ite_neg hc4 hf
          by_cases hc5 : a0 = 44
          · replace hf := lc_ite_pos hc5 hf
            exact lc_fr.rf.tr (g4Q_isTwo_36 hf)
          · replace hf := lc_ite_neg hc5 hf
            by_cases hc6 : a0 = 112
            · replace hf := lc_ite_pos hc6 hf
              exact lc_fr.rf.tr (g4Q_isTwo_36 hf)
            · replace hf := lc_ite_neg hc6 hf
              cases hf
              exact lc_fr.rf

set_option maxHeartbeats 1000000 in
theorem g4Q_partsOf_29 {z : lc_S} {r} {z' : lc_S} (hf : fQ_partsOf_29 z = some (r, z')) : lc_fr lc_a4 z z' := by
  rw [fQ_partsOf_29] at hf
  cases hf
  exact lc_fr.rf

set_option maxHeartbeats 1000000 in
theorem g4Q_partsOf_57 {z : lc_S} {r} {z' : lc_S} (hf : fQ_partsOf_57 z = some (r, z')) : lc_fr lc_a4 z z' := by
  rw [fQ_partsOf_57] at hf
  cases hf
  exact lc_fr.rf

set_option maxHeartbeats 1000000 in
theorem g4Q_partsOf {a0 : Int32} {z : lc_S} {r} {z' : lc_S} (hf : fQ_partsOf a0 z = some (r, z')) : lc_fr lc_a4 z z' := by
  rw [fQ_partsOf] at hf
  by_cases hc1 : a0 = 63
  · replace hf := lc_ite_pos hc1 hf
    cases hf
    exact lc_fr.rf
  · replace hf := lc_ite_neg hc1 hf
    obtain ⟨r11, z11, hz11, hf⟩ := lc_bnd_some hf
    have gz11 : lc_fr lc_a4 z z11 := lc_fr.rf.tr (g4Q_isTwo hz11)
    by_cases hc2 : r11 = 0
    · replace hf := lc_ite_pos hc2 hf
      by_cases hc3 : a0 = 58
      · replace hf := lc_ite_pos hc3 hf
        exact gz11.tr (g4Q_partsOf_29 hf)
      · replace hf := lc_ite_neg hc3 hf
        by_cases hc4 : a0 = 47
        · replace hf := lc_ite_pos hc4 hf
          exact gz11.tr (g4Q_partsOf_29 hf)
        · replace hf := lc_ite_neg hc4 hf
          by_cases hc5 : a0 = 110
          · replace hf := lc_ite_pos hc5 hf
            exact gz11.tr (g4Q_partsOf_57 hf)
          · replace hf := lc_ite_neg hc5 hf
            by_cases hc6 : a0 = 103
            · replace hf := lc_ite_pos hc6 hf
              exact gz11.tr (g4Q_partsOf_57 hf)
            · replace hf := lc_ite_neg hc6 hf
              by_cases hc7 : a0 = 100
              · replace hf := lc_ite_pos hc7 hf
                exact gz11.tr (g4Q_partsOf_57 hf)
              · replace hf := lc_ite_neg hc7 hf
                by_cases hc8 : a0 = 64
                · replace hf := lc_ite_pos hc8 hf
                  exact gz11.tr (g4Q_partsOf_57 hf)
                · replace hf := lc_ite_neg hc8 hf
                  cases hf
                  exact gz11
    · replace hf := lc_ite_neg hc2 hf
      exact gz11.tr (g4Q_partsOf_29 hf)

set_option maxHeartbeats 1000000 in
theorem g4Q_isThere_24 {z : lc_S} {r} {z' : lc_S} (hf : fQ_isThere_24 z = some (r, z')) : lc_fr lc_a4 z z' := by
  rw [fQ_isThere_24] at hf
  cases hf
  exact lc_fr.rf

set_option maxHeartbeats 1000000 in
theorem g4Q_isThere {a1 : Int32} {z : lc_S} {r} {z' : lc_S} (hf : fQ_isThere a1 z = some (r, z')) : lc_fr lc_a4 z z' := by
  rw [fQ_isThere] at hf
  by_cases hc1 : a1 < 0
  · replace hf := lc_ite_pos hc1 hf
    exact lc_fr.rf.tr (g4Q_isThere_24 hf)
  · replace hf := lc_ite_neg hc1 hf
    by_cases hc2 : 4 ≤ a1
    · replace hf := lc_ite_pos hc2 hf
      exact lc_fr.rf.tr (g4Q_isThere_24 hf)
    · replace hf := lc_ite_neg hc2 hf
      obtain ⟨hw3, hf⟩ := lc_chk_some hf
      by_cases hc4 : (lcI z 89 (a1 + 1).toNatClampNeg) ≤ 0
      · replace hf := lc_ite_pos hc4 hf
        exact lc_fr.rf.tr (g4Q_isThere_24 hf)
      · replace hf := lc_ite_neg hc4 hf
        cases hf
        exact lc_fr.rf

set_option maxHeartbeats 1000000 in
theorem g4Q_pairType_32 {k2 : Int32 → Int32 → Int32 → lc_S → Option ((Int32) × lc_S)} (hk2 : ∀ {v0 : Int32} {v1 : Int32} {v2 : Int32} {z : lc_S} {r} {z' : lc_S}, k2 v0 v1 v2 z = some (r, z') → lc_fr lc_a4 z z') {x1 : Int32} {x2 : Int32} {x3 : Int32} {z : lc_S} {r} {z' : lc_S} (hf : fQ_pairType_32 k2 x1 x2 x3 z = some (r, z')) : lc_fr lc_a4 z z' := by
  rw [fQ_pairType_32] at hf
  obtain ⟨x32, ex32⟩ : ∃ x, x = x3 + 1 := ⟨_, rfl⟩
  replace hf := lc_let_of ex32 hf
  exact lc_fr.rf.tr (hk2 hf)

set_option maxHeartbeats 1000000 in
theorem g4Q_pairType_2 : ∀ {n : Nat} {x1 : Int32} {x2 : Int32} {x3 : Int32} {z : lc_S} {r} {z' : lc_S}, fQ_pairType_2 n x1 x2 x3 z = some (r, z') → lc_fr lc_a4 z z' := by
  intro n
  induction n with
  | zero =>
    intro x1 x2 x3 z r z' hf
    cases (show none = some (r, z') from hf)
  | succ n ih =>
    intro x1 x2 x3 z r z' hf
    rw [fQ_pairType_2] at hf
    by_cases hc1 : (lcI z 80 25) ≤ x3
    · replace hf := lc_ite_pos hc1 hf
      obtain ⟨hw2, hf⟩ := lc_chk_some hf
      obtain ⟨hw3, hf⟩ := lc_chk_some hf
      cases hf
      exact (((lc_fr.rf.ui rfl).ui rfl).ui rfl)
    · replace hf := lc_ite_neg hc1 hf
      obtain ⟨hw4, hf⟩ := lc_chk_some hf
      by_cases hc5 : (lcI z 98 x3.toNatClampNeg) = x1
      · replace hf := lc_ite_pos hc5 hf
        obtain ⟨hw6, hf⟩ := lc_chk_some hf
        by_cases hc7 : (lcI z 99 x3.toNatClampNeg) = x2
        · replace hf := lc_ite_pos hc7 hf
          cases hf
          exact lc_fr.rf
        · replace hf := lc_ite_neg hc7 hf
          exact lc_fr.rf.tr (g4Q_pairType_32 (fun h => ih h) hf)
      · replace hf := lc_ite_neg hc5 hf
        exact lc_fr.rf.tr (g4Q_pairType_32 (fun h => ih h) hf)

set_option maxHeartbeats 1000000 in
theorem g4Q_pairType {a1 : Int32} {a2 : Int32} {z : lc_S} {r} {z' : lc_S} (hf : fQ_pairType a1 a2 z = some (r, z')) : lc_fr lc_a4 z z' := by
  rw [fQ_pairType] at hf
  exact lc_fr.rf.tr (g4Q_pairType_2 hf)

set_option maxHeartbeats 1000000 in
theorem g4Q_typeIn_125 {k26 : Nat → Int32 → Int32 → lc_S → Option ((Int32) × lc_S)} (hk26 : ∀ {v0 : Nat} {v1 : Int32} {v2 : Int32} {z : lc_S} {r} {z' : lc_S}, k26 v0 v1 v2 z = some (r, z') → lc_fr lc_a4 z z') {p1 : Nat} {x2 : Int32} {x4 : Int32} {z : lc_S} {r} {z' : lc_S} (hf : fQ_typeIn_125 k26 p1 x2 x4 z = some (r, z')) : lc_fr lc_a4 z z' := by
  rw [fQ_typeIn_125] at hf
  obtain ⟨x125, ex125⟩ : ∃ x, x = x4 + (-1) := ⟨_, rfl⟩
  replace hf := lc_let_of ex125 hf
  exact lc_fr.rf.tr (hk26 hf)

set_option maxHeartbeats 1000000 in
theorem g4Q_typeIn_114 {k26 : Nat → Int32 → Int32 → lc_S → Option ((Int32) × lc_S)} (hk26 : ∀ {v0 : Nat} {v1 : Int32} {v2 : Int32} {z : lc_S} {r} {z' : lc_S}, k26 v0 v1 v2 z = some (r, z') → lc_fr lc_a4 z z') {p1 : Nat} {x2 : Int32} {x4 : Int32} {t1 : Int32} {t2 : Int32} {z : lc_S} {r} {z' : lc_S} (hf : fQ_typeIn_114 k26 p1 x2 x4 t1 t2 z = some (r, z')) : lc_fr lc_a4 z z' := by
  rw [fQ_typeIn_114] at hf
  obtain ⟨hw1, hf⟩ := lc_chk_some hf
  exact ((lc_fr.rf.ui rfl).ui rfl).tr (g4Q_typeIn_125 (fun h => hk26 h) hf)

set_option maxHeartbeats 1000000 in
theorem g4Q_typeIn_26 : ∀ {n : Nat} {p1 : Nat} {x2 : Int32} {x4 : Int32} {z : lc_S} {r} {z' : lc_S}, fQ_typeIn_26 n p1 x2 x4 z = some (r, z') → lc_fr lc_a4 z z' := by
  intro n
  induction n with
  | zero =>
    intro p1 x2 x4 z r z' hf
    cases (show none = some (r, z') from hf)
  | succ n ih =>
    intro p1 x2 x4 z r z' hf
    rw [fQ_typeIn_26] at hf
    by_cases hc1 : x4 < 0
    · replace hf := lc_ite_pos hc1 hf
      cases hf
      exact lc_fr.rf
    · replace hf := lc_ite_neg hc1 hf
      obtain ⟨hw2, hf⟩ := lc_chk_some hf
      obtain ⟨hw3, hf⟩ := lc_chk_some hf
      obtain ⟨x37, ex37⟩ : ∃ x, x = lcI z p1 (x2 + x4).toNatClampNeg := ⟨_, rfl⟩
      replace hf := lc_let_of ex37 hf
      by_cases hc4 : x37 = 40
      · replace hf := lc_ite_pos hc4 hf
        obtain ⟨hw5, hf⟩ := lc_chk_some hf
        obtain ⟨hw6, hf⟩ := lc_chk_some hf
        obtain ⟨r87, z87, hz87, hf⟩ := lc_bnd_some hf
        have gz87 : lc_fr lc_a4 z z87 := (lc_fr.rf.ui rfl).tr (g4Q_pairType hz87)
        obtain ⟨hw7, hf⟩ := lc_chk_some hf
        exact (gz87.ui rfl).tr (g4Q_typeIn_125 (fun h => ih h) hf)
      · replace hf := lc_ite_neg hc4 hf
        by_cases hc8 : x37 = 105
        · replace hf := lc_ite_pos hc8 hf
          exact lc_fr.rf.tr (g4Q_typeIn_114 (fun h => ih h) hf)
        · replace hf := lc_ite_neg hc8 hf
          exact lc_fr.rf.tr (g4Q_typeIn_114 (fun h => ih h) hf)

set_option maxHeartbeats 1000000 in
theorem g4Q_typeIn_2 : ∀ {n : Nat} {p1 : Nat} {x2 : Int32} {x3 : Int32} {z : lc_S} {r} {z' : lc_S}, fQ_typeIn_2 n p1 x2 x3 z = some (r, z') → lc_fr lc_a4 z z' := by
  intro n
  induction n with
  | zero =>
    intro p1 x2 x3 z r z' hf
    cases (show none = some (r, z') from hf)
  | succ n ih =>
    intro p1 x2 x3 z r z' hf
    rw [fQ_typeIn_2] at hf
    obtain ⟨hw1, hf⟩ := lc_chk_some hf
    obtain ⟨hw2, hf⟩ := lc_chk_some hf
    by_cases hc3 : (lcI z p1 (x2 + x3).toNatClampNeg) = 0
    · replace hf := lc_ite_pos hc3 hf
      obtain ⟨x24, ex24⟩ : ∃ x, x = x3 - 1 := ⟨_, rfl⟩
      replace hf := lc_let_of ex24 hf
      exact (lc_fr.rf.ui rfl).tr (g4Q_typeIn_26 hf)
    · replace hf := lc_ite_neg hc3 hf
      obtain ⟨x10, ex10⟩ : ∃ x, x = x3 + 1 := ⟨_, rfl⟩
      replace hf := lc_let_of ex10 hf
      exact lc_fr.rf.tr (ih hf)

set_option maxHeartbeats 1000000 in
theorem g4Q_typeIn {a1 : Nat} {a2 : Int32} {z : lc_S} {r} {z' : lc_S} (hf : fQ_typeIn a1 a2 z = some (r, z')) : lc_fr lc_a4 z z' := by
  rw [fQ_typeIn] at hf
  exact lc_fr.rf.tr (g4Q_typeIn_2 hf)

set_option maxHeartbeats 1000000 in
theorem g4Q_isLinear_57 {k4 : Int32 → Int32 → lc_S → Option ((Int32) × lc_S)} (hk4 : ∀ {v0 : Int32} {v1 : Int32} {z : lc_S} {r} {z' : lc_S}, k4 v0 v1 z = some (r, z') → lc_fr lc_a4 z z') {x1 : Int32} {x3 : Int32} {t1 : Int32} {t2 : Int32} {z : lc_S} {r} {z' : lc_S} (hf : fQ_isLinear_57 k4 x1 x3 t1 t2 z = some (r, z')) : lc_fr lc_a4 z z' := by
  rw [fQ_isLinear_57] at hf
  obtain ⟨hw1, hf⟩ := lc_chk_some hf
  obtain ⟨hw2, hf⟩ := lc_chk_some hf
  obtain ⟨x58, ex58⟩ : ∃ x, x = x3 + 1 := ⟨_, rfl⟩
  replace hf := lc_let_of ex58 hf
  exact (lc_fr.rf.ui rfl).tr (hk4 hf)

set_option maxHeartbeats 1000000 in
theorem g4Q_isLinear_52 {k4 : Int32 → Int32 → lc_S → Option ((Int32) × lc_S)} (hk4 : ∀ {v0 : Int32} {v1 : Int32} {z : lc_S} {r} {z' : lc_S}, k4 v0 v1 z = some (r, z') → lc_fr lc_a4 z z') {x1 : Int32} {x3 : Int32} {t1 : Int32} {z : lc_S} {r} {z' : lc_S} (hf : fQ_isLinear_52 k4 x1 x3 t1 z = some (r, z')) : lc_fr lc_a4 z z' := by
  rw [fQ_isLinear_52] at hf
  exact lc_fr.rf.tr (g4Q_isLinear_57 (fun h => hk4 h) hf)

set_option maxHeartbeats 1000000 in
theorem g4Q_isLinear_56 {k4 : Int32 → Int32 → lc_S → Option ((Int32) × lc_S)} (hk4 : ∀ {v0 : Int32} {v1 : Int32} {z : lc_S} {r} {z' : lc_S}, k4 v0 v1 z = some (r, z') → lc_fr lc_a4 z z') {x1 : Int32} {x3 : Int32} {t1 : Int32} {z : lc_S} {r} {z' : lc_S} (hf : fQ_isLinear_56 k4 x1 x3 t1 z = some (r, z')) : lc_fr lc_a4 z z' := by
  rw [fQ_isLinear_56] at hf
  exact lc_fr.rf.tr (g4Q_isLinear_57 (fun h => hk4 h) hf)

set_option maxHeartbeats 1000000 in
theorem g4Q_isLinear_4 : ∀ {n : Nat} {x1 : Int32} {x3 : Int32} {z : lc_S} {r} {z' : lc_S}, fQ_isLinear_4 n x1 x3 z = some (r, z') → lc_fr lc_a4 z z' := by
  intro n
  induction n with
  | zero =>
    intro x1 x3 z r z' hf
    cases (show none = some (r, z') from hf)
  | succ n ih =>
    intro x1 x3 z r z' hf
    rw [fQ_isLinear_4] at hf
    by_cases hc1 : x1 < x3
    · replace hf := lc_ite_pos hc1 hf
      obtain ⟨hw2, hf⟩ := lc_chk_some hf
      obtain ⟨x70, ex70⟩ : ∃ x, x = lcI z 120 x1.toNatClampNeg := ⟨_, rfl⟩
      replace hf := lc_let_of ex70 hf
      obtain ⟨hw3, hf⟩ := lc_chk_some hf
      cases hf
      exact lc_fr.rf
    · replace hf := lc_ite_neg hc1 hf
      by_cases hc4 : x3 = 1
      · replace hf := lc_ite_pos hc4 hf
        exact lc_fr.rf.tr (g4Q_isLinear_52 (fun h => ih h) hf)
      · replace hf := lc_ite_neg hc4 hf
        by_cases hc5 : x3 ≤ 1
        · replace hf := lc_ite_pos hc5 hf
          exact lc_fr.rf.tr (g4Q_isLinear_56 (fun h => ih h) hf)
        · replace hf := lc_ite_neg hc5 hf
          obtain ⟨hw6, hf⟩ := lc_chk_some hf
          obtain ⟨hw7, hf⟩ := lc_chk_some hf
          by_cases hc8 : (lcI z 120 (lcI z 98 x3.toNatClampNeg).toNatClampNeg) = 0
          · replace hf := lc_ite_pos hc8 hf
            obtain ⟨hw9, hf⟩ := lc_chk_some hf
            obtain ⟨hw10, hf⟩ := lc_chk_some hf
            by_cases hc11 : (lcI z 120 (lcI z 99 x3.toNatClampNeg).toNatClampNeg) = 0
            · replace hf := lc_ite_pos hc11 hf
              exact lc_fr.rf.tr (g4Q_isLinear_56 (fun h => ih h) hf)
            · replace hf := lc_ite_neg hc11 hf
              exact lc_fr.rf.tr (g4Q_isLinear_52 (fun h => ih h) hf)
          · replace hf := lc_ite_neg hc8 hf
            exact lc_fr.rf.tr (g4Q_isLinear_52 (fun h => ih h) hf)

set_option maxHeartbeats 1000000 in
theorem g4Q_isLinear {a1 : Int32} {z : lc_S} {r} {z' : lc_S} (hf : fQ_isLinear a1 z = some (r, z')) : lc_fr lc_a4 z z' := by
  rw [fQ_isLinear] at hf
  exact lc_fr.rf.tr (g4Q_isLinear_4 hf)

set_option maxHeartbeats 1000000 in
theorem g4Q_bindingType_54 {x4 : Int32} {z : lc_S} {r} {z' : lc_S} (hf : fQ_bindingType_54 x4 z = some (r, z')) : lc_fr lc_a4 z z' := by
  rw [fQ_bindingType_54] at hf
  cases hf
  exact lc_fr.rf

set_option maxHeartbeats 1000000 in
theorem g4Q_bindingType {a1 : Int32} {a2 : Int32} {a3 : Int32} {z : lc_S} {r} {z' : lc_S} (hf : fQ_bindingType a1 a2 a3 z = some (r, z')) : lc_fr lc_a4 z z' := by
  rw [fQ_bindingType] at hf
  by_cases hc1 : 0 ≤ a2
  · replace hf := lc_ite_pos hc1 hf
    obtain ⟨hw2, hf⟩ := lc_chk_some hf
    obtain ⟨hw3, hf⟩ := lc_chk_some hf
    obtain ⟨x29, ex29⟩ : ∃ x, x = lcI z 100 (lcI z 84 ((120 * (a1 + 1)) + a2).toNatClampNeg).toNatClampNeg := ⟨_, rfl⟩
    replace hf := lc_let_of ex29 hf
    by_cases hc4 : x29 < 0
    · replace hf := lc_ite_pos hc4 hf
      exact lc_fr.rf.tr (g4Q_bindingType_54 hf)
    · replace hf := lc_ite_neg hc4 hf
      obtain ⟨hw5, hf⟩ := lc_chk_some hf
      by_cases hc6 : (lcI z 82 ((120 * (a1 + 1)) + a2).toNatClampNeg) = 58
      · replace hf := lc_ite_pos hc6 hf
        exact lc_fr.rf.tr (g4Q_bindingType_54 hf)
      · replace hf := lc_ite_neg hc6 hf
        by_cases hc7 : 2 ≤ x29
        · replace hf := lc_ite_pos hc7 hf
          by_cases hc8 : a3 = 0
          · replace hf := lc_ite_pos hc8 hf
            obtain ⟨hw9, hf⟩ := lc_chk_some hf
            cases hf
            exact lc_fr.rf
          · replace hf := lc_ite_neg hc8 hf
            obtain ⟨hw10, hf⟩ := lc_chk_some hf
            cases hf
            exact lc_fr.rf
        · replace hf := lc_ite_neg hc7 hf
          cases hf
          exact lc_fr.rf
  · replace hf := lc_ite_neg hc1 hf
    obtain ⟨hw11, hf⟩ := lc_chk_some hf
    cases hf
    exact lc_fr.rf

set_option maxHeartbeats 1000000 in
theorem g4Q_typeBy_135 {z : lc_S} {r} {z' : lc_S} (hf : fQ_typeBy_135 z = some (r, z')) : lc_fr lc_a4 z z' := by
  rw [fQ_typeBy_135] at hf
  cases hf
  exact lc_fr.rf

set_option maxHeartbeats 1000000 in
theorem g4Q_typeBy_152 {z : lc_S} {r} {z' : lc_S} (hf : fQ_typeBy_152 z = some (r, z')) : lc_fr lc_a4 z z' := by
  rw [fQ_typeBy_152] at hf
  cases hf
  exact lc_fr.rf

set_option maxHeartbeats 1000000 in
theorem g4Q_typeBy_424 {z : lc_S} {r} {z' : lc_S} (hf : fQ_typeBy_424 z = some (r, z')) : lc_fr lc_a4 z z' := by
  rw [fQ_typeBy_424] at hf
  cases hf
  exact lc_fr.rf

set_option maxHeartbeats 1000000 in
theorem g4Q_typeBy_367 {z : lc_S} {r} {z' : lc_S} (hf : fQ_typeBy_367 z = some (r, z')) : lc_fr lc_a4 z z' := by
  rw [fQ_typeBy_367] at hf
  cases hf
  exact lc_fr.rf

set_option maxHeartbeats 1000000 in
theorem g4Q_typeBy_297 {z : lc_S} {r} {z' : lc_S} (hf : fQ_typeBy_297 z = some (r, z')) : lc_fr lc_a4 z z' := by
  rw [fQ_typeBy_297] at hf
  cases hf
  exact lc_fr.rf

set_option maxHeartbeats 1000000 in
theorem g4Q_typeBy_278 {z : lc_S} {r} {z' : lc_S} (hf : fQ_typeBy_278 z = some (r, z')) : lc_fr lc_a4 z z' := by
  rw [fQ_typeBy_278] at hf
  cases hf
  exact lc_fr.rf

set_option maxHeartbeats 1000000 in
theorem g4Q_typeBy_264 {x6 : Int32} {x7 : Int32} {z : lc_S} {r} {z' : lc_S} (hf : fQ_typeBy_264 x6 x7 z = some (r, z')) : lc_fr lc_a4 z z' := by
  rw [fQ_typeBy_264] at hf
  by_cases hc1 : x6 = 0
  · replace hf := lc_ite_pos hc1 hf
    by_cases hc2 : x7 = 0
    · replace hf := lc_ite_pos hc2 hf
      cases hf
      exact lc_fr.rf
    · replace hf := lc_ite_neg hc2 hf
      exact lc_fr.rf.tr (g4Q_typeBy_278 hf)
  · replace hf := lc_ite_neg hc1 hf
    exact lc_fr.rf.tr (g4Q_typeBy_278 hf)

set_option maxHeartbeats 1000000 in
theorem g4Q_typeBy_115 {x3 : Int32} {x4 : Int32} {x6 : Int32} {x7 : Int32} {t0 : Int32} {z : lc_S} {r} {z' : lc_S} (hf : fQ_typeBy_115 x3 x4 x6 x7 t0 z = some (r, z')) : lc_fr lc_a4 z z' := by
  rw [fQ_typeBy_115] at hf
  by_cases hc1 : x6 = (-1)
  · replace hf := lc_ite_pos hc1 hf
    exact lc_fr.rf.tr (g4Q_typeBy_135 hf)
  · replace hf := lc_ite_neg hc1 hf
    by_cases hc2 : x7 = (-1)
    · replace hf := lc_ite_pos hc2 hf
      exact lc_fr.rf.tr (g4Q_typeBy_135 hf)
    · replace hf := lc_ite_neg hc2 hf
      by_cases hc3 : t0 = (-1)
      · replace hf := lc_ite_pos hc3 hf
        exact lc_fr.rf.tr (g4Q_typeBy_135 hf)
      · replace hf := lc_ite_neg hc3 hf
        by_cases hc4 : x6 < 0
        · replace hf := lc_ite_pos hc4 hf
          exact lc_fr.rf.tr (g4Q_typeBy_152 hf)
        · replace hf := lc_ite_neg hc4 hf
          by_cases hc5 : x7 < 0
          · replace hf := lc_ite_pos hc5 hf
            exact lc_fr.rf.tr (g4Q_typeBy_152 hf)
          · replace hf := lc_ite_neg hc5 hf
            by_cases hc6 : 0 ≤ t0
            · replace hf := lc_ite_pos hc6 hf
              by_cases hc7 : x4 = 42
              · replace hf := lc_ite_pos hc7 hf
                exact lc_fr.rf.tr (g4Q_typeBy_264 hf)
              · replace hf := lc_ite_neg hc7 hf
                by_cases hc8 : x4 = 43
                · replace hf := lc_ite_pos hc8 hf
                  exact lc_fr.rf.tr (g4Q_typeBy_264 hf)
                · replace hf := lc_ite_neg hc8 hf
                  by_cases hc9 : x4 = 44
                  · replace hf := lc_ite_pos hc9 hf
                    obtain ⟨r320, z320, hz320, hf⟩ := lc_bnd_some hf
                    have gz320 : lc_fr lc_a4 z z320 := lc_fr.rf.tr (g4Q_pairType hz320)
                    cases hf
                    exact gz320
                  · replace hf := lc_ite_neg hc9 hf
                    by_cases hc10 : x4 = 45
                    · replace hf := lc_ite_pos hc10 hf
                      exact lc_fr.rf.tr (g4Q_typeBy_264 hf)
                    · replace hf := lc_ite_neg hc10 hf
                      by_cases hc11 : x4 = 47
                      · replace hf := lc_ite_pos hc11 hf
                        by_cases hc12 : x6 ≤ 1
                        · replace hf := lc_ite_pos hc12 hf
                          cases hf
                          exact lc_fr.rf
                        · replace hf := lc_ite_neg hc12 hf
                          cases hf
                          exact lc_fr.rf
                      · replace hf := lc_ite_neg hc11 hf
                        by_cases hc13 : x4 = 58
                        · replace hf := lc_ite_pos hc13 hf
                          cases hf
                          exact lc_fr.rf
                        · replace hf := lc_ite_neg hc13 hf
                          by_cases hc14 : x4 = 60
                          · replace hf := lc_ite_pos hc14 hf
                            exact lc_fr.rf.tr (g4Q_typeBy_264 hf)
                          · replace hf := lc_ite_neg hc14 hf
                            by_cases hc15 : x4 = 63
                            · replace hf := lc_ite_pos hc15 hf
                              by_cases hc16 : x6 = 0
                              · replace hf := lc_ite_pos hc16 hf
                                by_cases hc17 : x7 = t0
                                · replace hf := lc_ite_pos hc17 hf
                                  cases hf
                                  exact lc_fr.rf
                                · replace hf := lc_ite_neg hc17 hf
                                  exact lc_fr.rf.tr (g4Q_typeBy_297 hf)
                              · replace hf := lc_ite_neg hc16 hf
                                exact lc_fr.rf.tr (g4Q_typeBy_297 hf)
                            · replace hf := lc_ite_neg hc15 hf
                              by_cases hc18 : x4 = 100
                              · replace hf := lc_ite_pos hc18 hf
                                by_cases hc19 : x6 = 1
                                · replace hf := lc_ite_pos hc19 hf
                                  cases hf
                                  exact lc_fr.rf
                                · replace hf := lc_ite_neg hc19 hf
                                  cases hf
                                  exact lc_fr.rf
                              · replace hf := lc_ite_neg hc18 hf
                                by_cases hc20 : x4 = 103
                                · replace hf := lc_ite_pos hc20 hf
                                  by_cases hc21 : x6 = 1
                                  · replace hf := lc_ite_pos hc21 hf
                                    obtain ⟨r344, z344, hz344, hf⟩ := lc_bnd_some hf
                                    have gz344 : lc_fr lc_a4 z z344 := lc_fr.rf.tr (g4Q_pairType hz344)
                                    cases hf
                                    exact gz344
                                  · replace hf := lc_ite_neg hc21 hf
                                    cases hf
                                    exact lc_fr.rf
                                · replace hf := lc_ite_neg hc20 hf
                                  by_cases hc22 : x4 = 110
                                  · replace hf := lc_ite_pos hc22 hf
                                    by_cases hc23 : x6 = 0
                                    · replace hf := lc_ite_pos hc23 hf
                                      cases hf
                                      exact lc_fr.rf
                                    · replace hf := lc_ite_neg hc23 hf
                                      cases hf
                                      exact lc_fr.rf
                                  · replace hf := lc_ite_neg hc22 hf
                                    by_cases hc24 : x4 = 112
                                    · replace hf := lc_ite_pos hc24 hf
                                      by_cases hc25 : x6 = 1
                                      · replace hf := lc_ite_pos hc25 hf
                                        by_cases hc26 : x7 = 0
                                        · replace hf := lc_ite_pos hc26 hf
                                          cases hf
                                          exact lc_fr.rf
                                        · replace hf := lc_ite_neg hc26 hf
                                          exact lc_fr.rf.tr (g4Q_typeBy_367 hf)
                                      · replace hf := lc_ite_neg hc25 hf
                                        exact lc_fr.rf.tr (g4Q_typeBy_367 hf)
                                    · replace hf := lc_ite_neg hc24 hf
                                      obtain ⟨hw27, hf⟩ := lc_chk_some hf
                                      obtain ⟨r388, z388, hz388, hf⟩ := lc_bnd_some hf
                                      have gz388 : lc_fr lc_a4 z z388 := lc_fr.rf.tr (g4Q_isThere hz388)
                                      by_cases hc28 : r388 = 0
                                      · replace hf := lc_ite_pos hc28 hf
                                        exact gz388.tr (g4Q_typeBy_424 hf)
                                      · replace hf := lc_ite_neg hc28 hf
                                        obtain ⟨hw29, hf⟩ := lc_chk_some hf
                                        obtain ⟨hw30, hf⟩ := lc_chk_some hf
                                        by_cases hc31 : x6 = (lcI z388 101 (lcI z388 83 x3.toNatClampNeg).toNatClampNeg)
                                        · replace hf := lc_ite_pos hc31 hf
                                          obtain ⟨hw32, hf⟩ := lc_chk_some hf
                                          obtain ⟨hw33, hf⟩ := lc_chk_some hf
                                          cases hf
                                          exact gz388
                                        · replace hf := lc_ite_neg hc31 hf
                                          exact gz388.tr (g4Q_typeBy_424 hf)
            · replace hf := lc_ite_neg hc6 hf
              exact lc_fr.rf.tr (g4Q_typeBy_152 hf)

set_option maxHeartbeats 1000000 in
theorem g4Q_typeBy_92 {x3 : Int32} {x4 : Int32} {x5 : Int32} {x6 : Int32} {t0 : Int32} {z : lc_S} {r} {z' : lc_S} (hf : fQ_typeBy_92 x3 x4 x5 x6 t0 z = some (r, z')) : lc_fr lc_a4 z z' := by
  rw [fQ_typeBy_92] at hf
  by_cases hc1 : x5 ≤ 2
  · replace hf := lc_ite_pos hc1 hf
    exact lc_fr.rf.tr (g4Q_typeBy_115 hf)
  · replace hf := lc_ite_neg hc1 hf
    obtain ⟨hw2, hf⟩ := lc_chk_some hf
    obtain ⟨hw3, hf⟩ := lc_chk_some hf
    exact lc_fr.rf.tr (g4Q_typeBy_115 hf)

set_option maxHeartbeats 1000000 in
theorem g4Q_typeBy {a1 : Int32} {a2 : Int32} {z : lc_S} {r} {z' : lc_S} (hf : fQ_typeBy a1 a2 z = some (r, z')) : lc_fr lc_a4 z z' := by
  rw [fQ_typeBy] at hf
  obtain ⟨x8, ex8⟩ : ∃ x, x = (120 * (a1 + 1)) + a2 := ⟨_, rfl⟩
  replace hf := lc_let_of ex8 hf
  obtain ⟨hw1, hf⟩ := lc_chk_some hf
  obtain ⟨x15, ex15⟩ : ∃ x, x = lcI z 82 x8.toNatClampNeg := ⟨_, rfl⟩
  replace hf := lc_let_of ex15 hf
  by_cases hc2 : x15 = 48
  · replace hf := lc_ite_pos hc2 hf
    cases hf
    exact lc_fr.rf
  · replace hf := lc_ite_neg hc2 hf
    by_cases hc3 : x15 = 120
    · replace hf := lc_ite_pos hc3 hf
      obtain ⟨hw4, hf⟩ := lc_chk_some hf
      obtain ⟨hw5, hf⟩ := lc_chk_some hf
      obtain ⟨r47, z47, hz47, hf⟩ := lc_bnd_some hf
      have gz47 : lc_fr lc_a4 z z47 := lc_fr.rf.tr (g4Q_bindingType hz47)
      cases hf
      exact gz47
    · replace hf := lc_ite_neg hc3 hf
      obtain ⟨r53, z53, hz53, hf⟩ := lc_bnd_some hf
      have gz53 : lc_fr lc_a4 z z53 := lc_fr.rf.tr (g4Q_partsOf hz53)
      obtain ⟨hw6, hf⟩ := lc_chk_some hf
      obtain ⟨hw7, hf⟩ := lc_chk_some hf
      obtain ⟨x69, ex69⟩ : ∃ x, x = lcI z53 100 (lcI z53 84 x8.toNatClampNeg).toNatClampNeg := ⟨_, rfl⟩
      replace hf := lc_let_of ex69 hf
      by_cases hc8 : r53 ≤ 1
      · replace hf := lc_ite_pos hc8 hf
        exact gz53.tr (g4Q_typeBy_92 hf)
      · replace hf := lc_ite_neg hc8 hf
        obtain ⟨hw9, hf⟩ := lc_chk_some hf
        obtain ⟨hw10, hf⟩ := lc_chk_some hf
        exact gz53.tr (g4Q_typeBy_92 hf)

set_option maxHeartbeats 1000000 in
theorem g4Q_find_63 {k7 : Int32 → Int32 → lc_S → Option ((Int32) × lc_S)} (hk7 : ∀ {v0 : Int32} {v1 : Int32} {z : lc_S} {r} {z' : lc_S}, k7 v0 v1 z = some (r, z') → lc_fr lc_a4 z z') {x1 : Int32} {x2 : Int32} {z : lc_S} {r} {z' : lc_S} (hf : fQ_find_63 k7 x1 x2 z = some (r, z')) : lc_fr lc_a4 z z' := by
  rw [fQ_find_63] at hf
  obtain ⟨x63, ex63⟩ : ∃ x, x = x2 + 1 := ⟨_, rfl⟩
  replace hf := lc_let_of ex63 hf
  exact lc_fr.rf.tr (hk7 hf)

set_option maxHeartbeats 1000000 in
theorem g4Q_find_168 {k101 : Int32 → Int32 → Int32 → lc_S → Option ((Int32) × lc_S)} (hk101 : ∀ {v0 : Int32} {v1 : Int32} {v2 : Int32} {z : lc_S} {r} {z' : lc_S}, k101 v0 v1 v2 z = some (r, z') → lc_fr lc_a4 z z') {k112 : Int32 → Int32 → Int32 → Int32 → lc_S → Option ((Int32) × lc_S)} (hk112 : ∀ {v0 : Int32} {v1 : Int32} {v2 : Int32} {v3 : Int32} {z : lc_S} {r} {z' : lc_S}, k112 v0 v1 v2 v3 z = some (r, z') → lc_fr lc_a4 z z') {x1 : Int32} {x2 : Int32} {x3 : Int32} {x4 : Int32} {z : lc_S} {r} {z' : lc_S} (hf : fQ_find_168 k101 k112 x1 x2 x3 x4 z = some (r, z')) : lc_fr lc_a4 z z' := by
  rw [fQ_find_168] at hf
  obtain ⟨x168, ex168⟩ : ∃ x, x = x4 + (-1) := ⟨_, rfl⟩
  replace hf := lc_let_of ex168 hf
  exact lc_fr.rf.tr (hk112 hf)

set_option maxHeartbeats 1000000 in
theorem g4Q_find_167 {k101 : Int32 → Int32 → Int32 → lc_S → Option ((Int32) × lc_S)} (hk101 : ∀ {v0 : Int32} {v1 : Int32} {v2 : Int32} {z : lc_S} {r} {z' : lc_S}, k101 v0 v1 v2 z = some (r, z') → lc_fr lc_a4 z z') {k112 : Int32 → Int32 → Int32 → Int32 → lc_S → Option ((Int32) × lc_S)} (hk112 : ∀ {v0 : Int32} {v1 : Int32} {v2 : Int32} {v3 : Int32} {z : lc_S} {r} {z' : lc_S}, k112 v0 v1 v2 v3 z = some (r, z') → lc_fr lc_a4 z z') {x1 : Int32} {x2 : Int32} {x4 : Int32} {t0 : Int32} {z : lc_S} {r} {z' : lc_S} (hf : fQ_find_167 k101 k112 x1 x2 x4 t0 z = some (r, z')) : lc_fr lc_a4 z z' := by
  rw [fQ_find_167] at hf
  exact lc_fr.rf.tr (g4Q_find_168 (fun h => hk101 h) (fun h => hk112 h) hf)

set_option maxHeartbeats 1000000 in
theorem g4Q_find_162 {k101 : Int32 → Int32 → Int32 → lc_S → Option ((Int32) × lc_S)} (hk101 : ∀ {v0 : Int32} {v1 : Int32} {v2 : Int32} {z : lc_S} {r} {z' : lc_S}, k101 v0 v1 v2 z = some (r, z') → lc_fr lc_a4 z z') {k112 : Int32 → Int32 → Int32 → Int32 → lc_S → Option ((Int32) × lc_S)} (hk112 : ∀ {v0 : Int32} {v1 : Int32} {v2 : Int32} {v3 : Int32} {z : lc_S} {r} {z' : lc_S}, k112 v0 v1 v2 v3 z = some (r, z') → lc_fr lc_a4 z z') {x1 : Int32} {x2 : Int32} {x4 : Int32} {z : lc_S} {r} {z' : lc_S} (hf : fQ_find_162 k101 k112 x1 x2 x4 z = some (r, z')) : lc_fr lc_a4 z z' := by
  rw [fQ_find_162] at hf
  exact lc_fr.rf.tr (g4Q_find_167 (fun h => hk101 h) (fun h => hk112 h) hf)

set_option maxHeartbeats 1000000 in
theorem g4Q_find_112 {k101 : Int32 → Int32 → Int32 → lc_S → Option ((Int32) × lc_S)} (hk101 : ∀ {v0 : Int32} {v1 : Int32} {v2 : Int32} {z : lc_S} {r} {z' : lc_S}, k101 v0 v1 v2 z = some (r, z') → lc_fr lc_a4 z z') : ∀ {n : Nat} {x1 : Int32} {x2 : Int32} {x3 : Int32} {x4 : Int32} {z : lc_S} {r} {z' : lc_S}, fQ_find_112 k101 n x1 x2 x3 x4 z = some (r, z') → lc_fr lc_a4 z z' := by
  intro n
  induction n with
  | zero =>
    intro x1 x2 x3 x4 z r z' hf
    cases (show none = some (r, z') from hf)
  | succ n ih =>
    intro x1 x2 x3 x4 z r z' hf
    rw [fQ_find_112] at hf
    by_cases hc1 : x4 < 0
    · replace hf := lc_ite_pos hc1 hf
      exact lc_fr.rf.tr (hk101 hf)
    · replace hf := lc_ite_neg hc1 hf
      obtain ⟨hw2, hf⟩ := lc_chk_some hf
      by_cases hc3 : (lcI z 100 x4.toNatClampNeg) = (-2)
      · replace hf := lc_ite_pos hc3 hf
        obtain ⟨r142, z142, hz142, hf⟩ := lc_bnd_some hf
        have gz142 : lc_fr lc_a4 z z142 := lc_fr.rf.tr (g4Q_typeBy hz142)
        obtain ⟨hw4, hf⟩ := lc_chk_some hf
        by_cases hc5 : x3 = 0
        · replace hf := lc_ite_pos hc5 hf
          obtain ⟨hw6, hf⟩ := lc_chk_some hf
          by_cases hc7 : (lcI (lcUI z142 100 x4.toNatClampNeg r142) 100 x4.toNatClampNeg) = (-2)
          · replace hf := lc_ite_pos hc7 hf
            exact (gz142.ui rfl).tr (g4Q_find_167 (fun h => hk101 h) (fun h => ih h) hf)
          · replace hf := lc_ite_neg hc7 hf
            exact (gz142.ui rfl).tr (g4Q_find_162 (fun h => hk101 h) (fun h => ih h) hf)
        · replace hf := lc_ite_neg hc5 hf
          exact (gz142.ui rfl).tr (g4Q_find_162 (fun h => hk101 h) (fun h => ih h) hf)
      · replace hf := lc_ite_neg hc3 hf
        exact lc_fr.rf.tr (g4Q_find_168 (fun h => hk101 h) (fun h => ih h) hf)

set_option maxHeartbeats 1000000 in
theorem g4Q_find_209 {k183 : Int32 → Int32 → Int32 → lc_S → Option ((Int32) × lc_S)} (hk183 : ∀ {v0 : Int32} {v1 : Int32} {v2 : Int32} {z : lc_S} {r} {z' : lc_S}, k183 v0 v1 v2 z = some (r, z') → lc_fr lc_a4 z z') {x2 : Int32} {x5 : Int32} {t0 : Int32} {z : lc_S} {r} {z' : lc_S} (hf : fQ_find_209 k183 x2 x5 t0 z = some (r, z')) : lc_fr lc_a4 z z' := by
  rw [fQ_find_209] at hf
  obtain ⟨x211, ex211⟩ : ∃ x, x = x5 + 1 := ⟨_, rfl⟩
  replace hf := lc_let_of ex211 hf
  exact lc_fr.rf.tr (hk183 hf)

set_option maxHeartbeats 1000000 in
theorem g4Q_find_208 {k183 : Int32 → Int32 → Int32 → lc_S → Option ((Int32) × lc_S)} (hk183 : ∀ {v0 : Int32} {v1 : Int32} {v2 : Int32} {z : lc_S} {r} {z' : lc_S}, k183 v0 v1 v2 z = some (r, z') → lc_fr lc_a4 z z') {x2 : Int32} {x5 : Int32} {z : lc_S} {r} {z' : lc_S} (hf : fQ_find_208 k183 x2 x5 z = some (r, z')) : lc_fr lc_a4 z z' := by
  rw [fQ_find_208] at hf
  exact lc_fr.rf.tr (g4Q_find_209 (fun h => hk183 h) hf)

set_option maxHeartbeats 1000000 in
theorem g4Q_find_183 : ∀ {n : Nat} {x2 : Int32} {x4 : Int32} {x5 : Int32} {z : lc_S} {r} {z' : lc_S}, fQ_find_183 n x2 x4 x5 z = some (r, z') → lc_fr lc_a4 z z' := by
  intro n
  induction n with
  | zero =>
    intro x2 x4 x5 z r z' hf
    cases (show none = some (r, z') from hf)
  | succ n ih =>
    intro x2 x4 x5 z r z' hf
    rw [fQ_find_183] at hf
    by_cases hc1 : x2 ≤ x5
    · replace hf := lc_ite_pos hc1 hf
      obtain ⟨hw2, hf⟩ := lc_chk_some hf
      cases hf
      exact lc_fr.rf
    · replace hf := lc_ite_neg hc1 hf
      by_cases hc3 : x4 = 0
      · replace hf := lc_ite_pos hc3 hf
        exact lc_fr.rf.tr (g4Q_find_208 (fun h => ih h) hf)
      · replace hf := lc_ite_neg hc3 hf
        obtain ⟨hw4, hf⟩ := lc_chk_some hf
        by_cases hc5 : (lcI z 100 x5.toNatClampNeg) < 0
        · replace hf := lc_ite_pos hc5 hf
          exact lc_fr.rf.tr (g4Q_find_208 (fun h => ih h) hf)
        · replace hf := lc_ite_neg hc5 hf
          exact lc_fr.rf.tr (g4Q_find_209 (fun h => ih h) hf)

set_option maxHeartbeats 1000000 in
theorem g4Q_find_101 : ∀ {n : Nat} {x1 : Int32} {x2 : Int32} {x3 : Int32} {z : lc_S} {r} {z' : lc_S}, fQ_find_101 n x1 x2 x3 z = some (r, z') → lc_fr lc_a4 z z' := by
  intro n
  induction n with
  | zero =>
    intro x1 x2 x3 z r z' hf
    cases (show none = some (r, z') from hf)
  | succ n ih =>
    intro x1 x2 x3 z r z' hf
    rw [fQ_find_101] at hf
    by_cases hc1 : x3 = 0
    · replace hf := lc_ite_pos hc1 hf
      exact lc_fr.rf.tr (g4Q_find_183 hf)
    · replace hf := lc_ite_neg hc1 hf
      obtain ⟨x110, ex110⟩ : ∃ x, x = x2 - 1 := ⟨_, rfl⟩
      replace hf := lc_let_of ex110 hf
      exact lc_fr.rf.tr (g4Q_find_112 (fun h => ih h) hf)

set_option maxHeartbeats 1000000 in
theorem g4Q_find_80 : ∀ {n : Nat} {x1 : Int32} {x2 : Int32} {x3 : Int32} {z : lc_S} {r} {z' : lc_S}, fQ_find_80 n x1 x2 x3 z = some (r, z') → lc_fr lc_a4 z z' := by
  intro n
  induction n with
  | zero =>
    intro x1 x2 x3 z r z' hf
    cases (show none = some (r, z') from hf)
  | succ n ih =>
    intro x1 x2 x3 z r z' hf
    rw [fQ_find_80] at hf
    by_cases hc1 : x2 ≤ x3
    · replace hf := lc_ite_pos hc1 hf
      exact lc_fr.rf.tr (g4Q_find_101 hf)
    · replace hf := lc_ite_neg hc1 hf
      obtain ⟨hw2, hf⟩ := lc_chk_some hf
      obtain ⟨x93, ex93⟩ : ∃ x, x = x3 + 1 := ⟨_, rfl⟩
      replace hf := lc_let_of ex93 hf
      exact (lc_fr.rf.ui rfl).tr (ih hf)

set_option maxHeartbeats 1000000 in
theorem g4Q_find_7 : ∀ {n : Nat} {x1 : Int32} {x2 : Int32} {z : lc_S} {r} {z' : lc_S}, fQ_find_7 n x1 x2 z = some (r, z') → lc_fr lc_a4 z z' := by
  intro n
  induction n with
  | zero =>
    intro x1 x2 z r z' hf
    cases (show none = some (r, z') from hf)
  | succ n ih =>
    intro x1 x2 z r z' hf
    rw [fQ_find_7] at hf
    by_cases hc1 : 4 ≤ x2
    · replace hf := lc_ite_pos hc1 hf
      obtain ⟨hw2, hf⟩ := lc_chk_some hf
      obtain ⟨x77, ex77⟩ : ∃ x, x = lcI z 89 (x1 + 1).toNatClampNeg := ⟨_, rfl⟩
      replace hf := lc_let_of ex77 hf
      exact lc_fr.rf.tr (g4Q_find_80 hf)
    · replace hf := lc_ite_neg hc1 hf
      obtain ⟨r14, z14, hz14, hf⟩ := lc_bnd_some hf
      have gz14 : lc_fr lc_a4 z z14 := lc_fr.rf.tr (g4Q_isThere hz14)
      by_cases hc3 : r14 = 0
      · replace hf := lc_ite_pos hc3 hf
        exact gz14.tr (g4Q_find_63 (fun h => ih h) hf)
      · replace hf := lc_ite_neg hc3 hf
        obtain ⟨r39, z39, hz39, hf⟩ := lc_bnd_some hf
        have gz39 : lc_fr lc_a4 z z39 := gz14.tr (g4Q_typeIn hz39)
        obtain ⟨hw4, hf⟩ := lc_chk_some hf
        obtain ⟨r59, z59, hz59, hf⟩ := lc_bnd_some hf
        have gz59 : lc_fr lc_a4 z z59 := (gz39.ui rfl).tr (g4Q_typeIn hz59)
        obtain ⟨hw5, hf⟩ := lc_chk_some hf
        exact (gz59.ui rfl).tr (g4Q_find_63 (fun h => ih h) hf)

set_option maxHeartbeats 1000000 in
theorem g4Q_find {a1 : Int32} {z : lc_S} {r} {z' : lc_S} (hf : fQ_find a1 z = some (r, z')) : lc_fr lc_a4 z z' := by
  rw [fQ_find] at hf
  exact (lc_fr.rf.ui rfl).tr (g4Q_find_7 hf)

set_option maxHeartbeats 1000000 in
theorem g4Q_isUsedOnce_308 {k20 : Int32 → Int32 → Int32 → Int32 → Int32 → lc_S → Option ((Int32) × lc_S)} (hk20 : ∀ {v0 : Int32} {v1 : Int32} {v2 : Int32} {v3 : Int32} {v4 : Int32} {z : lc_S} {r} {z' : lc_S}, k20 v0 v1 v2 v3 v4 z = some (r, z') → lc_fr lc_a4 z z') {x2 : Int32} {x3 : Int32} {x4 : Int32} {x5 : Int32} {x6 : Int32} {t1 : Int32} {t2 : Int32} {z : lc_S} {r} {z' : lc_S} (hf : fQ_isUsedOnce_308 k20 x2 x3 x4 x5 x6 t1 t2 z = some (r, z')) : lc_fr lc_a4 z z' := by
  rw [fQ_isUsedOnce_308] at hf
  obtain ⟨hw1, hf⟩ := lc_chk_some hf
  obtain ⟨x309, ex309⟩ : ∃ x, x = x6 + (-1) := ⟨_, rfl⟩
  replace hf := lc_let_of ex309 hf
  exact (lc_fr.rf.ui rfl).tr (hk20 hf)

set_option maxHeartbeats 1000000 in
theorem g4Q_isUsedOnce_289 {k20 : Int32 → Int32 → Int32 → Int32 → Int32 → lc_S → Option ((Int32) × lc_S)} (hk20 : ∀ {v0 : Int32} {v1 : Int32} {v2 : Int32} {v3 : Int32} {v4 : Int32} {z : lc_S} {r} {z' : lc_S}, k20 v0 v1 v2 v3 v4 z = some (r, z') → lc_fr lc_a4 z z') {x2 : Int32} {x3 : Int32} {x4 : Int32} {x5 : Int32} {x6 : Int32} {x11 : Int32} {t1 : Int32} {t2 : Int32} {z : lc_S} {r} {z' : lc_S} (hf : fQ_isUsedOnce_289 k20 x2 x3 x4 x5 x6 x11 t1 t2 z = some (r, z')) : lc_fr lc_a4 z z' := by
  rw [fQ_isUsedOnce_289] at hf
  obtain ⟨hw1, hf⟩ := lc_chk_some hf
  by_cases hc2 : x11 ≤ 3
  · replace hf := lc_ite_pos hc2 hf
    exact (lc_fr.rf.ui rfl).tr (g4Q_isUsedOnce_308 (fun h => hk20 h) hf)
  · replace hf := lc_ite_neg hc2 hf
    exact (lc_fr.rf.ui rfl).tr (g4Q_isUsedOnce_308 (fun h => hk20 h) hf)

set_option maxHeartbeats 1000000 in
theorem g4Q_isUsedOnce_271 {k20 : Int32 → Int32 → Int32 → Int32 → Int32 → lc_S → Option ((Int32) × lc_S)} (hk20 : ∀ {v0 : Int32} {v1 : Int32} {v2 : Int32} {v3 : Int32} {v4 : Int32} {z : lc_S} {r} {z' : lc_S}, k20 v0 v1 v2 v3 v4 z = some (r, z') → lc_fr lc_a4 z z') {x2 : Int32} {x3 : Int32} {x4 : Int32} {x5 : Int32} {x6 : Int32} {x10 : Int32} {x11 : Int32} {z : lc_S} {r} {z' : lc_S} (hf : fQ_isUsedOnce_271 k20 x2 x3 x4 x5 x6 x10 x11 z = some (r, z')) : lc_fr lc_a4 z z' := by
  rw [fQ_isUsedOnce_271] at hf
  by_cases hc1 : x10 ≤ 3
  · replace hf := lc_ite_pos hc1 hf
    exact lc_fr.rf.tr (g4Q_isUsedOnce_289 (fun h => hk20 h) hf)
  · replace hf := lc_ite_neg hc1 hf
    exact lc_fr.rf.tr (g4Q_isUsedOnce_289 (fun h => hk20 h) hf)

set_option maxHeartbeats 1000000 in
theorem g4Q_isUsedOnce_268 {k20 : Int32 → Int32 → Int32 → Int32 → Int32 → lc_S → Option ((Int32) × lc_S)} (hk20 : ∀ {v0 : Int32} {v1 : Int32} {v2 : Int32} {v3 : Int32} {v4 : Int32} {z : lc_S} {r} {z' : lc_S}, k20 v0 v1 v2 v3 v4 z = some (r, z') → lc_fr lc_a4 z z') {x2 : Int32} {x3 : Int32} {x4 : Int32} {x5 : Int32} {x6 : Int32} {x10 : Int32} {t0 : Int32} {t1 : Int32} {z : lc_S} {r} {z' : lc_S} (hf : fQ_isUsedOnce_268 k20 x2 x3 x4 x5 x6 x10 t0 t1 z = some (r, z')) : lc_fr lc_a4 z z' := by
  rw [fQ_isUsedOnce_268] at hf
  obtain ⟨x269, ex269⟩ : ∃ x, x = t0 + t1 := ⟨_, rfl⟩
  replace hf := lc_let_of ex269 hf
  exact lc_fr.rf.tr (g4Q_isUsedOnce_271 (fun h => hk20 h) hf)

set_option maxHeartbeats 1000000 in
theorem g4Q_isUsedOnce_229 {k20 : Int32 → Int32 → Int32 → Int32 → Int32 → lc_S → Option ((Int32) × lc_S)} (hk20 : ∀ {v0 : Int32} {v1 : Int32} {v2 : Int32} {v3 : Int32} {v4 : Int32} {z : lc_S} {r} {z' : lc_S}, k20 v0 v1 v2 v3 v4 z = some (r, z') → lc_fr lc_a4 z z') {x2 : Int32} {x3 : Int32} {x4 : Int32} {x5 : Int32} {x6 : Int32} {x11 : Int32} {x12 : Int32} {x13 : Int32} {t0 : Int32} {t1 : Int32} {z : lc_S} {r} {z' : lc_S} (hf : fQ_isUsedOnce_229 k20 x2 x3 x4 x5 x6 x11 x12 x13 t0 t1 z = some (r, z')) : lc_fr lc_a4 z z' := by
  rw [fQ_isUsedOnce_229] at hf
  obtain ⟨x230, ex230⟩ : ∃ x, x = t0 + t1 := ⟨_, rfl⟩
  replace hf := lc_let_of ex230 hf
  obtain ⟨hw1, hf⟩ := lc_chk_some hf
  obtain ⟨hw2, hf⟩ := lc_chk_some hf
  by_cases hc3 : (lcI z 104 x12.toNatClampNeg) ≤ (lcI z 104 x13.toNatClampNeg)
  · replace hf := lc_ite_pos hc3 hf
    obtain ⟨hw4, hf⟩ := lc_chk_some hf
    exact lc_fr.rf.tr (g4Q_isUsedOnce_268 (fun h => hk20 h) hf)
  · replace hf := lc_ite_neg hc3 hf
    obtain ⟨hw5, hf⟩ := lc_chk_some hf
    exact lc_fr.rf.tr (g4Q_isUsedOnce_268 (fun h => hk20 h) hf)

set_option maxHeartbeats 1000000 in
theorem g4Q_isUsedOnce_169 {k20 : Int32 → Int32 → Int32 → Int32 → Int32 → lc_S → Option ((Int32) × lc_S)} (hk20 : ∀ {v0 : Int32} {v1 : Int32} {v2 : Int32} {v3 : Int32} {v4 : Int32} {z : lc_S} {r} {z' : lc_S}, k20 v0 v1 v2 v3 v4 z = some (r, z') → lc_fr lc_a4 z z') {x2 : Int32} {x3 : Int32} {x4 : Int32} {x5 : Int32} {x6 : Int32} {x7 : Int32} {x9 : Int32} {x10 : Int32} {x11 : Int32} {z : lc_S} {r} {z' : lc_S} (hf : fQ_isUsedOnce_169 k20 x2 x3 x4 x5 x6 x7 x9 x10 x11 z = some (r, z')) : lc_fr lc_a4 z z' := by
  rw [fQ_isUsedOnce_169] at hf
  by_cases hc1 : x9 = 3
  · replace hf := lc_ite_pos hc1 hf
    obtain ⟨hw2, hf⟩ := lc_chk_some hf
    obtain ⟨x182, ex182⟩ : ∃ x, x = lcI z 85 x7.toNatClampNeg := ⟨_, rfl⟩
    replace hf := lc_let_of ex182 hf
    obtain ⟨hw3, hf⟩ := lc_chk_some hf
    obtain ⟨x191, ex191⟩ : ∃ x, x = lcI z 86 x7.toNatClampNeg := ⟨_, rfl⟩
    replace hf := lc_let_of ex191 hf
    obtain ⟨hw4, hf⟩ := lc_chk_some hf
    obtain ⟨hw5, hf⟩ := lc_chk_some hf
    by_cases hc6 : (lcI z 103 x191.toNatClampNeg) ≤ (lcI z 103 x182.toNatClampNeg)
    · replace hf := lc_ite_pos hc6 hf
      obtain ⟨hw7, hf⟩ := lc_chk_some hf
      exact lc_fr.rf.tr (g4Q_isUsedOnce_229 (fun h => hk20 h) hf)
    · replace hf := lc_ite_neg hc6 hf
      obtain ⟨hw8, hf⟩ := lc_chk_some hf
      exact lc_fr.rf.tr (g4Q_isUsedOnce_229 (fun h => hk20 h) hf)
  · replace hf := lc_ite_neg hc1 hf
    exact lc_fr.rf.tr (g4Q_isUsedOnce_271 (fun h => hk20 h) hf)

set_option maxHeartbeats 1000000 in
theorem g4Q_isUsedOnce_129 {k20 : Int32 → Int32 → Int32 → Int32 → Int32 → lc_S → Option ((Int32) × lc_S)} (hk20 : ∀ {v0 : Int32} {v1 : Int32} {v2 : Int32} {v3 : Int32} {v4 : Int32} {z : lc_S} {r} {z' : lc_S}, k20 v0 v1 v2 v3 v4 z = some (r, z') → lc_fr lc_a4 z z') {x2 : Int32} {x3 : Int32} {x4 : Int32} {x5 : Int32} {x6 : Int32} {x7 : Int32} {x9 : Int32} {x10 : Int32} {x11 : Int32} {z : lc_S} {r} {z' : lc_S} (hf : fQ_isUsedOnce_129 k20 x2 x3 x4 x5 x6 x7 x9 x10 x11 z = some (r, z')) : lc_fr lc_a4 z z' := by
  rw [fQ_isUsedOnce_129] at hf
  by_cases hc1 : x9 = 2
  · replace hf := lc_ite_pos hc1 hf
    obtain ⟨hw2, hf⟩ := lc_chk_some hf
    obtain ⟨hw3, hf⟩ := lc_chk_some hf
    obtain ⟨x150, ex150⟩ : ∃ x, x = x10 + (lcI z 103 (lcI z 85 x7.toNatClampNeg).toNatClampNeg) := ⟨_, rfl⟩
    replace hf := lc_let_of ex150 hf
    obtain ⟨hw4, hf⟩ := lc_chk_some hf
    obtain ⟨hw5, hf⟩ := lc_chk_some hf
    obtain ⟨x167, ex167⟩ : ∃ x, x = x11 + (lcI z 104 (lcI z 85 x7.toNatClampNeg).toNatClampNeg) := ⟨_, rfl⟩
    replace hf := lc_let_of ex167 hf
    exact lc_fr.rf.tr (g4Q_isUsedOnce_169 (fun h => hk20 h) hf)
  · replace hf := lc_ite_neg hc1 hf
    exact lc_fr.rf.tr (g4Q_isUsedOnce_169 (fun h => hk20 h) hf)

set_option maxHeartbeats 1000000 in
theorem g4Q_isUsedOnce_84 {k20 : Int32 → Int32 → Int32 → Int32 → Int32 → lc_S → Option ((Int32) × lc_S)} (hk20 : ∀ {v0 : Int32} {v1 : Int32} {v2 : Int32} {v3 : Int32} {v4 : Int32} {z : lc_S} {r} {z' : lc_S}, k20 v0 v1 v2 v3 v4 z = some (r, z') → lc_fr lc_a4 z z') {x2 : Int32} {x3 : Int32} {x4 : Int32} {x5 : Int32} {x6 : Int32} {x7 : Int32} {x9 : Int32} {t0 : Int32} {z : lc_S} {r} {z' : lc_S} (hf : fQ_isUsedOnce_84 k20 x2 x3 x4 x5 x6 x7 x9 t0 z = some (r, z')) : lc_fr lc_a4 z z' := by
  rw [fQ_isUsedOnce_84] at hf
  by_cases hc1 : x9 ≤ 0
  · replace hf := lc_ite_pos hc1 hf
    exact lc_fr.rf.tr (g4Q_isUsedOnce_129 (fun h => hk20 h) hf)
  · replace hf := lc_ite_neg hc1 hf
    obtain ⟨hw2, hf⟩ := lc_chk_some hf
    obtain ⟨hw3, hf⟩ := lc_chk_some hf
    obtain ⟨x110, ex110⟩ : ∃ x, x = t0 + (lcI z 103 (lcI z 84 x7.toNatClampNeg).toNatClampNeg) := ⟨_, rfl⟩
    replace hf := lc_let_of ex110 hf
    obtain ⟨hw4, hf⟩ := lc_chk_some hf
    obtain ⟨hw5, hf⟩ := lc_chk_some hf
    obtain ⟨x127, ex127⟩ : ∃ x, x = t0 + (lcI z 104 (lcI z 84 x7.toNatClampNeg).toNatClampNeg) := ⟨_, rfl⟩
    replace hf := lc_let_of ex127 hf
    exact lc_fr.rf.tr (g4Q_isUsedOnce_129 (fun h => hk20 h) hf)

set_option maxHeartbeats 1000000 in
theorem g4Q_isUsedOnce_83 {k20 : Int32 → Int32 → Int32 → Int32 → Int32 → lc_S → Option ((Int32) × lc_S)} (hk20 : ∀ {v0 : Int32} {v1 : Int32} {v2 : Int32} {v3 : Int32} {v4 : Int32} {z : lc_S} {r} {z' : lc_S}, k20 v0 v1 v2 v3 v4 z = some (r, z') → lc_fr lc_a4 z z') {x2 : Int32} {x3 : Int32} {x4 : Int32} {x5 : Int32} {x6 : Int32} {x7 : Int32} {x9 : Int32} {z : lc_S} {r} {z' : lc_S} (hf : fQ_isUsedOnce_83 k20 x2 x3 x4 x5 x6 x7 x9 z = some (r, z')) : lc_fr lc_a4 z z' := by
  rw [fQ_isUsedOnce_83] at hf
  exact lc_fr.rf.tr (g4Q_isUsedOnce_84 (fun h => hk20 h) hf)

set_option maxHeartbeats 1000000 in
theorem g4Q_isUsedOnce_341 {z : lc_S} {r} {z' : lc_S} (hf : fQ_isUsedOnce_341 z = some (r, z')) : lc_fr lc_a4 z z' := by
  rw [fQ_isUsedOnce_341] at hf
  cases hf
  exact lc_fr.rf

set_option maxHeartbeats 1000000 in
theorem g4Q_isUsedOnce_20 : ∀ {n : Nat} {x2 : Int32} {x3 : Int32} {x4 : Int32} {x5 : Int32} {x6 : Int32} {z : lc_S} {r} {z' : lc_S}, fQ_isUsedOnce_20 n x2 x3 x4 x5 x6 z = some (r, z') → lc_fr lc_a4 z z' := by
  intro n
  induction n with
  | zero =>
    intro x2 x3 x4 x5 x6 z r z' hf
    cases (show none = some (r, z') from hf)
  | succ n ih =>
    intro x2 x3 x4 x5 x6 z r z' hf
    rw [fQ_isUsedOnce_20] at hf
    by_cases hc1 : x6 < x4
    · replace hf := lc_ite_pos hc1 hf
      obtain ⟨hw2, hf⟩ := lc_chk_some hf
      by_cases hc3 : (lcI z 103 x4.toNatClampNeg) = 1
      · replace hf := lc_ite_pos hc3 hf
        obtain ⟨hw4, hf⟩ := lc_chk_some hf
        by_cases hc5 : (lcI z 104 x4.toNatClampNeg) = 1
        · replace hf := lc_ite_pos hc5 hf
          cases hf
          exact lc_fr.rf
        · replace hf := lc_ite_neg hc5 hf
          exact lc_fr.rf.tr (g4Q_isUsedOnce_341 hf)
      · replace hf := lc_ite_neg hc3 hf
        exact lc_fr.rf.tr (g4Q_isUsedOnce_341 hf)
    · replace hf := lc_ite_neg hc1 hf
      obtain ⟨x32, ex32⟩ : ∃ x, x = x5 + x6 := ⟨_, rfl⟩
      replace hf := lc_let_of ex32 hf
      obtain ⟨hw6, hf⟩ := lc_chk_some hf
      obtain ⟨x41, ex41⟩ : ∃ x, x = lcI z 82 x32.toNatClampNeg := ⟨_, rfl⟩
      replace hf := lc_let_of ex41 hf
      obtain ⟨r45, z45, hz45, hf⟩ := lc_bnd_some hf
      have gz45 : lc_fr lc_a4 z z45 := lc_fr.rf.tr (g4Q_partsOf hz45)
      by_cases hc7 : x41 = 120
      · replace hf := lc_ite_pos hc7 hf
        obtain ⟨hw8, hf⟩ := lc_chk_some hf
        by_cases hc9 : (lcI z45 87 x32.toNatClampNeg) = x2
        · replace hf := lc_ite_pos hc9 hf
          obtain ⟨hw10, hf⟩ := lc_chk_some hf
          by_cases hc11 : (lcI z45 88 x32.toNatClampNeg) = x3
          · replace hf := lc_ite_pos hc11 hf
            exact gz45.tr (g4Q_isUsedOnce_84 (fun h => ih h) hf)
          · replace hf := lc_ite_neg hc11 hf
            exact gz45.tr (g4Q_isUsedOnce_83 (fun h => ih h) hf)
        · replace hf := lc_ite_neg hc9 hf
          exact gz45.tr (g4Q_isUsedOnce_83 (fun h => ih h) hf)
      · replace hf := lc_ite_neg hc7 hf
        exact gz45.tr (g4Q_isUsedOnce_83 (fun h => ih h) hf)

set_option maxHeartbeats 1000000 in
theorem g4Q_isUsedOnce {a1 : Int32} {a2 : Int32} {a3 : Int32} {a4 : Int32} {z : lc_S} {r} {z' : lc_S} (hf : fQ_isUsedOnce a1 a2 a3 a4 z = some (r, z')) : lc_fr lc_a4 z z' := by
  rw [fQ_isUsedOnce] at hf
  obtain ⟨x6, ex6⟩ : ∃ x, x = 120 * (a1 + 1) := ⟨_, rfl⟩
  replace hf := lc_let_of ex6 hf
  obtain ⟨hw1, hf⟩ := lc_chk_some hf
  obtain ⟨x18, ex18⟩ : ∃ x, x = (lcI z 89 (a1 + 1).toNatClampNeg) - 1 := ⟨_, rfl⟩
  replace hf := lc_let_of ex18 hf
  exact lc_fr.rf.tr (g4Q_isUsedOnce_20 hf)

set_option maxHeartbeats 1000000 in
theorem g4Q_isChecked_23 {z : lc_S} {r} {z' : lc_S} (hf : fQ_isChecked_23 z = some (r, z')) : lc_fr lc_a4 z z' := by
  rw [fQ_isChecked_23] at hf
  cases hf
  exact lc_fr.rf

set_option maxHeartbeats 1000000 in
theorem g4Q_isChecked_249 {k57 : Int32 → Int32 → Int32 → lc_S → Option ((Int32) × lc_S)} (hk57 : ∀ {v0 : Int32} {v1 : Int32} {v2 : Int32} {z : lc_S} {r} {z' : lc_S}, k57 v0 v1 v2 z = some (r, z') → lc_fr lc_a4 z z') {x1 : Int32} {x2 : Int32} {x3 : Int32} {z : lc_S} {r} {z' : lc_S} (hf : fQ_isChecked_249 k57 x1 x2 x3 z = some (r, z')) : lc_fr lc_a4 z z' := by
  rw [fQ_isChecked_249] at hf
  obtain ⟨x249, ex249⟩ : ∃ x, x = x3 + 1 := ⟨_, rfl⟩
  replace hf := lc_let_of ex249 hf
  exact lc_fr.rf.tr (hk57 hf)

set_option maxHeartbeats 1000000 in
theorem g4Q_isChecked_248 {k57 : Int32 → Int32 → Int32 → lc_S → Option ((Int32) × lc_S)} (hk57 : ∀ {v0 : Int32} {v1 : Int32} {v2 : Int32} {z : lc_S} {r} {z' : lc_S}, k57 v0 v1 v2 z = some (r, z') → lc_fr lc_a4 z z') {x1 : Int32} {x3 : Int32} {t0 : Int32} {z : lc_S} {r} {z' : lc_S} (hf : fQ_isChecked_248 k57 x1 x3 t0 z = some (r, z')) : lc_fr lc_a4 z z' := by
  rw [fQ_isChecked_248] at hf
  exact lc_fr.rf.tr (g4Q_isChecked_249 (fun h => hk57 h) hf)

set_option maxHeartbeats 1000000 in
theorem g4Q_isChecked_243 {k57 : Int32 → Int32 → Int32 → lc_S → Option ((Int32) × lc_S)} (hk57 : ∀ {v0 : Int32} {v1 : Int32} {v2 : Int32} {z : lc_S} {r} {z' : lc_S}, k57 v0 v1 v2 z = some (r, z') → lc_fr lc_a4 z z') {x1 : Int32} {x3 : Int32} {z : lc_S} {r} {z' : lc_S} (hf : fQ_isChecked_243 k57 x1 x3 z = some (r, z')) : lc_fr lc_a4 z z' := by
  rw [fQ_isChecked_243] at hf
  exact lc_fr.rf.tr (g4Q_isChecked_248 (fun h => hk57 h) hf)

set_option maxHeartbeats 1000000 in
theorem g4Q_isChecked_247 {k57 : Int32 → Int32 → Int32 → lc_S → Option ((Int32) × lc_S)} (hk57 : ∀ {v0 : Int32} {v1 : Int32} {v2 : Int32} {z : lc_S} {r} {z' : lc_S}, k57 v0 v1 v2 z = some (r, z') → lc_fr lc_a4 z z') {x1 : Int32} {x3 : Int32} {z : lc_S} {r} {z' : lc_S} (hf : fQ_isChecked_247 k57 x1 x3 z = some (r, z')) : lc_fr lc_a4 z z' := by
  rw [fQ_isChecked_247] at hf
  exact lc_fr.rf.tr (g4Q_isChecked_248 (fun h => hk57 h) hf)

set_option maxHeartbeats 1000000 in
theorem g4Q_isChecked_212 {k57 : Int32 → Int32 → Int32 → lc_S → Option ((Int32) × lc_S)} (hk57 : ∀ {v0 : Int32} {v1 : Int32} {v2 : Int32} {z : lc_S} {r} {z' : lc_S}, k57 v0 v1 v2 z = some (r, z') → lc_fr lc_a4 z z') {x1 : Int32} {x3 : Int32} {x4 : Int32} {x5 : Int32} {z : lc_S} {r} {z' : lc_S} (hf : fQ_isChecked_212 k57 x1 x3 x4 x5 z = some (r, z')) : lc_fr lc_a4 z z' := by
  rw [fQ_isChecked_212] at hf
  obtain ⟨hw1, hf⟩ := lc_chk_some hf
  obtain ⟨r220, z220, hz220, hf⟩ := lc_bnd_some hf
  have gz220 : lc_fr lc_a4 z z220 := lc_fr.rf.tr (g4Q_isLinear hz220)
  by_cases hc2 : r220 = 0
  · replace hf := lc_ite_pos hc2 hf
    exact gz220.tr (g4Q_isChecked_243 (fun h => hk57 h) hf)
  · replace hf := lc_ite_neg hc2 hf
    obtain ⟨hw3, hf⟩ := lc_chk_some hf
    obtain ⟨r237, z237, hz237, hf⟩ := lc_bnd_some hf
    have gz237 : lc_fr lc_a4 z z237 := gz220.tr (g4Q_isUsedOnce hz237)
    by_cases hc4 : r237 = 0
    · replace hf := lc_ite_pos hc4 hf
      exact gz237.tr (g4Q_isChecked_247 (fun h => hk57 h) hf)
    · replace hf := lc_ite_neg hc4 hf
      exact gz237.tr (g4Q_isChecked_243 (fun h => hk57 h) hf)

set_option maxHeartbeats 1000000 in
theorem g4Q_isChecked_169 {k57 : Int32 → Int32 → Int32 → lc_S → Option ((Int32) × lc_S)} (hk57 : ∀ {v0 : Int32} {v1 : Int32} {v2 : Int32} {z : lc_S} {r} {z' : lc_S}, k57 v0 v1 v2 z = some (r, z') → lc_fr lc_a4 z z') {x1 : Int32} {x2 : Int32} {x3 : Int32} {x4 : Int32} {x5 : Int32} {z : lc_S} {r} {z' : lc_S} (hf : fQ_isChecked_169 k57 x1 x2 x3 x4 x5 z = some (r, z')) : lc_fr lc_a4 z z' := by
  rw [fQ_isChecked_169] at hf
  obtain ⟨hw1, hf⟩ := lc_chk_some hf
  by_cases hc2 : (lcI z 82 x4.toNatClampNeg) = 47
  · replace hf := lc_ite_pos hc2 hf
    obtain ⟨hw3, hf⟩ := lc_chk_some hf
    obtain ⟨r189, z189, hz189, hf⟩ := lc_bnd_some hf
    have gz189 : lc_fr lc_a4 z z189 := lc_fr.rf.tr (g4Q_isLinear hz189)
    by_cases hc4 : r189 = 0
    · replace hf := lc_ite_pos hc4 hf
      exact gz189.tr (g4Q_isChecked_212 (fun h => hk57 h) hf)
    · replace hf := lc_ite_neg hc4 hf
      obtain ⟨hw5, hf⟩ := lc_chk_some hf
      obtain ⟨r206, z206, hz206, hf⟩ := lc_bnd_some hf
      have gz206 : lc_fr lc_a4 z z206 := gz189.tr (g4Q_isUsedOnce hz206)
      by_cases hc6 : r206 = 0
      · replace hf := lc_ite_pos hc6 hf
        exact gz206.tr (g4Q_isChecked_247 (fun h => hk57 h) hf)
      · replace hf := lc_ite_neg hc6 hf
        exact gz206.tr (g4Q_isChecked_212 (fun h => hk57 h) hf)
  · replace hf := lc_ite_neg hc2 hf
    exact lc_fr.rf.tr (g4Q_isChecked_249 (fun h => hk57 h) hf)

set_option maxHeartbeats 1000000 in
theorem g4Q_isChecked_168 {k57 : Int32 → Int32 → Int32 → lc_S → Option ((Int32) × lc_S)} (hk57 : ∀ {v0 : Int32} {v1 : Int32} {v2 : Int32} {z : lc_S} {r} {z' : lc_S}, k57 v0 v1 v2 z = some (r, z') → lc_fr lc_a4 z z') {x1 : Int32} {x3 : Int32} {x4 : Int32} {x5 : Int32} {t0 : Int32} {z : lc_S} {r} {z' : lc_S} (hf : fQ_isChecked_168 k57 x1 x3 x4 x5 t0 z = some (r, z')) : lc_fr lc_a4 z z' := by
  rw [fQ_isChecked_168] at hf
  exact lc_fr.rf.tr (g4Q_isChecked_169 (fun h => hk57 h) hf)

set_option maxHeartbeats 1000000 in
theorem g4Q_isChecked_163 {k57 : Int32 → Int32 → Int32 → lc_S → Option ((Int32) × lc_S)} (hk57 : ∀ {v0 : Int32} {v1 : Int32} {v2 : Int32} {z : lc_S} {r} {z' : lc_S}, k57 v0 v1 v2 z = some (r, z') → lc_fr lc_a4 z z') {x1 : Int32} {x3 : Int32} {x4 : Int32} {x5 : Int32} {z : lc_S} {r} {z' : lc_S} (hf : fQ_isChecked_163 k57 x1 x3 x4 x5 z = some (r, z')) : lc_fr lc_a4 z z' := by
  rw [fQ_isChecked_163] at hf
  exact lc_fr.rf.tr (g4Q_isChecked_168 (fun h => hk57 h) hf)

set_option maxHeartbeats 1000000 in
theorem g4Q_isChecked_123 {k57 : Int32 → Int32 → Int32 → lc_S → Option ((Int32) × lc_S)} (hk57 : ∀ {v0 : Int32} {v1 : Int32} {v2 : Int32} {z : lc_S} {r} {z' : lc_S}, k57 v0 v1 v2 z = some (r, z') → lc_fr lc_a4 z z') {x1 : Int32} {x2 : Int32} {x3 : Int32} {x4 : Int32} {t0 : Int32} {z : lc_S} {r} {z' : lc_S} (hf : fQ_isChecked_123 k57 x1 x2 x3 x4 t0 z = some (r, z')) : lc_fr lc_a4 z z' := by
  rw [fQ_isChecked_123] at hf
  obtain ⟨hw1, hf⟩ := lc_chk_some hf
  by_cases hc2 : (lcI z 82 x4.toNatClampNeg) = 58
  · replace hf := lc_ite_pos hc2 hf
    obtain ⟨r140, z140, hz140, hf⟩ := lc_bnd_some hf
    have gz140 : lc_fr lc_a4 z z140 := lc_fr.rf.tr (g4Q_isLinear hz140)
    by_cases hc3 : r140 = 0
    · replace hf := lc_ite_pos hc3 hf
      exact gz140.tr (g4Q_isChecked_163 (fun h => hk57 h) hf)
    · replace hf := lc_ite_neg hc3 hf
      obtain ⟨hw4, hf⟩ := lc_chk_some hf
      obtain ⟨r157, z157, hz157, hf⟩ := lc_bnd_some hf
      have gz157 : lc_fr lc_a4 z z157 := gz140.tr (g4Q_isUsedOnce hz157)
      by_cases hc5 : r157 = 0
      · replace hf := lc_ite_pos hc5 hf
        exact gz157.tr (g4Q_isChecked_168 (fun h => hk57 h) hf)
      · replace hf := lc_ite_neg hc5 hf
        exact gz157.tr (g4Q_isChecked_163 (fun h => hk57 h) hf)
  · replace hf := lc_ite_neg hc2 hf
    exact lc_fr.rf.tr (g4Q_isChecked_169 (fun h => hk57 h) hf)

set_option maxHeartbeats 1000000 in
theorem g4Q_isChecked_107 {k57 : Int32 → Int32 → Int32 → lc_S → Option ((Int32) × lc_S)} (hk57 : ∀ {v0 : Int32} {v1 : Int32} {v2 : Int32} {z : lc_S} {r} {z' : lc_S}, k57 v0 v1 v2 z = some (r, z') → lc_fr lc_a4 z z') {x1 : Int32} {x2 : Int32} {x3 : Int32} {x4 : Int32} {z : lc_S} {r} {z' : lc_S} (hf : fQ_isChecked_107 k57 x1 x2 x3 x4 z = some (r, z')) : lc_fr lc_a4 z z' := by
  rw [fQ_isChecked_107] at hf
  obtain ⟨hw1, hf⟩ := lc_chk_some hf
  obtain ⟨hw2, hf⟩ := lc_chk_some hf
  exact lc_fr.rf.tr (g4Q_isChecked_123 (fun h => hk57 h) hf)

set_option maxHeartbeats 1000000 in
theorem g4Q_isChecked_255 {x2 : Int32} {z : lc_S} {r} {z' : lc_S} (hf : fQ_isChecked_255 x2 z = some (r, z')) : lc_fr lc_a4 z z' := by
  rw [fQ_isChecked_255] at hf
  obtain ⟨hw1, hf⟩ := lc_chk_some hf
  cases hf
  exact lc_fr.rf

set_option maxHeartbeats 1000000 in
theorem g4Q_isChecked_57 : ∀ {n : Nat} {x1 : Int32} {x2 : Int32} {x3 : Int32} {z : lc_S} {r} {z' : lc_S}, fQ_isChecked_57 n x1 x2 x3 z = some (r, z') → lc_fr lc_a4 z z' := by
  intro n
  induction n with
  | zero =>
    intro x1 x2 x3 z r z' hf
    cases (show none = some (r, z') from hf)
  | succ n ih =>
    intro x1 x2 x3 z r z' hf
    rw [fQ_isChecked_57] at hf
    obtain ⟨hw1, hf⟩ := lc_chk_some hf
    by_cases hc2 : (lcI z 89 (x1 + 1).toNatClampNeg) ≤ x3
    · replace hf := lc_ite_pos hc2 hf
      exact lc_fr.rf.tr (g4Q_isChecked_255 hf)
    · replace hf := lc_ite_neg hc2 hf
      by_cases hc3 : x2 = 0
      · replace hf := lc_ite_pos hc3 hf
        exact lc_fr.rf.tr (g4Q_isChecked_255 hf)
      · replace hf := lc_ite_neg hc3 hf
        obtain ⟨x81, ex81⟩ : ∃ x, x = (120 * (x1 + 1)) + x3 := ⟨_, rfl⟩
        replace hf := lc_let_of ex81 hf
        obtain ⟨hw4, hf⟩ := lc_chk_some hf
        by_cases hc5 : (lcI z 82 x81.toNatClampNeg) = 58
        · replace hf := lc_ite_pos hc5 hf
          exact lc_fr.rf.tr (g4Q_isChecked_107 (fun h => ih h) hf)
        · replace hf := lc_ite_neg hc5 hf
          obtain ⟨hw6, hf⟩ := lc_chk_some hf
          by_cases hc7 : (lcI z 82 x81.toNatClampNeg) = 47
          · replace hf := lc_ite_pos hc7 hf
            exact lc_fr.rf.tr (g4Q_isChecked_107 (fun h => ih h) hf)
          · replace hf := lc_ite_neg hc7 hf
            exact lc_fr.rf.tr (g4Q_isChecked_123 (fun h => ih h) hf)

set_option maxHeartbeats 1000000 in
theorem g4Q_isChecked_54 {x1 : Int32} {t0 : Int32} {z : lc_S} {r} {z' : lc_S} (hf : fQ_isChecked_54 x1 t0 z = some (r, z')) : lc_fr lc_a4 z z' := by
  rw [fQ_isChecked_54] at hf
  exact lc_fr.rf.tr (g4Q_isChecked_57 hf)

set_option maxHeartbeats 1000000 in
theorem g4Q_isChecked_49 {x1 : Int32} {z : lc_S} {r} {z' : lc_S} (hf : fQ_isChecked_49 x1 z = some (r, z')) : lc_fr lc_a4 z z' := by
  rw [fQ_isChecked_49] at hf
  exact lc_fr.rf.tr (g4Q_isChecked_54 hf)

set_option maxHeartbeats 1000000 in
theorem g4Q_isChecked {a1 : Int32} {z : lc_S} {r} {z' : lc_S} (hf : fQ_isChecked a1 z = some (r, z')) : lc_fr lc_a4 z z' := by
  rw [fQ_isChecked] at hf
  obtain ⟨r2, z2, hz2, hf⟩ := lc_bnd_some hf
  have gz2 : lc_fr lc_a4 z z2 := lc_fr.rf.tr (g4Q_find hz2)
  by_cases hc1 : r2 = 0
  · replace hf := lc_ite_pos hc1 hf
    exact gz2.tr (g4Q_isChecked_23 hf)
  · replace hf := lc_ite_neg hc1 hf
    obtain ⟨hw2, hf⟩ := lc_chk_some hf
    by_cases hc3 : (lcI z2 100 (0 : Int32).toNatClampNeg) = (lcI z2 102 a1.toNatClampNeg)
    · replace hf := lc_ite_pos hc3 hf
      obtain ⟨hw4, hf⟩ := lc_chk_some hf
      obtain ⟨r32, z32, hz32, hf⟩ := lc_bnd_some hf
      have gz32 : lc_fr lc_a4 z z32 := gz2.tr (g4Q_isLinear hz32)
      by_cases hc5 : r32 = 0
      · replace hf := lc_ite_pos hc5 hf
        exact gz32.tr (g4Q_isChecked_49 hf)
      · replace hf := lc_ite_neg hc5 hf
        obtain ⟨r43, z43, hz43, hf⟩ := lc_bnd_some hf
        have gz43 : lc_fr lc_a4 z z43 := gz32.tr (g4Q_isUsedOnce hz43)
        by_cases hc6 : r43 = 0
        · replace hf := lc_ite_pos hc6 hf
          exact gz43.tr (g4Q_isChecked_54 hf)
        · replace hf := lc_ite_neg hc6 hf
          exact gz43.tr (g4Q_isChecked_49 hf)
    · replace hf := lc_ite_neg hc3 hf
      exact gz2.tr (g4Q_isChecked_23 hf)

set_option maxHeartbeats 1000000 in
theorem g4Q_sound_56 {k24 : Int32 → Int32 → Int32 → lc_S → Option ((Int32) × lc_S)} (hk24 : ∀ {v0 : Int32} {v1 : Int32} {v2 : Int32} {z : lc_S} {r} {z' : lc_S}, k24 v0 v1 v2 z = some (r, z') → lc_fr lc_a4 z z') {k37 : Int32 → Int32 → Int32 → lc_S → Option ((Int32) × lc_S)} (hk37 : ∀ {v0 : Int32} {v1 : Int32} {v2 : Int32} {z : lc_S} {r} {z' : lc_S}, k37 v0 v1 v2 z = some (r, z') → lc_fr lc_a4 z z') {x2 : Int32} {x3 : Int32} {x5 : Int32} {z : lc_S} {r} {z' : lc_S} (hf : fQ_sound_56 k24 k37 x2 x3 x5 z = some (r, z')) : lc_fr lc_a4 z z' := by
  rw [fQ_sound_56] at hf
  obtain ⟨x56, ex56⟩ : ∃ x, x = x5 + 1 := ⟨_, rfl⟩
  replace hf := lc_let_of ex56 hf
  exact lc_fr.rf.tr (hk37 hf)

set_option maxHeartbeats 1000000 in
theorem g4Q_sound_149 {k24 : Int32 → Int32 → Int32 → lc_S → Option ((Int32) × lc_S)} (hk24 : ∀ {v0 : Int32} {v1 : Int32} {v2 : Int32} {z : lc_S} {r} {z' : lc_S}, k24 v0 v1 v2 z = some (r, z') → lc_fr lc_a4 z z') {k97 : Int32 → Int32 → Int32 → Int32 → Int32 → lc_S → Option ((Int32) × lc_S)} (hk97 : ∀ {v0 : Int32} {v1 : Int32} {v2 : Int32} {v3 : Int32} {v4 : Int32} {z : lc_S} {r} {z' : lc_S}, k97 v0 v1 v2 v3 v4 z = some (r, z') → lc_fr lc_a4 z z') {x3 : Int32} {x4 : Int32} {x5 : Int32} {x6 : Int32} {t0 : Int32} {t1 : Int32} {z : lc_S} {r} {z' : lc_S} (hf : fQ_sound_149 k24 k97 x3 x4 x5 x6 t0 t1 z = some (r, z')) : lc_fr lc_a4 z z' := by
  rw [fQ_sound_149] at hf
  obtain ⟨x150, ex150⟩ : ∃ x, x = t0 ||| t1 := ⟨_, rfl⟩
  replace hf := lc_let_of ex150 hf
  obtain ⟨x151, ex151⟩ : ∃ x, x = x6 + 1 := ⟨_, rfl⟩
  replace hf := lc_let_of ex151 hf
  exact lc_fr.rf.tr (hk97 hf)

set_option maxHeartbeats 1000000 in
theorem g4Q_sound_97 {k24 : Int32 → Int32 → Int32 → lc_S → Option ((Int32) × lc_S)} (hk24 : ∀ {v0 : Int32} {v1 : Int32} {v2 : Int32} {z : lc_S} {r} {z' : lc_S}, k24 v0 v1 v2 z = some (r, z') → lc_fr lc_a4 z z') : ∀ {n : Nat} {x2 : Int32} {x3 : Int32} {x4 : Int32} {x5 : Int32} {x6 : Int32} {z : lc_S} {r} {z' : lc_S}, fQ_sound_97 k24 n x2 x3 x4 x5 x6 z = some (r, z') → lc_fr lc_a4 z z' := by
  intro n
  induction n with
  | zero =>
    intro x2 x3 x4 x5 x6 z r z' hf
    cases (show none = some (r, z') from hf)
  | succ n ih =>
    intro x2 x3 x4 x5 x6 z r z' hf
    rw [fQ_sound_97] at hf
    obtain ⟨hw1, hf⟩ := lc_chk_some hf
    by_cases hc2 : (lcI z 89 (x5 + 1).toNatClampNeg) ≤ x6
    · replace hf := lc_ite_pos hc2 hf
      exact lc_fr.rf.tr (hk24 hf)
    · replace hf := lc_ite_neg hc2 hf
      obtain ⟨x121, ex121⟩ : ∃ x, x = (120 * (x5 + 1)) + x6 := ⟨_, rfl⟩
      replace hf := lc_let_of ex121 hf
      obtain ⟨hw3, hf⟩ := lc_chk_some hf
      by_cases hc4 : (lcI z 82 x121.toNatClampNeg) = 64
      · replace hf := lc_ite_pos hc4 hf
        obtain ⟨hw5, hf⟩ := lc_chk_some hf
        exact lc_fr.rf.tr (g4Q_sound_149 (fun h => hk24 h) (fun h => ih h) hf)
      · replace hf := lc_ite_neg hc4 hf
        exact lc_fr.rf.tr (g4Q_sound_149 (fun h => hk24 h) (fun h => ih h) hf)

set_option maxHeartbeats 1000000 in
theorem g4Q_sound_92 {k24 : Int32 → Int32 → Int32 → lc_S → Option ((Int32) × lc_S)} (hk24 : ∀ {v0 : Int32} {v1 : Int32} {v2 : Int32} {z : lc_S} {r} {z' : lc_S}, k24 v0 v1 v2 z = some (r, z') → lc_fr lc_a4 z z') {x2 : Int32} {x3 : Int32} {x5 : Int32} {t0 : Int32} {z : lc_S} {r} {z' : lc_S} (hf : fQ_sound_92 k24 x2 x3 x5 t0 z = some (r, z')) : lc_fr lc_a4 z z' := by
  rw [fQ_sound_92] at hf
  exact lc_fr.rf.tr (g4Q_sound_97 (fun h => hk24 h) hf)

set_option maxHeartbeats 1000000 in
theorem g4Q_sound_91 {k24 : Int32 → Int32 → Int32 → lc_S → Option ((Int32) × lc_S)} (hk24 : ∀ {v0 : Int32} {v1 : Int32} {v2 : Int32} {z : lc_S} {r} {z' : lc_S}, k24 v0 v1 v2 z = some (r, z') → lc_fr lc_a4 z z') {x2 : Int32} {x3 : Int32} {x5 : Int32} {z : lc_S} {r} {z' : lc_S} (hf : fQ_sound_91 k24 x2 x3 x5 z = some (r, z')) : lc_fr lc_a4 z z' := by
  rw [fQ_sound_91] at hf
  exact lc_fr.rf.tr (g4Q_sound_92 (fun h => hk24 h) hf)

set_option maxHeartbeats 1000000 in
theorem g4Q_sound_37 {k24 : Int32 → Int32 → Int32 → lc_S → Option ((Int32) × lc_S)} (hk24 : ∀ {v0 : Int32} {v1 : Int32} {v2 : Int32} {z : lc_S} {r} {z' : lc_S}, k24 v0 v1 v2 z = some (r, z') → lc_fr lc_a4 z z') : ∀ {n : Nat} {x2 : Int32} {x3 : Int32} {x5 : Int32} {z : lc_S} {r} {z' : lc_S}, fQ_sound_37 k24 n x2 x3 x5 z = some (r, z') → lc_fr lc_a4 z z' := by
  intro n
  induction n with
  | zero =>
    intro x2 x3 x5 z r z' hf
    cases (show none = some (r, z') from hf)
  | succ n ih =>
    intro x2 x3 x5 z r z' hf
    rw [fQ_sound_37] at hf
    by_cases hc1 : ((x2 >>> (x5 &&& 31)) &&& 1) = 0
    · replace hf := lc_ite_pos hc1 hf
      exact lc_fr.rf.tr (g4Q_sound_56 (fun h => hk24 h) (fun h => ih h) hf)
    · replace hf := lc_ite_neg hc1 hf
      by_cases hc2 : ((x3 >>> (x5 &&& 31)) &&& 1) = 1
      · replace hf := lc_ite_pos hc2 hf
        exact lc_fr.rf.tr (g4Q_sound_56 (fun h => hk24 h) (fun h => ih h) hf)
      · replace hf := lc_ite_neg hc2 hf
        obtain ⟨x68, ex68⟩ : ∃ x, x = x3 ||| (1 <<< (x5 &&& 31)) := ⟨_, rfl⟩
        replace hf := lc_let_of ex68 hf
        obtain ⟨r72, z72, hz72, hf⟩ := lc_bnd_some hf
        have gz72 : lc_fr lc_a4 z z72 := lc_fr.rf.tr (g4Q_isThere hz72)
        by_cases hc3 : r72 = 0
        · replace hf := lc_ite_pos hc3 hf
          exact gz72.tr (g4Q_sound_91 (fun h => hk24 h) hf)
        · replace hf := lc_ite_neg hc3 hf
          obtain ⟨r81, z81, hz81, hf⟩ := lc_bnd_some hf
          have gz81 : lc_fr lc_a4 z z81 := gz72.tr (g4Q_isChecked hz81)
          by_cases hc4 : r81 = 0
          · replace hf := lc_ite_pos hc4 hf
            exact gz81.tr (g4Q_sound_91 (fun h => hk24 h) hf)
          · replace hf := lc_ite_neg hc4 hf
            exact gz81.tr (g4Q_sound_92 (fun h => hk24 h) hf)

set_option maxHeartbeats 1000000 in
theorem g4Q_sound_160 {x4 : Int32} {z : lc_S} {r} {z' : lc_S} (hf : fQ_sound_160 x4 z = some (r, z')) : lc_fr lc_a4 z z' := by
  rw [fQ_sound_160] at hf
  obtain ⟨hw1, hf⟩ := lc_chk_some hf
  cases hf
  exact lc_fr.rf

set_option maxHeartbeats 1000000 in
theorem g4Q_sound_24 : ∀ {n : Nat} {x2 : Int32} {x3 : Int32} {x4 : Int32} {z : lc_S} {r} {z' : lc_S}, fQ_sound_24 n x2 x3 x4 z = some (r, z') → lc_fr lc_a4 z z' := by
  intro n
  induction n with
  | zero =>
    intro x2 x3 x4 z r z' hf
    cases (show none = some (r, z') from hf)
  | succ n ih =>
    intro x2 x3 x4 z r z' hf
    rw [fQ_sound_24] at hf
    by_cases hc1 : x3 = x2
    · replace hf := lc_ite_pos hc1 hf
      exact lc_fr.rf.tr (g4Q_sound_160 hf)
    · replace hf := lc_ite_neg hc1 hf
      by_cases hc2 : x4 = 0
      · replace hf := lc_ite_pos hc2 hf
        exact lc_fr.rf.tr (g4Q_sound_160 hf)
      · replace hf := lc_ite_neg hc2 hf
        exact lc_fr.rf.tr (g4Q_sound_37 (fun h => ih h) hf)

set_option maxHeartbeats 1000000 in
theorem g4Q_sound {a1 : Int32} {z : lc_S} {r} {z' : lc_S} (hf : fQ_sound a1 z = some (r, z')) : lc_fr lc_a4 z z' := by
  rw [fQ_sound] at hf
  obtain ⟨r7, z7, hz7, hf⟩ := lc_bnd_some hf
  have gz7 : lc_fr lc_a4 z z7 := (lc_fr.rf.ui rfl).tr (g4Q_isThere hz7)
  by_cases hc1 : r7 = 0
  · replace hf := lc_ite_pos hc1 hf
    cases hf
    exact gz7
  · replace hf := lc_ite_neg hc1 hf
    obtain ⟨x18, ex18⟩ : ∃ x, x = 1 <<< (a1 &&& 31) := ⟨_, rfl⟩
    replace hf := lc_let_of ex18 hf
    exact gz7.tr (g4Q_sound_24 hf)

set_option maxHeartbeats 1000000 in
theorem g4Q_typed_32 {z : lc_S} {r} {z' : lc_S} (hf : fQ_typed_32 z = some (r, z')) : lc_fr lc_a4 z z' := by
  rw [fQ_typed_32] at hf
  cases hf
  exact lc_fr.rf

set_option maxHeartbeats 1000000 in
theorem g4Q_typed_90 {k36 : Int32 → lc_S → Option ((Int32) × lc_S)} (hk36 : ∀ {v0 : Int32} {z : lc_S} {r} {z' : lc_S}, k36 v0 z = some (r, z') → lc_fr lc_a4 z z') {x2 : Int32} {t1 : Int32} {t2 : Int32} {z : lc_S} {r} {z' : lc_S} (hf : fQ_typed_90 k36 x2 t1 t2 z = some (r, z')) : lc_fr lc_a4 z z' := by
  rw [fQ_typed_90] at hf
  obtain ⟨hw1, hf⟩ := lc_chk_some hf
  obtain ⟨x91, ex91⟩ : ∃ x, x = x2 + 1 := ⟨_, rfl⟩
  replace hf := lc_let_of ex91 hf
  exact (lc_fr.rf.ui rfl).tr (hk36 hf)

set_option maxHeartbeats 1000000 in
theorem g4Q_typed_36 : ∀ {n : Nat} {x2 : Int32} {z : lc_S} {r} {z' : lc_S}, fQ_typed_36 n x2 z = some (r, z') → lc_fr lc_a4 z z' := by
  intro n
  induction n with
  | zero =>
    intro x2 z r z' hf
    cases (show none = some (r, z') from hf)
  | succ n ih =>
    intro x2 z r z' hf
    rw [fQ_typed_36] at hf
    by_cases hc1 : (lcI z 100 (0 : Int32).toNatClampNeg) < x2
    · replace hf := lc_ite_pos hc1 hf
      obtain ⟨hw2, hf⟩ := lc_chk_some hf
      cases hf
      exact lc_fr.rf
    · replace hf := lc_ite_neg hc1 hf
      by_cases hc3 : 2 ≤ x2
      · replace hf := lc_ite_pos hc3 hf
        obtain ⟨hw4, hf⟩ := lc_chk_some hf
        obtain ⟨hw5, hf⟩ := lc_chk_some hf
        obtain ⟨hw6, hf⟩ := lc_chk_some hf
        obtain ⟨hw7, hf⟩ := lc_chk_some hf
        exact lc_fr.rf.tr (g4Q_typed_90 (fun h => ih h) hf)
      · replace hf := lc_ite_neg hc3 hf
        exact lc_fr.rf.tr (g4Q_typed_90 (fun h => ih h) hf)

set_option maxHeartbeats 1000000 in
theorem g4Q_typed_14 {x1 : Int32} {t1 : Int32} {z : lc_S} {r} {z' : lc_S} (hf : fQ_typed_14 x1 t1 z = some (r, z')) : lc_fr lc_a4 z z' := by
  rw [fQ_typed_14] at hf
  by_cases hc1 : 0 < (lcI (lcUI z 80 0 t1) 80 0)
  · replace hf := lc_ite_pos hc1 hf
    exact (lc_fr.rf.ui rfl).tr (g4Q_typed_32 hf)
  · replace hf := lc_ite_neg hc1 hf
    obtain ⟨r26, z26, hz26, hf⟩ := lc_bnd_some hf
    have gz26 : lc_fr lc_a4 z z26 := (lc_fr.rf.ui rfl).tr (g4Q_find hz26)
    by_cases hc2 : r26 = 0
    · replace hf := lc_ite_pos hc2 hf
      exact gz26.tr (g4Q_typed_32 hf)
    · replace hf := lc_ite_neg hc2 hf
      exact gz26.tr (g4Q_typed_36 hf)

set_option maxHeartbeats 1000000 in
theorem g4Q_typed {a1 : Int32} {z : lc_S} {r} {z' : lc_S} (hf : fQ_typed a1 z = some (r, z')) : lc_fr lc_a4 z z' := by
  rw [fQ_typed] at hf
  obtain ⟨r3, z3, hz3, hf⟩ := lc_bnd_some hf
  have gz3 : lc_fr lc_a4 z z3 := lc_fr.rf.tr (g4Q_isThere hz3)
  by_cases hc1 : r3 = 0
  · replace hf := lc_ite_pos hc1 hf
    exact gz3.tr (g4Q_typed_14 hf)
  · replace hf := lc_ite_neg hc1 hf
    exact gz3.tr (g4Q_typed_14 hf)

