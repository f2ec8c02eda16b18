/-! which cells a function leaves alone: lc_lo: it writes cells 1 .. 79 alone; lc_hi: cells 80 and on alone -/
def lc_lo (z z' : lc_S) : Prop := ∀ c, (c = 0 ∨ 80 ≤ c) → ∀ k, lcI z' c k = lcI z c k ∧ lcL z' c k = lcL z c k ∧ lcR z' c k = lcR z c k
def lc_hi (z z' : lc_S) : Prop := ∀ c, c < 80 → ∀ k, lcI z' c k = lcI z c k ∧ lcL z' c k = lcL z c k ∧ lcR z' c k = lcR z c k
abbrev lc_blo (c : Nat) : Prop := 1 ≤ c ∧ c < 80
abbrev lc_bhi (c : Nat) : Prop := 80 ≤ c
theorem lc_lo.rf {z : lc_S} : lc_lo z z := fun _ _ _ => ⟨rfl, rfl, rfl⟩
theorem lc_hi.rf {z : lc_S} : lc_hi z z := fun _ _ _ => ⟨rfl, rfl, rfl⟩
theorem lc_lo.tr {z z1 z2 : lc_S} (h : lc_lo z z1) (g : lc_lo z1 z2) : lc_lo z z2 := fun c hc k => ⟨(g c hc k).1.trans (h c hc k).1, (g c hc k).2.1.trans (h c hc k).2.1, (g c hc k).2.2.trans (h c hc k).2.2⟩
theorem lc_hi.tr {z z1 z2 : lc_S} (h : lc_hi z z1) (g : lc_hi z1 z2) : lc_hi z z2 := fun c hc k => ⟨(g c hc k).1.trans (h c hc k).1, (g c hc k).2.1.trans (h c hc k).2.1, (g c hc k).2.2.trans (h c hc k).2.2⟩
theorem lc_lo.ui {z z1 : lc_S} (h : lc_lo z z1) {o j : Nat} {v : Int32} (hb : lc_blo o) : lc_lo z (lcUI z1 o j v) := fun c hc k => ⟨by rw [lcI_UI, if_neg (fun q => by omega)]; exact (h c hc k).1, (h c hc k).2.1, (h c hc k).2.2⟩
theorem lc_hi.ui {z z1 : lc_S} (h : lc_hi z z1) {o j : Nat} {v : Int32} (hb : lc_bhi o) : lc_hi z (lcUI z1 o j v) := fun c hc k => ⟨by rw [lcI_UI, if_neg (fun q => by omega)]; exact (h c hc k).1, (h c hc k).2.1, (h c hc k).2.2⟩
theorem lc_lo.ul {z z1 : lc_S} (h : lc_lo z z1) {o j : Nat} {v : Int64} (hb : lc_blo o) : lc_lo z (lcUL z1 o j v) := fun c hc k => ⟨(h c hc k).1, by rw [lcL_UL, if_neg (fun q => by omega)]; exact (h c hc k).2.1, (h c hc k).2.2⟩
theorem lc_hi.ul {z z1 : lc_S} (h : lc_hi z z1) {o j : Nat} {v : Int64} (hb : lc_bhi o) : lc_hi z (lcUL z1 o j v) := fun c hc k => ⟨(h c hc k).1, by rw [lcL_UL, if_neg (fun q => by omega)]; exact (h c hc k).2.1, (h c hc k).2.2⟩
theorem lc_lo.ur {z z1 : lc_S} (h : lc_lo z z1) {o j : Nat} {v : Option Nat} (hb : lc_blo o) : lc_lo z (lcUR z1 o j v) := fun c hc k => ⟨(h c hc k).1, (h c hc k).2.1, by rw [lcR_UR, if_neg (fun q => by omega)]; exact (h c hc k).2.2⟩
theorem lc_hi.ur {z z1 : lc_S} (h : lc_hi z z1) {o j : Nat} {v : Option Nat} (hb : lc_bhi o) : lc_hi z (lcUR z1 o j v) := fun c hc k => ⟨(h c hc k).1, (h c hc k).2.1, by rw [lcR_UR, if_neg (fun q => by omega)]; exact (h c hc k).2.2⟩
theorem lc_bp {o : Nat} (h : lc_sh o = (0, 1, 0)) {d : Nat} (hd : d < 9) : lc_blo (o + d) := by
  have := (show ∀ o, o < lc_NC → lc_sh o = (0, 1, 0) → 35 ≤ o ∧ o ≤ 71 by decide +kernel) o (lc_sh_lt h (by decide)) h
  exact ⟨by omega, by omega⟩
theorem lc_bs_1_0_130 {o : Nat} (h : lc_sh o = (1, 0, 130)) : lc_bhi o := (show ∀ o, o < lc_NC → lc_sh o = (1, 0, 130) → 80 ≤ o by decide +kernel) o (lc_sh_lt h (by decide)) h
set_option maxHeartbeats 1000000 in
theorem gA_byteOf {a0 : Int64} {a2 : Int32} {z : lc_S} {r} {z' : lc_S} (hf : fA_byteOf a0 a2 z = some (r, z')) : lc_lo z z' := by
  rw [fA_byteOf] at hf
  cases hf
  exact lc_lo.rf
set_option maxHeartbeats 1000000 in
theorem gA_charactersIn_32 {z : lc_S} {r} {z' : lc_S} (hf : fA_charactersIn_32 z = some (r, z')) : lc_lo z z' := by
  rw [fA_charactersIn_32] at hf
  cases hf
  exact lc_lo.rf
set_option maxHeartbeats 1000000 in
theorem gA_charactersIn_2 : ∀ {n : Nat} {x0 : Int64} {x2 : Int32} {z : lc_S} {r} {z' : lc_S}, fA_charactersIn_2 n x0 x2 z = some (r, z') → lc_lo z z' := by
  intro n
  induction n with
  | zero =>
    intro x0 x2 z r z' hf
    cases (show none = some (r, z') from hf)
  | succ n ih =>
    intro x0 x2 z r z' hf
    rw [fA_charactersIn_2] at hf
    by_cases hc1 : 8 ≤ x2
    · replace hf := lc_ite_pos hc1 hf
      cases hf
      exact lc_lo.rf
    · replace hf := lc_ite_neg hc1 hf
      obtain ⟨r10, z10, hz10, hf⟩ := lc_bnd_some hf
      have gz10 : lc_lo z z10 := lc_lo.rf.tr (gA_byteOf hz10)
      by_cases hc2 : r10 = 0
      · replace hf := lc_ite_pos hc2 hf
        cases hf
        exact gz10
      · replace hf := lc_ite_neg hc2 hf
        by_cases hc3 : r10 < 32
        · replace hf := lc_ite_pos hc3 hf
          exact gz10.tr (gA_charactersIn_32 hf)
        · replace hf := lc_ite_neg hc3 hf
          by_cases hc4 : r10 ≤ 126
          · replace hf := lc_ite_pos hc4 hf
            obtain ⟨x34, ex34⟩ : ∃ x, x = x2 + 1 := ⟨_, rfl⟩
            replace hf := lc_let_of ex34 hf
            exact gz10.tr (ih hf)
          · replace hf := lc_ite_neg hc4 hf
            exact gz10.tr (gA_charactersIn_32 hf)
set_option maxHeartbeats 1000000 in
theorem gA_charactersIn {a0 : Int64} {z : lc_S} {r} {z' : lc_S} (hf : fA_charactersIn a0 z = some (r, z')) : lc_lo z z' := by
  rw [fA_charactersIn] at hf
  exact lc_lo.rf.tr (gA_charactersIn_2 hf)
set_option maxHeartbeats 1000000 in
theorem gA_draft_20 {z : lc_S} {r} {z' : lc_S} (hf : fA_draft_20 z = some (r, z')) : lc_lo z z' := by
  rw [fA_draft_20] at hf
  cases hf
  exact lc_lo.rf
set_option maxHeartbeats 1000000 in
theorem gA_draft_25 : ∀ {n : Nat} {x1 : Int64} {x3 : Int32} {x4 : Int32} {z : lc_S} {r} {z' : lc_S}, fA_draft_25 n x1 x3 x4 z = some (r, z') → lc_lo z z' := by
  intro n
  induction n with
  | zero =>
    intro x1 x3 x4 z r z' hf
    cases (show none = some (r, z') from hf)
  | succ n ih =>
    intro x1 x3 x4 z r z' hf
    rw [fA_draft_25] at hf
    by_cases hc1 : x3 ≤ x4
    · replace hf := lc_ite_pos hc1 hf
      cases hf
      exact (lc_lo.rf.ui (by decide))
    · replace hf := lc_ite_neg hc1 hf
      obtain ⟨r45, z45, hz45, hf⟩ := lc_bnd_some hf
      have gz45 : lc_lo z z45 := lc_lo.rf.tr (gA_byteOf hz45)
      obtain ⟨hw2, hf⟩ := lc_chk_some hf
      obtain ⟨hw3, hf⟩ := lc_chk_some hf
      obtain ⟨x50, ex50⟩ : ∃ x, x = x4 + 1 := ⟨_, rfl⟩
      replace hf := lc_let_of ex50 hf
      exact (gz45.ui (by decide)).tr (ih hf)
set_option maxHeartbeats 1000000 in
theorem gA_draft {a1 : Int64} {z : lc_S} {r} {z' : lc_S} (hf : fA_draft a1 z = some (r, z')) : lc_lo z z' := by
  rw [fA_draft] at hf
  obtain ⟨r1, z1, hz1, hf⟩ := lc_bnd_some hf
  have gz1 : lc_lo z z1 := lc_lo.rf.tr (gA_charactersIn hz1)
  by_cases hc1 : r1 = 0
  · replace hf := lc_ite_pos hc1 hf
    exact gz1.tr (gA_draft_20 hf)
  · replace hf := lc_ite_neg hc1 hf
    by_cases hc2 : ((lcI z1 1 1) + r1) ≤ 120
    · replace hf := lc_ite_pos hc2 hf
      exact gz1.tr (gA_draft_25 hf)
    · replace hf := lc_ite_neg hc2 hf
      exact gz1.tr (gA_draft_20 hf)
set_option maxHeartbeats 1000000 in
theorem gA_isProcedureNumber_13 {z : lc_S} {r} {z' : lc_S} (hf : fA_isProcedureNumber_13 z = some (r, z')) : lc_lo z z' := by
  rw [fA_isProcedureNumber_13] at hf
  cases hf
  exact lc_lo.rf
set_option maxHeartbeats 1000000 in
theorem gA_isProcedureNumber {a0 : Int32} {z : lc_S} {r} {z' : lc_S} (hf : fA_isProcedureNumber a0 z = some (r, z')) : lc_lo z z' := by
  rw [fA_isProcedureNumber] at hf
  by_cases hc1 : a0 < 0
  · replace hf := lc_ite_pos hc1 hf
    exact lc_lo.rf.tr (gA_isProcedureNumber_13 hf)
  · replace hf := lc_ite_neg hc1 hf
    by_cases hc2 : 4 ≤ a0
    · replace hf := lc_ite_pos hc2 hf
      exact lc_lo.rf.tr (gA_isProcedureNumber_13 hf)
    · replace hf := lc_ite_neg hc2 hf
      cases hf
      exact lc_lo.rf
set_option maxHeartbeats 1000000 in
theorem gP_clear {o0 : Nat} {z : lc_S} {r} {z' : lc_S} (hf : fP_clear o0 z = some (r, z')) : lc_lo z z' := by
  rw [fP_clear] at hf
  obtain ⟨hw1, hf⟩ := lc_chk_some hf
  cases hf
  exact (((((((lc_lo.rf.ui (lc_bp hw1 (d := 0) (by decide))).ui (lc_bp hw1 (d := 0) (by decide))).ui (lc_bp hw1 (d := 0) (by decide))).ui (lc_bp hw1 (d := 0) (by decide))).ui (lc_bp hw1 (d := 0) (by decide))).ui (lc_bp hw1 (d := 8) (by decide))).ui (lc_bp hw1 (d := 0) (by decide)))
set_option maxHeartbeats 1000000 in
theorem gR_nextSign_38 {z : lc_S} {r} {z' : lc_S} (hf : fR_nextSign_38 z = some (r, z')) : lc_lo z z' := by
  rw [fR_nextSign_38] at hf
  by_cases hc1 : (lcI z 4 2) < (lcI z 4 1)
  · replace hf := lc_ite_pos hc1 hf
    obtain ⟨q62, hq62, hf⟩ := lc_bnr_some hf
    obtain ⟨hw2, hf⟩ := lc_chk_some hf
    obtain ⟨hw3, hf⟩ := lc_chk_some hf
    cases hf
    exact (lc_lo.rf.ui (by decide))
  · replace hf := lc_ite_neg hc1 hf
    cases hf
    exact lc_lo.rf
set_option maxHeartbeats 1000000 in
theorem gR_nextSign_0 : ∀ {n : Nat} {z : lc_S} {r} {z' : lc_S}, fR_nextSign_0 n z = some (r, z') → lc_lo z z' := by
  intro n
  induction n with
  | zero =>
    intro z r z' hf
    cases (show none = some (r, z') from hf)
  | succ n ih =>
    intro z r z' hf
    rw [fR_nextSign_0] at hf
    by_cases hc1 : (lcI z 4 1) ≤ (lcI z 4 2)
    · replace hf := lc_ite_pos hc1 hf
      exact lc_lo.rf.tr (gR_nextSign_38 hf)
    · replace hf := lc_ite_neg hc1 hf
      obtain ⟨q12, hq12, hf⟩ := lc_bnr_some hf
      obtain ⟨hw2, hf⟩ := lc_chk_some hf
      obtain ⟨hw3, hf⟩ := lc_chk_some hf
      by_cases hc4 : (lcI z q12 (lcI z 4 2).toNatClampNeg) = 32
      · replace hf := lc_ite_pos hc4 hf
        exact (lc_lo.rf.ui (by decide)).tr (ih hf)
      · replace hf := lc_ite_neg hc4 hf
        exact lc_lo.rf.tr (gR_nextSign_38 hf)
set_option maxHeartbeats 1000000 in
theorem gR_nextSign {z : lc_S} {r} {z' : lc_S} (hf : fR_nextSign z = some (r, z')) : lc_lo z z' := by
  rw [fR_nextSign] at hf
  exact lc_lo.rf.tr (gR_nextSign_0 hf)
set_option maxHeartbeats 1000000 in
theorem gR_isLetter_16 {z : lc_S} {r} {z' : lc_S} (hf : fR_isLetter_16 z = some (r, z')) : lc_lo z z' := by
  rw [fR_isLetter_16] at hf
  cases hf
  exact lc_lo.rf
set_option maxHeartbeats 1000000 in
theorem gR_isLetter {a0 : Int32} {z : lc_S} {r} {z' : lc_S} (hf : fR_isLetter a0 z = some (r, z')) : lc_lo z z' := by
  rw [fR_isLetter] at hf
  by_cases hc1 : a0 < 97
  · replace hf := lc_ite_pos hc1 hf
    exact lc_lo.rf.tr (gR_isLetter_16 hf)
  · replace hf := lc_ite_neg hc1 hf
    by_cases hc2 : 122 < a0
    · replace hf := lc_ite_pos hc2 hf
      exact lc_lo.rf.tr (gR_isLetter_16 hf)
    · replace hf := lc_ite_neg hc2 hf
      cases hf
      exact lc_lo.rf
set_option maxHeartbeats 1000000 in
theorem gP_addTypeSign {o0 : Nat} {a1 : Int32} {z : lc_S} {r} {z' : lc_S} (hf : fP_addTypeSign o0 a1 z = some (r, z')) : lc_lo z z' := by
  rw [fP_addTypeSign] at hf
  obtain ⟨hw1, hf⟩ := lc_chk_some hf
  by_cases hc2 : (lcI z o0 3) < 62
  · replace hf := lc_ite_pos hc2 hf
    obtain ⟨hw3, hf⟩ := lc_chk_some hf
    cases hf
    exact ((lc_lo.rf.ui (lc_bp hw1 (d := 1) (by decide))).ui (lc_bp hw1 (d := 0) (by decide)))
  · replace hf := lc_ite_neg hc2 hf
    cases hf
    exact lc_lo.rf
set_option maxHeartbeats 1000000 in
theorem gR_readType_106 {rc : Int32 → lc_S → Option (Int32 × lc_S)} (hrc : ∀ {d : Int32} {z : lc_S} {r} {z' : lc_S}, rc d z = some (r, z') → lc_lo z z') {z : lc_S} {r} {z' : lc_S} (hf : fR_readType_106 rc z = some (r, z')) : lc_lo z z' := by
  rw [fR_readType_106] at hf
  cases hf
  exact lc_lo.rf
set_option maxHeartbeats 1000000 in
theorem gR_readTypeB {rc : Int32 → lc_S → Option (Int32 × lc_S)} (hrc : ∀ {d : Int32} {z : lc_S} {r} {z' : lc_S}, rc d z = some (r, z') → lc_lo z z') {a1 : Int32} {z : lc_S} {r} {z' : lc_S} (hf : fR_readTypeB rc a1 z = some (r, z')) : lc_lo z z' := by
  rw [fR_readTypeB] at hf
  by_cases hc1 : a1 ≤ 4
  · replace hf := lc_ite_pos hc1 hf
    obtain ⟨r8, z8, hz8, hf⟩ := lc_bnd_some hf
    have gz8 : lc_lo z z8 := lc_lo.rf.tr (gR_nextSign hz8)
    by_cases hc2 : r8 = 40
    · replace hf := lc_ite_pos hc2 hf
      obtain ⟨r66, z66, hz66, hf⟩ := lc_bnd_some hf
      have gz66 : lc_lo z z66 := gz8.tr (hrc hz66)
      by_cases hc3 : r66 = 0
      · replace hf := lc_ite_pos hc3 hf
        exact gz66.tr (gR_readType_106 hrc hf)
      · replace hf := lc_ite_neg hc3 hf
        obtain ⟨r76, z76, hz76, hf⟩ := lc_bnd_some hf
        have gz76 : lc_lo z z76 := gz66.tr (hrc hz76)
        by_cases hc4 : r76 = 0
        · replace hf := lc_ite_pos hc4 hf
          exact gz76.tr (gR_readType_106 hrc hf)
        · replace hf := lc_ite_neg hc4 hf
          obtain ⟨r83, z83, hz83, hf⟩ := lc_bnd_some hf
          have gz83 : lc_lo z z83 := gz76.tr (gR_nextSign hz83)
          by_cases hc5 : r83 = 41
          · replace hf := lc_ite_pos hc5 hf
            obtain ⟨q92, hq92, hf⟩ := lc_bnr_some hf
            obtain ⟨hw6, hf⟩ := lc_chk_some hf
            obtain ⟨r96, z96, hz96, hf⟩ := lc_bnd_some hf
            have gz96 : lc_lo z z96 := gz83.tr (gP_addTypeSign hz96)
            by_cases hc7 : r96 = 0
            · replace hf := lc_ite_pos hc7 hf
              exact gz96.tr (gR_readType_106 hrc hf)
            · replace hf := lc_ite_neg hc7 hf
              cases hf
              exact gz96
          · replace hf := lc_ite_neg hc5 hf
            exact gz83.tr (gR_readType_106 hrc hf)
    · replace hf := lc_ite_neg hc2 hf
      by_cases hc8 : r8 = 105
      · replace hf := lc_ite_pos hc8 hf
        obtain ⟨q45, hq45, hf⟩ := lc_bnr_some hf
        obtain ⟨hw9, hf⟩ := lc_chk_some hf
        obtain ⟨r49, z49, hz49, hf⟩ := lc_bnd_some hf
        have gz49 : lc_lo z z49 := gz8.tr (gP_addTypeSign hz49)
        obtain ⟨hw10, hf⟩ := lc_chk_some hf
        cases hf
        exact gz49
      · replace hf := lc_ite_neg hc8 hf
        by_cases hc11 : r8 = 114
        · replace hf := lc_ite_pos hc11 hf
          obtain ⟨q54, hq54, hf⟩ := lc_bnr_some hf
          obtain ⟨hw12, hf⟩ := lc_chk_some hf
          obtain ⟨r58, z58, hz58, hf⟩ := lc_bnd_some hf
          have gz58 : lc_lo z z58 := gz8.tr (gP_addTypeSign hz58)
          obtain ⟨hw13, hf⟩ := lc_chk_some hf
          cases hf
          exact gz58
        · replace hf := lc_ite_neg hc11 hf
          cases hf
          exact gz8
  · replace hf := lc_ite_neg hc1 hf
    cases hf
    exact lc_lo.rf
set_option maxHeartbeats 1000000 in
theorem gR_readType : ∀ {n : Nat} {a1 : Int32} {z : lc_S} {r} {z' : lc_S}, fR_readType n a1 z = some (r, z') → lc_lo z z' := by
  intro n
  induction n with
  | zero =>
    intro a1 z r z' hf
    cases (show none = some (r, z') from hf)
  | succ n ih =>
    intro a1 z r z' hf
    rw [fR_readType] at hf
    exact lc_lo.rf.tr (gR_readTypeB (fun h => ih h) hf)
set_option maxHeartbeats 1000000 in
theorem gR_addName {a1 : Int32} {a2 : Int32} {a3 : Int32} {z : lc_S} {r} {z' : lc_S} (hf : fR_addName a1 a2 a3 z = some (r, z')) : lc_lo z z' := by
  rw [fR_addName] at hf
  by_cases hc1 : 33 ≤ (lcI z 4 8)
  · replace hf := lc_ite_pos hc1 hf
    cases hf
    exact lc_lo.rf
  · replace hf := lc_ite_neg hc1 hf
    obtain ⟨hw2, hf⟩ := lc_chk_some hf
    obtain ⟨hw3, hf⟩ := lc_chk_some hf
    obtain ⟨hw4, hf⟩ := lc_chk_some hf
    cases hf
    exact ((((lc_lo.rf.ui (by decide)).ui (by decide)).ui (by decide)).ui (by decide))
set_option maxHeartbeats 1000000 in
theorem gP_addForm {o0 : Nat} {a1 : Int32} {a2 : Int32} {a3 : Int32} {a4 : Int32} {z : lc_S} {r} {z' : lc_S} (hf : fP_addForm o0 a1 a2 a3 a4 z = some (r, z')) : lc_lo z z' := by
  rw [fP_addForm] at hf
  obtain ⟨hw1, hf⟩ := lc_chk_some hf
  by_cases hc2 : (lcI z o0 11) < 120
  · replace hf := lc_ite_pos hc2 hf
    obtain ⟨hw3, hf⟩ := lc_chk_some hf
    obtain ⟨hw4, hf⟩ := lc_chk_some hf
    obtain ⟨hw5, hf⟩ := lc_chk_some hf
    obtain ⟨hw6, hf⟩ := lc_chk_some hf
    obtain ⟨hw7, hf⟩ := lc_chk_some hf
    obtain ⟨hw8, hf⟩ := lc_chk_some hf
    cases hf
    exact (((((((lc_lo.rf.ui (lc_bp hw1 (d := 2) (by decide))).ui (lc_bp hw1 (d := 3) (by decide))).ui (lc_bp hw1 (d := 4) (by decide))).ui (lc_bp hw1 (d := 5) (by decide))).ui (lc_bp hw1 (d := 6) (by decide))).ui (lc_bp hw1 (d := 7) (by decide))).ui (lc_bp hw1 (d := 0) (by decide)))
  · replace hf := lc_ite_neg hc2 hf
    cases hf
    exact lc_lo.rf
set_option maxHeartbeats 1000000 in
theorem gP_annotate_19 {x1 : Int32} {z : lc_S} {r} {z' : lc_S} (hf : fP_annotate_19 x1 z = some (r, z')) : lc_lo z z' := by
  rw [fP_annotate_19] at hf
  cases hf
  exact lc_lo.rf
set_option maxHeartbeats 1000000 in
theorem gP_annotate {o0 : Nat} {a1 : Int32} {a2 : Int32} {a3 : Int32} {z : lc_S} {r} {z' : lc_S} (hf : fP_annotate o0 a1 a2 a3 z = some (r, z')) : lc_lo z z' := by
  rw [fP_annotate] at hf
  by_cases hc1 : a1 = (-1)
  · replace hf := lc_ite_pos hc1 hf
    exact lc_lo.rf.tr (gP_annotate_19 hf)
  · replace hf := lc_ite_neg hc1 hf
    obtain ⟨hw2, hf⟩ := lc_chk_some hf
    obtain ⟨hw3, hf⟩ := lc_chk_some hf
    obtain ⟨hw4, hf⟩ := lc_chk_some hf
    exact ((lc_lo.rf.ui (lc_bp hw2 (d := 6) (by decide))).ui (lc_bp hw2 (d := 7) (by decide))).tr (gP_annotate_19 hf)
set_option maxHeartbeats 1000000 in
theorem gP_addLeaf {o0 : Nat} {a1 : Int32} {a2 : Int32} {a3 : Int32} {z : lc_S} {r} {z' : lc_S} (hf : fP_addLeaf o0 a1 a2 a3 z = some (r, z')) : lc_lo z z' := by
  rw [fP_addLeaf] at hf
  obtain ⟨hw1, hf⟩ := lc_chk_some hf
  obtain ⟨r5, z5, hz5, hf⟩ := lc_bnd_some hf
  have gz5 : lc_lo z z5 := lc_lo.rf.tr (gP_addForm hz5)
  obtain ⟨r15, z15, hz15, hf⟩ := lc_bnd_some hf
  have gz15 : lc_lo z z15 := gz5.tr (gP_annotate hz15)
  cases hf
  exact gz15
set_option maxHeartbeats 1000000 in
theorem gR_addVariable_7 : ∀ {n : Nat} {x1 : Int32} {x2 : Int32} {z : lc_S} {r} {z' : lc_S}, fR_addVariable_7 n x1 x2 z = some (r, z') → lc_lo z z' := by
  intro n
  induction n with
  | zero =>
    intro x1 x2 z r z' hf
    cases (show none = some (r, z') from hf)
  | succ n ih =>
    intro x1 x2 z r z' hf
    rw [fR_addVariable_7] at hf
    by_cases hc1 : x2 < 0
    · replace hf := lc_ite_pos hc1 hf
      obtain ⟨q55, hq55, hf⟩ := lc_bnr_some hf
      obtain ⟨hw2, hf⟩ := lc_chk_some hf
      obtain ⟨r62, z62, hz62, hf⟩ := lc_bnd_some hf
      have gz62 : lc_lo z z62 := (lc_lo.rf.ui (by decide)).tr (gP_addLeaf hz62)
      cases hf
      exact gz62
    · replace hf := lc_ite_neg hc1 hf
      obtain ⟨hw3, hf⟩ := lc_chk_some hf
      by_cases hc4 : (lcI z 5 x2.toNatClampNeg) = x1
      · replace hf := lc_ite_pos hc4 hf
        obtain ⟨q22, hq22, hf⟩ := lc_bnr_some hf
        obtain ⟨hw5, hf⟩ := lc_chk_some hf
        obtain ⟨hw6, hf⟩ := lc_chk_some hf
        obtain ⟨hw7, hf⟩ := lc_chk_some hf
        obtain ⟨r39, z39, hz39, hf⟩ := lc_bnd_some hf
        have gz39 : lc_lo z z39 := lc_lo.rf.tr (gP_addLeaf hz39)
        cases hf
        exact gz39
      · replace hf := lc_ite_neg hc4 hf
        obtain ⟨x43, ex43⟩ : ∃ x, x = x2 + (-1) := ⟨_, rfl⟩
        replace hf := lc_let_of ex43 hf
        exact lc_lo.rf.tr (ih hf)
set_option maxHeartbeats 1000000 in
theorem gR_addVariable {a1 : Int32} {z : lc_S} {r} {z' : lc_S} (hf : fR_addVariable a1 z = some (r, z')) : lc_lo z z' := by
  rw [fR_addVariable] at hf
  obtain ⟨x6, ex6⟩ : ∃ x, x = (lcI z 4 8) - 1 := ⟨_, rfl⟩
  replace hf := lc_let_of ex6 hf
  exact lc_lo.rf.tr (gR_addVariable_7 hf)
set_option maxHeartbeats 1000000 in
theorem gR_isDigit_16 {z : lc_S} {r} {z' : lc_S} (hf : fR_isDigit_16 z = some (r, z')) : lc_lo z z' := by
  rw [fR_isDigit_16] at hf
  cases hf
  exact lc_lo.rf
set_option maxHeartbeats 1000000 in
theorem gR_isDigit {a0 : Int32} {z : lc_S} {r} {z' : lc_S} (hf : fR_isDigit a0 z = some (r, z')) : lc_lo z z' := by
  rw [fR_isDigit] at hf
  by_cases hc1 : a0 < 48
  · replace hf := lc_ite_pos hc1 hf
    exact lc_lo.rf.tr (gR_isDigit_16 hf)
  · replace hf := lc_ite_neg hc1 hf
    by_cases hc2 : 57 < a0
    · replace hf := lc_ite_pos hc2 hf
      exact lc_lo.rf.tr (gR_isDigit_16 hf)
    · replace hf := lc_ite_neg hc2 hf
      cases hf
      exact lc_lo.rf
set_option maxHeartbeats 1000000 in
theorem gR_readNumber_71 {x2 : Int32} {z : lc_S} {r} {z' : lc_S} (hf : fR_readNumber_71 x2 z = some (r, z')) : lc_lo z z' := by
  rw [fR_readNumber_71] at hf
  cases hf
  exact lc_lo.rf
set_option maxHeartbeats 1000000 in
theorem gR_readNumber_7 : ∀ {n : Nat} {x2 : Int32} {x3 : Int32} {z : lc_S} {r} {z' : lc_S}, fR_readNumber_7 n x2 x3 z = some (r, z') → lc_lo z z' := by
  intro n
  induction n with
  | zero =>
    intro x2 x3 z r z' hf
    cases (show none = some (r, z') from hf)
  | succ n ih =>
    intro x2 x3 z r z' hf
    rw [fR_readNumber_7] at hf
    by_cases hc1 : (lcI z 4 1) ≤ (lcI z 4 2)
    · replace hf := lc_ite_pos hc1 hf
      exact lc_lo.rf.tr (gR_readNumber_71 hf)
    · replace hf := lc_ite_neg hc1 hf
      obtain ⟨q19, hq19, hf⟩ := lc_bnr_some hf
      obtain ⟨hw2, hf⟩ := lc_chk_some hf
      obtain ⟨hw3, hf⟩ := lc_chk_some hf
      obtain ⟨r27, z27, hz27, hf⟩ := lc_bnd_some hf
      have gz27 : lc_lo z z27 := lc_lo.rf.tr (gR_isDigit hz27)
      by_cases hc4 : r27 = 0
      · replace hf := lc_ite_pos hc4 hf
        exact gz27.tr (gR_readNumber_71 hf)
      · replace hf := lc_ite_neg hc4 hf
        obtain ⟨q38, hq38, hf⟩ := lc_bnr_some hf
        obtain ⟨hw5, hf⟩ := lc_chk_some hf
        obtain ⟨hw6, hf⟩ := lc_chk_some hf
        obtain ⟨x50, ex50⟩ : ∃ x, x = ((10 * x2) + (lcI z27 q38 (lcI z27 4 2).toNatClampNeg)) - 48 := ⟨_, rfl⟩
        replace hf := lc_let_of ex50 hf
        obtain ⟨x51, ex51⟩ : ∃ x, x = x3 + 1 := ⟨_, rfl⟩
        replace hf := lc_let_of ex51 hf
        by_cases hc7 : x51 ≤ 4
        · replace hf := lc_ite_pos hc7 hf
          exact (gz27.ui (by decide)).tr (ih hf)
        · replace hf := lc_ite_neg hc7 hf
          cases hf
          exact (gz27.ui (by decide))
set_option maxHeartbeats 1000000 in
theorem gR_readNumber {a1 : Int32} {z : lc_S} {r} {z' : lc_S} (hf : fR_readNumber a1 z = some (r, z')) : lc_lo z z' := by
  rw [fR_readNumber] at hf
  obtain ⟨x4, ex4⟩ : ∃ x, x = a1 - 48 := ⟨_, rfl⟩
  replace hf := lc_let_of ex4 hf
  exact lc_lo.rf.tr (gR_readNumber_7 hf)
set_option maxHeartbeats 1000000 in
theorem gR_readOne {rc : Int32 → lc_S → Option (Int32 × lc_S)} (hrc : ∀ {d : Int32} {z : lc_S} {r} {z' : lc_S}, rc d z = some (r, z') → lc_lo z z') {a1 : Int32} {a2 : Int32} {z : lc_S} {r} {z' : lc_S} (hf : fR_readOne rc a1 a2 z = some (r, z')) : lc_lo z z' := by
  rw [fR_readOne] at hf
  obtain ⟨r2, z2, hz2, hf⟩ := lc_bnd_some hf
  have gz2 : lc_lo z z2 := lc_lo.rf.tr (hrc hz2)
  by_cases hc1 : r2 = (-1)
  · replace hf := lc_ite_pos hc1 hf
    cases hf
    exact gz2
  · replace hf := lc_ite_neg hc1 hf
    obtain ⟨q16, hq16, hf⟩ := lc_bnr_some hf
    obtain ⟨hw2, hf⟩ := lc_chk_some hf
    obtain ⟨r23, z23, hz23, hf⟩ := lc_bnd_some hf
    have gz23 : lc_lo z z23 := gz2.tr (gP_addForm hz23)
    cases hf
    exact gz23
set_option maxHeartbeats 1000000 in
theorem gR_readTwo_20 {rc : Int32 → lc_S → Option (Int32 × lc_S)} (hrc : ∀ {d : Int32} {z : lc_S} {r} {z' : lc_S}, rc d z = some (r, z') → lc_lo z z') {x1 : Int32} {x3 : Int32} {t0 : Int32} {z : lc_S} {r} {z' : lc_S} (hf : fR_readTwo_20 rc x1 x3 t0 z = some (r, z')) : lc_lo z z' := by
  rw [fR_readTwo_20] at hf
  by_cases hc1 : t0 = (-1)
  · replace hf := lc_ite_pos hc1 hf
    cases hf
    exact lc_lo.rf
  · replace hf := lc_ite_neg hc1 hf
    obtain ⟨q33, hq33, hf⟩ := lc_bnr_some hf
    obtain ⟨hw2, hf⟩ := lc_chk_some hf
    obtain ⟨r41, z41, hz41, hf⟩ := lc_bnd_some hf
    have gz41 : lc_lo z z41 := lc_lo.rf.tr (gP_addForm hz41)
    cases hf
    exact gz41
set_option maxHeartbeats 1000000 in
theorem gR_readTwo {rc : Int32 → lc_S → Option (Int32 × lc_S)} (hrc : ∀ {d : Int32} {z : lc_S} {r} {z' : lc_S}, rc d z = some (r, z') → lc_lo z z') {a1 : Int32} {a2 : Int32} {z : lc_S} {r} {z' : lc_S} (hf : fR_readTwo rc a1 a2 z = some (r, z')) : lc_lo z z' := by
  rw [fR_readTwo] at hf
  obtain ⟨r2, z2, hz2, hf⟩ := lc_bnd_some hf
  have gz2 : lc_lo z z2 := lc_lo.rf.tr (hrc hz2)
  by_cases hc1 : r2 = (-1)
  · replace hf := lc_ite_pos hc1 hf
    exact gz2.tr (gR_readTwo_20 hrc hf)
  · replace hf := lc_ite_neg hc1 hf
    obtain ⟨r17, z17, hz17, hf⟩ := lc_bnd_some hf
    have gz17 : lc_lo z z17 := gz2.tr (hrc hz17)
    exact gz17.tr (gR_readTwo_20 hrc hf)
set_option maxHeartbeats 1000000 in
theorem gR_readThree_37 {rc : Int32 → lc_S → Option (Int32 × lc_S)} (hrc : ∀ {d : Int32} {z : lc_S} {r} {z' : lc_S}, rc d z = some (r, z') → lc_lo z z') {x1 : Int32} {x3 : Int32} {x4 : Int32} {t0 : Int32} {z : lc_S} {r} {z' : lc_S} (hf : fR_readThree_37 rc x1 x3 x4 t0 z = some (r, z')) : lc_lo z z' := by
  rw [fR_readThree_37] at hf
  by_cases hc1 : t0 = (-1)
  · replace hf := lc_ite_pos hc1 hf
    cases hf
    exact lc_lo.rf
  · replace hf := lc_ite_neg hc1 hf
    obtain ⟨q50, hq50, hf⟩ := lc_bnr_some hf
    obtain ⟨hw2, hf⟩ := lc_chk_some hf
    obtain ⟨r59, z59, hz59, hf⟩ := lc_bnd_some hf
    have gz59 : lc_lo z z59 := lc_lo.rf.tr (gP_addForm hz59)
    cases hf
    exact gz59
set_option maxHeartbeats 1000000 in
theorem gR_readThree_20 {rc : Int32 → lc_S → Option (Int32 × lc_S)} (hrc : ∀ {d : Int32} {z : lc_S} {r} {z' : lc_S}, rc d z = some (r, z') → lc_lo z z') {x1 : Int32} {x2 : Int32} {x3 : Int32} {t0 : Int32} {z : lc_S} {r} {z' : lc_S} (hf : fR_readThree_20 rc x1 x2 x3 t0 z = some (r, z')) : lc_lo z z' := by
  rw [fR_readThree_20] at hf
  by_cases hc1 : t0 = (-1)
  · replace hf := lc_ite_pos hc1 hf
    exact lc_lo.rf.tr (gR_readThree_37 hrc hf)
  · replace hf := lc_ite_neg hc1 hf
    obtain ⟨r34, z34, hz34, hf⟩ := lc_bnd_some hf
    have gz34 : lc_lo z z34 := lc_lo.rf.tr (hrc hz34)
    exact gz34.tr (gR_readThree_37 hrc hf)
set_option maxHeartbeats 1000000 in
theorem gR_readThree {rc : Int32 → lc_S → Option (Int32 × lc_S)} (hrc : ∀ {d : Int32} {z : lc_S} {r} {z' : lc_S}, rc d z = some (r, z') → lc_lo z z') {a1 : Int32} {a2 : Int32} {z : lc_S} {r} {z' : lc_S} (hf : fR_readThree rc a1 a2 z = some (r, z')) : lc_lo z z' := by
  rw [fR_readThree] at hf
  obtain ⟨r2, z2, hz2, hf⟩ := lc_bnd_some hf
  have gz2 : lc_lo z z2 := lc_lo.rf.tr (hrc hz2)
  by_cases hc1 : r2 = (-1)
  · replace hf := lc_ite_pos hc1 hf
    exact gz2.tr (gR_readThree_20 hrc hf)
  · replace hf := lc_ite_neg hc1 hf
    obtain ⟨r17, z17, hz17, hf⟩ := lc_bnd_some hf
    have gz17 : lc_lo z z17 := gz2.tr (hrc hz17)
    exact gz17.tr (gR_readThree_20 hrc hf)
set_option maxHeartbeats 1000000 in
theorem gP_addBinder {o0 : Nat} {a1 : Int32} {z : lc_S} {r} {z' : lc_S} (hf : fP_addBinder o0 a1 z = some (r, z')) : lc_lo z z' := by
  rw [fP_addBinder] at hf
  obtain ⟨hw1, hf⟩ := lc_chk_some hf
  by_cases hc2 : (lcI z o0 13) < 24
  · replace hf := lc_ite_pos hc2 hf
    obtain ⟨hw3, hf⟩ := lc_chk_some hf
    cases hf
    exact ((lc_lo.rf.ui (lc_bp hw1 (d := 8) (by decide))).ui (lc_bp hw1 (d := 0) (by decide)))
  · replace hf := lc_ite_neg hc2 hf
    cases hf
    exact lc_lo.rf
set_option maxHeartbeats 1000000 in
theorem gR_forgetNames_0 : ∀ {n : Nat} {x1 : Int32} {z : lc_S} {r} {z' : lc_S}, fR_forgetNames_0 n x1 z = some (r, z') → lc_lo z z' := by
  intro n
  induction n with
  | zero =>
    intro x1 z r z' hf
    cases (show none = some (r, z') from hf)
  | succ n ih =>
    intro x1 z r z' hf
    rw [fR_forgetNames_0] at hf
    by_cases hc1 : (lcI z 4 8) ≤ 0
    · replace hf := lc_ite_pos hc1 hf
      cases hf
      exact lc_lo.rf
    · replace hf := lc_ite_neg hc1 hf
      obtain ⟨hw2, hf⟩ := lc_chk_some hf
      by_cases hc3 : (lcI z 6 ((lcI z 4 8) - 1).toNatClampNeg) = x1
      · replace hf := lc_ite_pos hc3 hf
        exact (lc_lo.rf.ui (by decide)).tr (ih hf)
      · replace hf := lc_ite_neg hc3 hf
        cases hf
        exact lc_lo.rf
set_option maxHeartbeats 1000000 in
theorem gR_forgetNames {a1 : Int32} {z : lc_S} {r} {z' : lc_S} (hf : fR_forgetNames a1 z = some (r, z')) : lc_lo z z' := by
  rw [fR_forgetNames] at hf
  exact lc_lo.rf.tr (gR_forgetNames_0 hf)
set_option maxHeartbeats 1000000 in
theorem gR_readBound {rc : Int32 → lc_S → Option (Int32 × lc_S)} (hrc : ∀ {d : Int32} {z : lc_S} {r} {z' : lc_S}, rc d z = some (r, z') → lc_lo z z') {a1 : Int32} {a2 : Int32} {a3 : Int32} {a4 : Int32} {z : lc_S} {r} {z' : lc_S} (hf : fR_readBound rc a1 a2 a3 a4 z = some (r, z')) : lc_lo z z' := by
  rw [fR_readBound] at hf
  obtain ⟨r3, z3, hz3, hf⟩ := lc_bnd_some hf
  have gz3 : lc_lo z z3 := lc_lo.rf.tr (hrc hz3)
  obtain ⟨r10, z10, hz10, hf⟩ := lc_bnd_some hf
  have gz10 : lc_lo z z10 := gz3.tr (gR_forgetNames hz10)
  by_cases hc1 : r3 = (-1)
  · replace hf := lc_ite_pos hc1 hf
    cases hf
    exact gz10
  · replace hf := lc_ite_neg hc1 hf
    obtain ⟨q22, hq22, hf⟩ := lc_bnr_some hf
    obtain ⟨q26, hq26, hf⟩ := lc_bnr_some hf
    obtain ⟨hw2, hf⟩ := lc_chk_some hf
    obtain ⟨r34, z34, hz34, hf⟩ := lc_bnd_some hf
    have gz34 : lc_lo z z34 := gz10.tr (gP_addForm hz34)
    obtain ⟨hw3, hf⟩ := lc_chk_some hf
    obtain ⟨r39, z39, hz39, hf⟩ := lc_bnd_some hf
    have gz39 : lc_lo z z39 := gz34.tr (gP_annotate hz39)
    cases hf
    exact gz39
set_option maxHeartbeats 1000000 in
theorem gR_readLet_37 {rc : Int32 → lc_S → Option (Int32 × lc_S)} (hrc : ∀ {d : Int32} {z : lc_S} {r} {z' : lc_S}, rc d z = some (r, z') → lc_lo z z') {x1 : Int32} {x2 : Int32} {x3 : Int32} {t0 : Int32} {z : lc_S} {r} {z' : lc_S} (hf : fR_readLet_37 rc x1 x2 x3 t0 z = some (r, z')) : lc_lo z z' := by
  rw [fR_readLet_37] at hf
  by_cases hc1 : t0 = (-1)
  · replace hf := lc_ite_pos hc1 hf
    cases hf
    exact lc_lo.rf
  · replace hf := lc_ite_neg hc1 hf
    obtain ⟨r52, z52, hz52, hf⟩ := lc_bnd_some hf
    have gz52 : lc_lo z z52 := lc_lo.rf.tr (gR_addName hz52)
    obtain ⟨r62, z62, hz62, hf⟩ := lc_bnd_some hf
    have gz62 : lc_lo z z62 := gz52.tr (gR_readBound hrc hz62)
    cases hf
    exact gz62
set_option maxHeartbeats 1000000 in
theorem gR_readLet {rc : Int32 → lc_S → Option (Int32 × lc_S)} (hrc : ∀ {d : Int32} {z : lc_S} {r} {z' : lc_S}, rc d z = some (r, z') → lc_lo z z') {a1 : Int32} {z : lc_S} {r} {z' : lc_S} (hf : fR_readLet rc a1 z = some (r, z')) : lc_lo z z' := by
  rw [fR_readLet] at hf
  obtain ⟨r1, z1, hz1, hf⟩ := lc_bnd_some hf
  have gz1 : lc_lo z z1 := lc_lo.rf.tr (gR_nextSign hz1)
  obtain ⟨r6, z6, hz6, hf⟩ := lc_bnd_some hf
  have gz6 : lc_lo z z6 := gz1.tr (gR_isLetter hz6)
  by_cases hc1 : r6 = 0
  · replace hf := lc_ite_pos hc1 hf
    cases hf
    exact gz6
  · replace hf := lc_ite_neg hc1 hf
    obtain ⟨r16, z16, hz16, hf⟩ := lc_bnd_some hf
    have gz16 : lc_lo z z16 := gz6.tr (hrc hz16)
    by_cases hc2 : r16 = (-1)
    · replace hf := lc_ite_pos hc2 hf
      exact gz16.tr (gR_readLet_37 hrc hf)
    · replace hf := lc_ite_neg hc2 hf
      obtain ⟨q30, hq30, hf⟩ := lc_bnr_some hf
      obtain ⟨hw3, hf⟩ := lc_chk_some hf
      obtain ⟨r34, z34, hz34, hf⟩ := lc_bnd_some hf
      have gz34 : lc_lo z z34 := gz16.tr (gP_addBinder hz34)
      exact gz34.tr (gR_readLet_37 hrc hf)
set_option maxHeartbeats 1000000 in
theorem gR_readSplit_29 {rc : Int32 → lc_S → Option (Int32 × lc_S)} (hrc : ∀ {d : Int32} {z : lc_S} {r} {z' : lc_S}, rc d z = some (r, z') → lc_lo z z') {z : lc_S} {r} {z' : lc_S} (hf : fR_readSplit_29 rc z = some (r, z')) : lc_lo z z' := by
  rw [fR_readSplit_29] at hf
  cases hf
  exact lc_lo.rf
set_option maxHeartbeats 1000000 in
theorem gR_readSplit_57 {rc : Int32 → lc_S → Option (Int32 × lc_S)} (hrc : ∀ {d : Int32} {z : lc_S} {r} {z' : lc_S}, rc d z = some (r, z') → lc_lo z z') {x1 : Int32} {x2 : Int32} {x3 : Int32} {x4 : Int32} {t0 : Int32} {z : lc_S} {r} {z' : lc_S} (hf : fR_readSplit_57 rc x1 x2 x3 x4 t0 z = some (r, z')) : lc_lo z z' := by
  rw [fR_readSplit_57] at hf
  by_cases hc1 : t0 = (-1)
  · replace hf := lc_ite_pos hc1 hf
    cases hf
    exact lc_lo.rf
  · replace hf := lc_ite_neg hc1 hf
    obtain ⟨r72, z72, hz72, hf⟩ := lc_bnd_some hf
    have gz72 : lc_lo z z72 := lc_lo.rf.tr (gR_addName hz72)
    obtain ⟨r80, z80, hz80, hf⟩ := lc_bnd_some hf
    have gz80 : lc_lo z z80 := gz72.tr (gR_addName hz80)
    obtain ⟨r91, z91, hz91, hf⟩ := lc_bnd_some hf
    have gz91 : lc_lo z z91 := gz80.tr (gR_readBound hrc hz91)
    cases hf
    exact gz91
set_option maxHeartbeats 1000000 in
theorem gR_readSplit {rc : Int32 → lc_S → Option (Int32 × lc_S)} (hrc : ∀ {d : Int32} {z : lc_S} {r} {z' : lc_S}, rc d z = some (r, z') → lc_lo z z') {a1 : Int32} {z : lc_S} {r} {z' : lc_S} (hf : fR_readSplit rc a1 z = some (r, z')) : lc_lo z z' := by
  rw [fR_readSplit] at hf
  obtain ⟨r1, z1, hz1, hf⟩ := lc_bnd_some hf
  have gz1 : lc_lo z z1 := lc_lo.rf.tr (gR_nextSign hz1)
  obtain ⟨r6, z6, hz6, hf⟩ := lc_bnd_some hf
  have gz6 : lc_lo z z6 := gz1.tr (gR_nextSign hz6)
  obtain ⟨r11, z11, hz11, hf⟩ := lc_bnd_some hf
  have gz11 : lc_lo z z11 := gz6.tr (gR_isLetter hz11)
  by_cases hc1 : r11 = 0
  · replace hf := lc_ite_pos hc1 hf
    exact gz11.tr (gR_readSplit_29 hrc hf)
  · replace hf := lc_ite_neg hc1 hf
    obtain ⟨r18, z18, hz18, hf⟩ := lc_bnd_some hf
    have gz18 : lc_lo z z18 := gz11.tr (gR_isLetter hz18)
    by_cases hc2 : r18 = 0
    · replace hf := lc_ite_pos hc2 hf
      exact gz18.tr (gR_readSplit_29 hrc hf)
    · replace hf := lc_ite_neg hc2 hf
      by_cases hc3 : r1 = r6
      · replace hf := lc_ite_pos hc3 hf
        exact gz18.tr (gR_readSplit_29 hrc hf)
      · replace hf := lc_ite_neg hc3 hf
        obtain ⟨r33, z33, hz33, hf⟩ := lc_bnd_some hf
        have gz33 : lc_lo z z33 := gz18.tr (hrc hz33)
        by_cases hc4 : r33 = (-1)
        · replace hf := lc_ite_pos hc4 hf
          exact gz33.tr (gR_readSplit_57 hrc hf)
        · replace hf := lc_ite_neg hc4 hf
          obtain ⟨q49, hq49, hf⟩ := lc_bnr_some hf
          obtain ⟨hw5, hf⟩ := lc_chk_some hf
          obtain ⟨r54, z54, hz54, hf⟩ := lc_bnd_some hf
          have gz54 : lc_lo z z54 := gz33.tr (gP_addBinder hz54)
          exact gz54.tr (gR_readSplit_57 hrc hf)
set_option maxHeartbeats 1000000 in
theorem gR_readCall_21 {rc : Int32 → lc_S → Option (Int32 × lc_S)} (hrc : ∀ {d : Int32} {z : lc_S} {r} {z' : lc_S}, rc d z = some (r, z') → lc_lo z z') {x1 : Int32} {t0 : Int32} {z : lc_S} {r} {z' : lc_S} (hf : fR_readCall_21 rc x1 t0 z = some (r, z')) : lc_lo z z' := by
  rw [fR_readCall_21] at hf
  obtain ⟨r23, z23, hz23, hf⟩ := lc_bnd_some hf
  have gz23 : lc_lo z z23 := lc_lo.rf.tr (gA_isProcedureNumber hz23)
  by_cases hc1 : r23 = 0
  · replace hf := lc_ite_pos hc1 hf
    cases hf
    exact gz23
  · replace hf := lc_ite_neg hc1 hf
    obtain ⟨q32, hq32, hf⟩ := lc_bnr_some hf
    obtain ⟨hw2, hf⟩ := lc_chk_some hf
    obtain ⟨r50, z50, hz50, hf⟩ := lc_bnd_some hf
    have gz50 : lc_lo z z50 := (gz23.ui (lc_bp hw2 (d := 0) (by decide))).tr (gR_readOne hrc hz50)
    obtain ⟨q56, hq56, hf⟩ := lc_bnr_some hf
    obtain ⟨hw3, hf⟩ := lc_chk_some hf
    obtain ⟨r63, z63, hz63, hf⟩ := lc_bnd_some hf
    have gz63 : lc_lo z z63 := gz50.tr (gP_annotate hz63)
    cases hf
    exact gz63
set_option maxHeartbeats 1000000 in
theorem gR_readCall {rc : Int32 → lc_S → Option (Int32 × lc_S)} (hrc : ∀ {d : Int32} {z : lc_S} {r} {z' : lc_S}, rc d z = some (r, z') → lc_lo z z') {a1 : Int32} {z : lc_S} {r} {z' : lc_S} (hf : fR_readCall rc a1 z = some (r, z')) : lc_lo z z' := by
  rw [fR_readCall] at hf
  obtain ⟨r1, z1, hz1, hf⟩ := lc_bnd_some hf
  have gz1 : lc_lo z z1 := lc_lo.rf.tr (gR_nextSign hz1)
  obtain ⟨r6, z6, hz6, hf⟩ := lc_bnd_some hf
  have gz6 : lc_lo z z6 := gz1.tr (gR_isDigit hz6)
  by_cases hc1 : r6 = 0
  · replace hf := lc_ite_pos hc1 hf
    exact gz6.tr (gR_readCall_21 hrc hf)
  · replace hf := lc_ite_neg hc1 hf
    obtain ⟨r14, z14, hz14, hf⟩ := lc_bnd_some hf
    have gz14 : lc_lo z z14 := gz6.tr (gR_readNumber hz14)
    exact gz14.tr (gR_readCall_21 hrc hf)
set_option maxHeartbeats 1000000 in
theorem gR_readForm_123 {rc : Int32 → lc_S → Option (Int32 × lc_S)} (hrc : ∀ {d : Int32} {z : lc_S} {r} {z' : lc_S}, rc d z = some (r, z') → lc_lo z z') {x1 : Int32} {x2 : Int32} {z : lc_S} {r} {z' : lc_S} (hf : fR_readForm_123 rc x1 x2 z = some (r, z')) : lc_lo z z' := by
  rw [fR_readForm_123] at hf
  obtain ⟨r126, z126, hz126, hf⟩ := lc_bnd_some hf
  have gz126 : lc_lo z z126 := lc_lo.rf.tr (gR_readTwo hrc hz126)
  cases hf
  exact gz126
set_option maxHeartbeats 1000000 in
theorem gR_readForm_116 {rc : Int32 → lc_S → Option (Int32 × lc_S)} (hrc : ∀ {d : Int32} {z : lc_S} {r} {z' : lc_S}, rc d z = some (r, z') → lc_lo z z') {x1 : Int32} {x2 : Int32} {z : lc_S} {r} {z' : lc_S} (hf : fR_readForm_116 rc x1 x2 z = some (r, z')) : lc_lo z z' := by
  rw [fR_readForm_116] at hf
  obtain ⟨r119, z119, hz119, hf⟩ := lc_bnd_some hf
  have gz119 : lc_lo z z119 := lc_lo.rf.tr (gR_readOne hrc hz119)
  cases hf
  exact gz119
set_option maxHeartbeats 1000000 in
theorem gR_readForm {rc : Int32 → lc_S → Option (Int32 × lc_S)} (hrc : ∀ {d : Int32} {z : lc_S} {r} {z' : lc_S}, rc d z = some (r, z') → lc_lo z z') {a1 : Int32} {a2 : Int32} {z : lc_S} {r} {z' : lc_S} (hf : fR_readForm rc a1 a2 z = some (r, z')) : lc_lo z z' := by
  rw [fR_readForm] at hf
  by_cases hc1 : a1 = 42
  · replace hf := lc_ite_pos hc1 hf
    exact lc_lo.rf.tr (gR_readForm_123 hrc hf)
  · replace hf := lc_ite_neg hc1 hf
    by_cases hc2 : a1 = 43
    · replace hf := lc_ite_pos hc2 hf
      exact lc_lo.rf.tr (gR_readForm_123 hrc hf)
    · replace hf := lc_ite_neg hc2 hf
      by_cases hc3 : a1 = 44
      · replace hf := lc_ite_pos hc3 hf
        exact lc_lo.rf.tr (gR_readForm_123 hrc hf)
      · replace hf := lc_ite_neg hc3 hf
        by_cases hc4 : a1 = 45
        · replace hf := lc_ite_pos hc4 hf
          exact lc_lo.rf.tr (gR_readForm_123 hrc hf)
        · replace hf := lc_ite_neg hc4 hf
          by_cases hc5 : a1 = 47
          · replace hf := lc_ite_pos hc5 hf
            obtain ⟨r145, z145, hz145, hf⟩ := lc_bnd_some hf
            have gz145 : lc_lo z z145 := lc_lo.rf.tr (gR_readSplit hrc hz145)
            cases hf
            exact gz145
          · replace hf := lc_ite_neg hc5 hf
            by_cases hc6 : a1 = 58
            · replace hf := lc_ite_pos hc6 hf
              obtain ⟨r139, z139, hz139, hf⟩ := lc_bnd_some hf
              have gz139 : lc_lo z z139 := lc_lo.rf.tr (gR_readLet hrc hz139)
              cases hf
              exact gz139
            · replace hf := lc_ite_neg hc6 hf
              by_cases hc7 : a1 = 60
              · replace hf := lc_ite_pos hc7 hf
                exact lc_lo.rf.tr (gR_readForm_123 hrc hf)
              · replace hf := lc_ite_neg hc7 hf
                by_cases hc8 : a1 = 63
                · replace hf := lc_ite_pos hc8 hf
                  obtain ⟨r133, z133, hz133, hf⟩ := lc_bnd_some hf
                  have gz133 : lc_lo z z133 := lc_lo.rf.tr (gR_readThree hrc hz133)
                  cases hf
                  exact gz133
                · replace hf := lc_ite_neg hc8 hf
                  by_cases hc9 : a1 = 64
                  · replace hf := lc_ite_pos hc9 hf
                    obtain ⟨r151, z151, hz151, hf⟩ := lc_bnd_some hf
                    have gz151 : lc_lo z z151 := lc_lo.rf.tr (gR_readCall hrc hz151)
                    cases hf
                    exact gz151
                  · replace hf := lc_ite_neg hc9 hf
                    by_cases hc10 : a1 = 100
                    · replace hf := lc_ite_pos hc10 hf
                      exact lc_lo.rf.tr (gR_readForm_116 hrc hf)
                    · replace hf := lc_ite_neg hc10 hf
                      by_cases hc11 : a1 = 103
                      · replace hf := lc_ite_pos hc11 hf
                        exact lc_lo.rf.tr (gR_readForm_116 hrc hf)
                      · replace hf := lc_ite_neg hc11 hf
                        by_cases hc12 : a1 = 110
                        · replace hf := lc_ite_pos hc12 hf
                          exact lc_lo.rf.tr (gR_readForm_116 hrc hf)
                        · replace hf := lc_ite_neg hc12 hf
                          by_cases hc13 : a1 = 112
                          · replace hf := lc_ite_pos hc13 hf
                            exact lc_lo.rf.tr (gR_readForm_123 hrc hf)
                          · replace hf := lc_ite_neg hc13 hf
                            cases hf
                            exact lc_lo.rf
set_option maxHeartbeats 1000000 in
theorem gR_readExpression_98 {rc : Int32 → lc_S → Option (Int32 × lc_S)} (hrc : ∀ {d : Int32} {z : lc_S} {r} {z' : lc_S}, rc d z = some (r, z') → lc_lo z z') {z : lc_S} {r} {z' : lc_S} (hf : fR_readExpression_98 rc z = some (r, z')) : lc_lo z z' := by
  rw [fR_readExpression_98] at hf
  cases hf
  exact lc_lo.rf
set_option maxHeartbeats 1000000 in
theorem gR_readExpressionB {rc : Int32 → lc_S → Option (Int32 × lc_S)} (hrc : ∀ {d : Int32} {z : lc_S} {r} {z' : lc_S}, rc d z = some (r, z') → lc_lo z z') {a1 : Int32} {z : lc_S} {r} {z' : lc_S} (hf : fR_readExpressionB rc a1 z = some (r, z')) : lc_lo z z' := by
  rw [fR_readExpressionB] at hf
  by_cases hc1 : a1 ≤ 16
  · replace hf := lc_ite_pos hc1 hf
    obtain ⟨r9, z9, hz9, hf⟩ := lc_bnd_some hf
    have gz9 : lc_lo z z9 := lc_lo.rf.tr (gR_nextSign hz9)
    obtain ⟨r14, z14, hz14, hf⟩ := lc_bnd_some hf
    have gz14 : lc_lo z z14 := gz9.tr (gR_isLetter hz14)
    by_cases hc2 : r14 = 0
    · replace hf := lc_ite_pos hc2 hf
      obtain ⟨r27, z27, hz27, hf⟩ := lc_bnd_some hf
      have gz27 : lc_lo z z27 := gz14.tr (gR_isDigit hz27)
      by_cases hc3 : r27 = 0
      · replace hf := lc_ite_pos hc3 hf
        by_cases hc4 : r9 = 40
        · replace hf := lc_ite_pos hc4 hf
          obtain ⟨r70, z70, hz70, hf⟩ := lc_bnd_some hf
          have gz70 : lc_lo z z70 := gz27.tr (gR_nextSign hz70)
          obtain ⟨r76, z76, hz76, hf⟩ := lc_bnd_some hf
          have gz76 : lc_lo z z76 := gz70.tr (gR_readForm hrc hz76)
          by_cases hc5 : r76 = (-1)
          · replace hf := lc_ite_pos hc5 hf
            exact gz76.tr (gR_readExpression_98 hrc hf)
          · replace hf := lc_ite_neg hc5 hf
            obtain ⟨r86, z86, hz86, hf⟩ := lc_bnd_some hf
            have gz86 : lc_lo z z86 := gz76.tr (gR_nextSign hz86)
            by_cases hc6 : r86 = 41
            · replace hf := lc_ite_pos hc6 hf
              cases hf
              exact gz86
            · replace hf := lc_ite_neg hc6 hf
              exact gz86.tr (gR_readExpression_98 hrc hf)
        · replace hf := lc_ite_neg hc4 hf
          cases hf
          exact gz27
      · replace hf := lc_ite_neg hc3 hf
        obtain ⟨r35, z35, hz35, hf⟩ := lc_bnd_some hf
        have gz35 : lc_lo z z35 := gz27.tr (gR_readNumber hz35)
        by_cases hc7 : r35 = (-1)
        · replace hf := lc_ite_pos hc7 hf
          cases hf
          exact gz35
        · replace hf := lc_ite_neg hc7 hf
          obtain ⟨q49, hq49, hf⟩ := lc_bnr_some hf
          obtain ⟨hw8, hf⟩ := lc_chk_some hf
          obtain ⟨r56, z56, hz56, hf⟩ := lc_bnd_some hf
          have gz56 : lc_lo z z56 := gz35.tr (gP_addLeaf hz56)
          cases hf
          exact gz56
    · replace hf := lc_ite_neg hc2 hf
      obtain ⟨r22, z22, hz22, hf⟩ := lc_bnd_some hf
      have gz22 : lc_lo z z22 := gz14.tr (gR_addVariable hz22)
      cases hf
      exact gz22
  · replace hf := lc_ite_neg hc1 hf
    cases hf
    exact lc_lo.rf
set_option maxHeartbeats 1000000 in
theorem gR_readExpression : ∀ {n : Nat} {a1 : Int32} {z : lc_S} {r} {z' : lc_S}, fR_readExpression n a1 z = some (r, z') → lc_lo z z' := by
  intro n
  induction n with
  | zero =>
    intro a1 z r z' hf
    cases (show none = some (r, z') from hf)
  | succ n ih =>
    intro a1 z r z' hf
    rw [fR_readExpression] at hf
    exact lc_lo.rf.tr (gR_readExpressionB (fun h => ih h) hf)
set_option maxHeartbeats 1000000 in
theorem gR_reads_59 {z : lc_S} {r} {z' : lc_S} (hf : fR_reads_59 z = some (r, z')) : lc_lo z z' := by
  rw [fR_reads_59] at hf
  cases hf
  exact lc_lo.rf
set_option maxHeartbeats 1000000 in
theorem gR_reads_111 {z : lc_S} {r} {z' : lc_S} (hf : fR_reads_111 z = some (r, z')) : lc_lo z z' := by
  rw [fR_reads_111] at hf
  cases hf
  exact lc_lo.rf
set_option maxHeartbeats 1000000 in
theorem gR_reads {a1 : Nat} {a2 : Int32} {a3 : Nat} {z : lc_S} {r} {z' : lc_S} (hf : fR_reads a1 a2 a3 z = some (r, z')) : lc_lo z z' := by
  rw [fR_reads] at hf
  obtain ⟨q21, hq21, hf⟩ := lc_bnr_some hf
  obtain ⟨hw1, hf⟩ := lc_chk_some hf
  obtain ⟨r24, z24, hz24, hf⟩ := lc_bnd_some hf
  have gz24 : lc_lo z z24 := ((((lc_lo.rf.ur (by decide)).ui (by decide)).ui (by decide)).ur (by decide)).tr (gP_clear hz24)
  obtain ⟨r38, z38, hz38, hf⟩ := lc_bnd_some hf
  have gz38 : lc_lo z z38 := ((gz24.ui (by decide)).ui (by decide)).tr (gR_nextSign hz38)
  obtain ⟨r45, z45, hz45, hf⟩ := lc_bnd_some hf
  have gz45 : lc_lo z z45 := gz38.tr (gR_isLetter hz45)
  by_cases hc2 : r45 = 0
  · replace hf := lc_ite_pos hc2 hf
    exact gz45.tr (gR_reads_59 hf)
  · replace hf := lc_ite_neg hc2 hf
    obtain ⟨r53, z53, hz53, hf⟩ := lc_bnd_some hf
    have gz53 : lc_lo z z53 := gz45.tr (gR_readType hz53)
    by_cases hc3 : r53 = 0
    · replace hf := lc_ite_pos hc3 hf
      exact gz53.tr (gR_reads_59 hf)
    · replace hf := lc_ite_neg hc3 hf
      obtain ⟨q62, hq62, hf⟩ := lc_bnr_some hf
      obtain ⟨q66, hq66, hf⟩ := lc_bnr_some hf
      obtain ⟨hw4, hf⟩ := lc_chk_some hf
      obtain ⟨hw5, hf⟩ := lc_chk_some hf
      obtain ⟨r80, z80, hz80, hf⟩ := lc_bnd_some hf
      have gz80 : lc_lo z z80 := (gz53.ui (lc_bp hw5 (d := 0) (by decide))).tr (gR_addName hz80)
      obtain ⟨r85, z85, hz85, hf⟩ := lc_bnd_some hf
      have gz85 : lc_lo z z85 := gz80.tr (gR_readType hz85)
      by_cases hc6 : r85 = 0
      · replace hf := lc_ite_pos hc6 hf
        exact gz85.tr (gR_reads_111 hf)
      · replace hf := lc_ite_neg hc6 hf
        obtain ⟨r93, z93, hz93, hf⟩ := lc_bnd_some hf
        have gz93 : lc_lo z z93 := gz85.tr (gR_readExpression hz93)
        by_cases hc7 : r93 = (-1)
        · replace hf := lc_ite_pos hc7 hf
          exact gz93.tr (gR_reads_111 hf)
        · replace hf := lc_ite_neg hc7 hf
          obtain ⟨r101, z101, hz101, hf⟩ := lc_bnd_some hf
          have gz101 : lc_lo z z101 := gz93.tr (gR_nextSign hz101)
          by_cases hc8 : r101 = 0
          · replace hf := lc_ite_pos hc8 hf
            cases hf
            exact gz101
          · replace hf := lc_ite_neg hc8 hf
            exact gz101.tr (gR_reads_111 hf)
set_option maxHeartbeats 1000000 in
theorem gR_metUnboundVariable {z : lc_S} {r} {z' : lc_S} (hf : fR_metUnboundVariable z = some (r, z')) : lc_lo z z' := by
  rw [fR_metUnboundVariable] at hf
  obtain ⟨hw1, hf⟩ := lc_chk_some hf
  cases hf
  exact lc_lo.rf
set_option maxHeartbeats 1000000 in
theorem gA_define_36 {z : lc_S} {r} {z' : lc_S} (hf : fA_define_36 z = some (r, z')) : lc_lo z z' := by
  rw [fA_define_36] at hf
  cases hf
  exact lc_lo.rf
set_option maxHeartbeats 1000000 in
theorem gA_define {a1 : Int32} {z : lc_S} {r} {z' : lc_S} (hf : fA_define a1 z = some (r, z')) : lc_lo z z' := by
  rw [fA_define] at hf
  obtain ⟨x4, ex4⟩ : ∃ x, x = lcI z 1 1 := ⟨_, rfl⟩
  replace hf := lc_let_of ex4 hf
  obtain ⟨r11, z11, hz11, hf⟩ := lc_bnd_some hf
  have gz11 : lc_lo z z11 := (lc_lo.rf.ui (by decide)).tr (gA_isProcedureNumber hz11)
  by_cases hc1 : r11 = 0
  · replace hf := lc_ite_pos hc1 hf
    exact gz11.tr (gA_define_36 hf)
  · replace hf := lc_ite_neg hc1 hf
    obtain ⟨q27, hq27, hf⟩ := lc_bnr_some hf
    obtain ⟨r30, z30, hz30, hf⟩ := lc_bnd_some hf
    have gz30 : lc_lo z z30 := gz11.tr (gR_reads hz30)
    by_cases hc2 : r30 = 0
    · replace hf := lc_ite_pos hc2 hf
      exact gz30.tr (gA_define_36 hf)
    · replace hf := lc_ite_neg hc2 hf
      obtain ⟨r48, z48, hz48, hf⟩ := lc_bnd_some hf
      have gz48 : lc_lo z z48 := gz30.tr (gR_metUnboundVariable hz48)
      by_cases hc3 : r48 = 0
      · replace hf := lc_ite_pos hc3 hf
        obtain ⟨hw4, hf⟩ := lc_chk_some hf
        obtain ⟨q67, hq67, hf⟩ := lc_bnr_some hf
        obtain ⟨q75, hq75, hf⟩ := lc_bnr_some hf
        obtain ⟨hw5, hf⟩ := lc_chk_some hf
        obtain ⟨hw6, hf⟩ := lc_chk_some hf
        obtain ⟨hw7, hf⟩ := lc_chk_some hf
        obtain ⟨q89, hq89, hf⟩ := lc_bnr_some hf
        obtain ⟨hw8, hf⟩ := lc_chk_some hf
        obtain ⟨hw9, hf⟩ := lc_chk_some hf
        obtain ⟨q99, hq99, hf⟩ := lc_bnr_some hf
        obtain ⟨hw10, hf⟩ := lc_chk_some hf
        cases hf
        exact (((gz48.ur (by decide)).ur (by decide)).ui (lc_bp hw8 (d := 0) (by decide)))
      · replace hf := lc_ite_neg hc3 hf
        cases hf
        exact gz48
set_option maxHeartbeats 1000000 in
theorem gA_isThere_23 {z : lc_S} {r} {z' : lc_S} (hf : fA_isThere_23 z = some (r, z')) : lc_lo z z' := by
  rw [fA_isThere_23] at hf
  cases hf
  exact lc_lo.rf
set_option maxHeartbeats 1000000 in
theorem gA_isThere {a1 : Int32} {z : lc_S} {r} {z' : lc_S} (hf : fA_isThere a1 z = some (r, z')) : lc_lo z z' := by
  rw [fA_isThere] at hf
  obtain ⟨r1, z1, hz1, hf⟩ := lc_bnd_some hf
  have gz1 : lc_lo z z1 := lc_lo.rf.tr (gA_isProcedureNumber hz1)
  by_cases hc1 : r1 = 0
  · replace hf := lc_ite_pos hc1 hf
    exact gz1.tr (gA_isThere_23 hf)
  · replace hf := lc_ite_neg hc1 hf
    obtain ⟨hw2, hf⟩ := lc_chk_some hf
    obtain ⟨q12, hq12, hf⟩ := lc_bnr_some hf
    obtain ⟨hw3, hf⟩ := lc_chk_some hf
    by_cases hc4 : (lcI z1 q12 0) = 0
    · replace hf := lc_ite_pos hc4 hf
      exact gz1.tr (gA_isThere_23 hf)
    · replace hf := lc_ite_neg hc4 hf
      cases hf
      exact gz1
set_option maxHeartbeats 1000000 in
theorem gA_hasBit {a0 : Int32} {a1 : Int32} {z : lc_S} {r} {z' : lc_S} (hf : fA_hasBit a0 a1 z = some (r, z')) : lc_lo z z' := by
  rw [fA_hasBit] at hf
  by_cases hc1 : ((a0 >>> (a1 &&& 31)) &&& 1) = 1
  · replace hf := lc_ite_pos hc1 hf
    cases hf
    exact lc_lo.rf
  · replace hf := lc_ite_neg hc1 hf
    cases hf
    exact lc_lo.rf
set_option maxHeartbeats 1000000 in
theorem gA_reachedFrom_55 {k6 : Int32 → Int32 → lc_S → Option ((Int32) × lc_S)} (hk6 : ∀ {v0 : Int32} {v1 : Int32} {z : lc_S} {r} {z' : lc_S}, k6 v0 v1 z = some (r, z') → lc_lo z z') {k14 : Int32 → Int32 → Int32 → lc_S → Option ((Int32) × lc_S)} (hk14 : ∀ {v0 : Int32} {v1 : Int32} {v2 : Int32} {z : lc_S} {r} {z' : lc_S}, k14 v0 v1 v2 z = some (r, z') → lc_lo z z') {x2 : Int32} {x3 : Int32} {x4 : Int32} {z : lc_S} {r} {z' : lc_S} (hf : fA_reachedFrom_55 k6 k14 x2 x3 x4 z = some (r, z')) : lc_lo z z' := by
  rw [fA_reachedFrom_55] at hf
  obtain ⟨x55, ex55⟩ : ∃ x, x = x4 + 1 := ⟨_, rfl⟩
  replace hf := lc_let_of ex55 hf
  exact lc_lo.rf.tr (hk14 hf)
set_option maxHeartbeats 1000000 in
theorem gA_reachedFrom_14 {k6 : Int32 → Int32 → lc_S → Option ((Int32) × lc_S)} (hk6 : ∀ {v0 : Int32} {v1 : Int32} {z : lc_S} {r} {z' : lc_S}, k6 v0 v1 z = some (r, z') → lc_lo z z') : ∀ {n : Nat} {x2 : Int32} {x3 : Int32} {x4 : Int32} {z : lc_S} {r} {z' : lc_S}, fA_reachedFrom_14 k6 n x2 x3 x4 z = some (r, z') → lc_lo z z' := by
  intro n
  induction n with
  | zero =>
    intro x2 x3 x4 z r z' hf
    cases (show none = some (r, z') from hf)
  | succ n ih =>
    intro x2 x3 x4 z r z' hf
    rw [fA_reachedFrom_14] at hf
    by_cases hc1 : 4 ≤ x4
    · replace hf := lc_ite_pos hc1 hf
      obtain ⟨x61, ex61⟩ : ∃ x, x = x3 + 1 := ⟨_, rfl⟩
      replace hf := lc_let_of ex61 hf
      exact lc_lo.rf.tr (hk6 hf)
    · replace hf := lc_ite_neg hc1 hf
      obtain ⟨r23, z23, hz23, hf⟩ := lc_bnd_some hf
      have gz23 : lc_lo z z23 := lc_lo.rf.tr (gA_hasBit hz23)
      by_cases hc2 : r23 = 0
      · replace hf := lc_ite_pos hc2 hf
        exact gz23.tr (gA_reachedFrom_55 (fun h => hk6 h) (fun h => ih h) hf)
      · replace hf := lc_ite_neg hc2 hf
        obtain ⟨hw3, hf⟩ := lc_chk_some hf
        obtain ⟨q35, hq35, hf⟩ := lc_bnr_some hf
        obtain ⟨hw4, hf⟩ := lc_chk_some hf
        by_cases hc5 : (lcI z23 q35 0) = 0
        · replace hf := lc_ite_pos hc5 hf
          exact gz23.tr (gA_reachedFrom_55 (fun h => hk6 h) (fun h => ih h) hf)
        · replace hf := lc_ite_neg hc5 hf
          obtain ⟨hw6, hf⟩ := lc_chk_some hf
          obtain ⟨q49, hq49, hf⟩ := lc_bnr_some hf
          obtain ⟨hw7, hf⟩ := lc_chk_some hf
          obtain ⟨x54, ex54⟩ : ∃ x, x = x2 ||| (lcI z23 q49 1) := ⟨_, rfl⟩
          replace hf := lc_let_of ex54 hf
          exact gz23.tr (gA_reachedFrom_55 (fun h => hk6 h) (fun h => ih h) hf)
set_option maxHeartbeats 1000000 in
theorem gA_reachedFrom_6 : ∀ {n : Nat} {x2 : Int32} {x3 : Int32} {z : lc_S} {r} {z' : lc_S}, fA_reachedFrom_6 n x2 x3 z = some (r, z') → lc_lo z z' := by
  intro n
  induction n with
  | zero =>
    intro x2 x3 z r z' hf
    cases (show none = some (r, z') from hf)
  | succ n ih =>
    intro x2 x3 z r z' hf
    rw [fA_reachedFrom_6] at hf
    by_cases hc1 : 4 ≤ x3
    · replace hf := lc_ite_pos hc1 hf
      cases hf
      exact lc_lo.rf
    · replace hf := lc_ite_neg hc1 hf
      exact lc_lo.rf.tr (gA_reachedFrom_14 (fun h => ih h) hf)
set_option maxHeartbeats 1000000 in
theorem gA_reachedFrom {a1 : Int32} {z : lc_S} {r} {z' : lc_S} (hf : fA_reachedFrom a1 z = some (r, z')) : lc_lo z z' := by
  rw [fA_reachedFrom] at hf
  obtain ⟨x3, ex3⟩ : ∃ x, x = 1 <<< (a1 &&& 31) := ⟨_, rfl⟩
  replace hf := lc_let_of ex3 hf
  exact lc_lo.rf.tr (gA_reachedFrom_6 hf)
set_option maxHeartbeats 1000000 in
theorem gT_forgetPairs {z : lc_S} {r} {z' : lc_S} (hf : fT_forgetPairs z = some (r, z')) : lc_lo z z' := by
  rw [fT_forgetPairs] at hf
  cases hf
  exact (lc_lo.rf.ui (by decide))
set_option maxHeartbeats 1000000 in
theorem gT_pairOf_8 {z : lc_S} {r} {z' : lc_S} (hf : fT_pairOf_8 z = some (r, z')) : lc_lo z z' := by
  rw [fT_pairOf_8] at hf
  cases hf
  exact lc_lo.rf
set_option maxHeartbeats 1000000 in
theorem gT_pairOf_42 {k12 : Int32 → Int32 → Int32 → lc_S → Option ((Int32) × lc_S)} (hk12 : ∀ {v0 : Int32} {v1 : Int32} {v2 : Int32} {z : lc_S} {r} {z' : lc_S}, k12 v0 v1 v2 z = some (r, z') → lc_lo z z') {x1 : Int32} {x2 : Int32} {x3 : Int32} {z : lc_S} {r} {z' : lc_S} (hf : fT_pairOf_42 k12 x1 x2 x3 z = some (r, z')) : lc_lo z z' := by
  rw [fT_pairOf_42] at hf
  obtain ⟨x42, ex42⟩ : ∃ x, x = x3 + 1 := ⟨_, rfl⟩
  replace hf := lc_let_of ex42 hf
  exact lc_lo.rf.tr (hk12 hf)
set_option maxHeartbeats 1000000 in
theorem gT_pairOf_138 {t1 : Int32} {t2 : Int32} {z : lc_S} {r} {z' : lc_S} (hf : fT_pairOf_138 t1 t2 z = some (r, z')) : lc_lo z z' := by
  rw [fT_pairOf_138] at hf
  obtain ⟨hw1, hf⟩ := lc_chk_some hf
  obtain ⟨hw2, hf⟩ := lc_chk_some hf
  cases hf
  exact ((lc_lo.rf.ui (by decide)).ui (by decide))
set_option maxHeartbeats 1000000 in
theorem gT_pairOf_133 {t1 : Int32} {z : lc_S} {r} {z' : lc_S} (hf : fT_pairOf_133 t1 z = some (r, z')) : lc_lo z z' := by
  rw [fT_pairOf_133] at hf
  exact lc_lo.rf.tr (gT_pairOf_138 hf)
set_option maxHeartbeats 1000000 in
theorem gT_pairOf_12 : ∀ {n : Nat} {x1 : Int32} {x2 : Int32} {x3 : Int32} {z : lc_S} {r} {z' : lc_S}, fT_pairOf_12 n x1 x2 x3 z = some (r, z') → lc_lo z z' := by
  intro n
  induction n with
  | zero =>
    intro x1 x2 x3 z r z' hf
    cases (show none = some (r, z') from hf)
  | succ n ih =>
    intro x1 x2 x3 z r z' hf
    rw [fT_pairOf_12] at hf
    by_cases hc1 : (lcI z 9 4) ≤ x3
    · replace hf := lc_ite_pos hc1 hf
      by_cases hc2 : (lcI z 9 4) < 243
      · replace hf := lc_ite_pos hc2 hf
        obtain ⟨hw3, hf⟩ := lc_chk_some hf
        obtain ⟨hw4, hf⟩ := lc_chk_some hf
        obtain ⟨hw5, hf⟩ := lc_chk_some hf
        obtain ⟨hw6, hf⟩ := lc_chk_some hf
        obtain ⟨hw7, hf⟩ := lc_chk_some hf
        obtain ⟨hw8, hf⟩ := lc_chk_some hf
        by_cases hc9 : (lcI (lcUI (lcUI (lcUI z 10 (lcI z 9 4).toNatClampNeg x1) 11 (lcI (lcUI z 10 (lcI z 9 4).toNatClampNeg x1) 9 4).toNatClampNeg x2) 12 (lcI (lcUI (lcUI z 10 (lcI z 9 4).toNatClampNeg x1) 11 (lcI (lcUI z 10 (lcI z 9 4).toNatClampNeg x1) 9 4).toNatClampNeg x2) 9 4).toNatClampNeg (((8 * (lcI (lcUI (lcUI z 10 (lcI z 9 4).toNatClampNeg x1) 11 (lcI (lcUI z 10 (lcI z 9 4).toNatClampNeg x1) 9 4).toNatClampNeg x2) 12 x1.toNatClampNeg)) + (lcI (lcUI (lcUI z 10 (lcI z 9 4).toNatClampNeg x1) 11 (lcI (lcUI z 10 (lcI z 9 4).toNatClampNeg x1) 9 4).toNatClampNeg x2) 12 x2.toNatClampNeg)) + 3)) 13 x1.toNatClampNeg) = 0
        · replace hf := lc_ite_pos hc9 hf
          obtain ⟨hw10, hf⟩ := lc_chk_some hf
          by_cases hc11 : (lcI (lcUI (lcUI (lcUI z 10 (lcI z 9 4).toNatClampNeg x1) 11 (lcI (lcUI z 10 (lcI z 9 4).toNatClampNeg x1) 9 4).toNatClampNeg x2) 12 (lcI (lcUI (lcUI z 10 (lcI z 9 4).toNatClampNeg x1) 11 (lcI (lcUI z 10 (lcI z 9 4).toNatClampNeg x1) 9 4).toNatClampNeg x2) 9 4).toNatClampNeg (((8 * (lcI (lcUI (lcUI z 10 (lcI z 9 4).toNatClampNeg x1) 11 (lcI (lcUI z 10 (lcI z 9 4).toNatClampNeg x1) 9 4).toNatClampNeg x2) 12 x1.toNatClampNeg)) + (lcI (lcUI (lcUI z 10 (lcI z 9 4).toNatClampNeg x1) 11 (lcI (lcUI z 10 (lcI z 9 4).toNatClampNeg x1) 9 4).toNatClampNeg x2) 12 x2.toNatClampNeg)) + 3)) 13 x2.toNatClampNeg) = 0
          · replace hf := lc_ite_pos hc11 hf
            exact (((lc_lo.rf.ui (by decide)).ui (by decide)).ui (by decide)).tr (gT_pairOf_138 hf)
          · replace hf := lc_ite_neg hc11 hf
            exact (((lc_lo.rf.ui (by decide)).ui (by decide)).ui (by decide)).tr (gT_pairOf_133 hf)
        · replace hf := lc_ite_neg hc9 hf
          exact (((lc_lo.rf.ui (by decide)).ui (by decide)).ui (by decide)).tr (gT_pairOf_133 hf)
      · replace hf := lc_ite_neg hc2 hf
        cases hf
        exact lc_lo.rf
    · replace hf := lc_ite_neg hc1 hf
      obtain ⟨hw12, hf⟩ := lc_chk_some hf
      by_cases hc13 : (lcI z 10 x3.toNatClampNeg) = x1
      · replace hf := lc_ite_pos hc13 hf
        obtain ⟨hw14, hf⟩ := lc_chk_some hf
        by_cases hc15 : (lcI z 11 x3.toNatClampNeg) = x2
        · replace hf := lc_ite_pos hc15 hf
          cases hf
          exact lc_lo.rf
        · replace hf := lc_ite_neg hc15 hf
          exact lc_lo.rf.tr (gT_pairOf_42 (fun h => ih h) hf)
      · replace hf := lc_ite_neg hc13 hf
        exact lc_lo.rf.tr (gT_pairOf_42 (fun h => ih h) hf)
set_option maxHeartbeats 1000000 in
theorem gT_pairOf {a1 : Int32} {a2 : Int32} {z : lc_S} {r} {z' : lc_S} (hf : fT_pairOf a1 a2 z = some (r, z')) : lc_lo z z' := by
  rw [fT_pairOf] at hf
  by_cases hc1 : a1 = 0
  · replace hf := lc_ite_pos hc1 hf
    exact lc_lo.rf.tr (gT_pairOf_8 hf)
  · replace hf := lc_ite_neg hc1 hf
    by_cases hc2 : a2 = 0
    · replace hf := lc_ite_pos hc2 hf
      exact lc_lo.rf.tr (gT_pairOf_8 hf)
    · replace hf := lc_ite_neg hc2 hf
      exact lc_lo.rf.tr (gT_pairOf_12 hf)
set_option maxHeartbeats 1000000 in
theorem gT_written_86 {k6 : Nat → Int32 → Int32 → Int32 → lc_S → Option ((Int32) × lc_S)} (hk6 : ∀ {v0 : Nat} {v1 : Int32} {v2 : Int32} {v3 : Int32} {z : lc_S} {r} {z' : lc_S}, k6 v0 v1 v2 v3 z = some (r, z') → lc_lo z z') {p1 : Nat} {x3 : Int32} {x4 : Int32} {x5 : Int32} {z : lc_S} {r} {z' : lc_S} (hf : fT_written_86 k6 p1 x3 x4 x5 z = some (r, z')) : lc_lo z z' := by
  rw [fT_written_86] at hf
  obtain ⟨x86, ex86⟩ : ∃ x, x = x5 + 1 := ⟨_, rfl⟩
  replace hf := lc_let_of ex86 hf
  exact lc_lo.rf.tr (hk6 hf)
set_option maxHeartbeats 1000000 in
theorem gT_written_48 {k6 : Nat → Int32 → Int32 → Int32 → lc_S → Option ((Int32) × lc_S)} (hk6 : ∀ {v0 : Nat} {v1 : Int32} {v2 : Int32} {v3 : Int32} {z : lc_S} {r} {z' : lc_S}, k6 v0 v1 v2 v3 z = some (r, z') → lc_lo z z') {p1 : Nat} {x3 : Int32} {x4 : Int32} {x5 : Int32} {z : lc_S} {r} {z' : lc_S} (hf : fT_written_48 k6 p1 x3 x4 x5 z = some (r, z')) : lc_lo z z' := by
  rw [fT_written_48] at hf
  by_cases hc1 : x4 < 2
  · replace hf := lc_ite_pos hc1 hf
    exact lc_lo.rf.tr (gT_written_86 (fun h => hk6 h) hf)
  · replace hf := lc_ite_neg hc1 hf
    obtain ⟨x54, ex54⟩ : ∃ x, x = x4 + (-1) := ⟨_, rfl⟩
    replace hf := lc_let_of ex54 hf
    obtain ⟨hw2, hf⟩ := lc_chk_some hf
    obtain ⟨hw3, hf⟩ := lc_chk_some hf
    obtain ⟨r82, z82, hz82, hf⟩ := lc_bnd_some hf
    have gz82 : lc_lo z z82 := lc_lo.rf.tr (gT_pairOf hz82)
    obtain ⟨hw4, hf⟩ := lc_chk_some hf
    exact (gz82.ui (by decide)).tr (gT_written_86 (fun h => hk6 h) hf)
set_option maxHeartbeats 1000000 in
theorem gT_written_6 : ∀ {n : Nat} {p1 : Nat} {x3 : Int32} {x4 : Int32} {x5 : Int32} {z : lc_S} {r} {z' : lc_S}, fT_written_6 n p1 x3 x4 x5 z = some (r, z') → lc_lo z z' := by
  intro n
  induction n with
  | zero =>
    intro p1 x3 x4 x5 z r z' hf
    cases (show none = some (r, z') from hf)
  | succ n ih =>
    intro p1 x3 x4 x5 z r z' hf
    rw [fT_written_6] at hf
    by_cases hc1 : x3 ≤ x5
    · replace hf := lc_ite_pos hc1 hf
      by_cases hc2 : x4 = 1
      · replace hf := lc_ite_pos hc2 hf
        cases hf
        exact lc_lo.rf
      · replace hf := lc_ite_neg hc2 hf
        cases hf
        exact lc_lo.rf
    · replace hf := lc_ite_neg hc1 hf
      obtain ⟨hw3, hf⟩ := lc_chk_some hf
      obtain ⟨hw4, hf⟩ := lc_chk_some hf
      obtain ⟨x19, ex19⟩ : ∃ x, x = lcI z (p1 + 1) x5.toNatClampNeg := ⟨_, rfl⟩
      replace hf := lc_let_of ex19 hf
      by_cases hc5 : x19 = 3
      · replace hf := lc_ite_pos hc5 hf
        exact lc_lo.rf.tr (gT_written_48 (fun h => ih h) hf)
      · replace hf := lc_ite_neg hc5 hf
        by_cases hc6 : 5 ≤ x4
        · replace hf := lc_ite_pos hc6 hf
          exact lc_lo.rf.tr (gT_written_48 (fun h => ih h) hf)
        · replace hf := lc_ite_neg hc6 hf
          obtain ⟨hw7, hf⟩ := lc_chk_some hf
          obtain ⟨x42, ex42⟩ : ∃ x, x = x4 + 1 := ⟨_, rfl⟩
          replace hf := lc_let_of ex42 hf
          exact (lc_lo.rf.ui (by decide)).tr (gT_written_86 (fun h => ih h) hf)
set_option maxHeartbeats 1000000 in
theorem gT_written {a1 : Nat} {a2 : Int32} {a3 : Int32} {z : lc_S} {r} {z' : lc_S} (hf : fT_written a1 a2 a3 z = some (r, z')) : lc_lo z z' := by
  rw [fT_written] at hf
  exact lc_lo.rf.tr (gT_written_6 hf)
set_option maxHeartbeats 1000000 in
theorem gK_findWrittenTypes_80 {k9 : Nat → Int32 → lc_S → Option ((Unit) × lc_S)} (hk9 : ∀ {v0 : Nat} {v1 : Int32} {z : lc_S} {r} {z' : lc_S}, k9 v0 v1 z = some (r, z') → lc_lo z z') {p1 : Nat} {x2 : Int32} {z : lc_S} {r} {z' : lc_S} (hf : fK_findWrittenTypes_80 k9 p1 x2 z = some (r, z')) : lc_lo z z' := by
  rw [fK_findWrittenTypes_80] at hf
  obtain ⟨x80, ex80⟩ : ∃ x, x = x2 + 1 := ⟨_, rfl⟩
  replace hf := lc_let_of ex80 hf
  exact lc_lo.rf.tr (hk9 hf)
set_option maxHeartbeats 1000000 in
theorem gK_findWrittenTypes_9 : ∀ {n : Nat} {p1 : Nat} {x2 : Int32} {z : lc_S} {r} {z' : lc_S}, fK_findWrittenTypes_9 n p1 x2 z = some (r, z') → lc_lo z z' := by
  intro n
  induction n with
  | zero =>
    intro p1 x2 z r z' hf
    cases (show none = some (r, z') from hf)
  | succ n ih =>
    intro p1 x2 z r z' hf
    rw [fK_findWrittenTypes_9] at hf
    by_cases hc1 : 4 ≤ x2
    · replace hf := lc_ite_pos hc1 hf
      cases hf
      exact lc_lo.rf
    · replace hf := lc_ite_neg hc1 hf
      obtain ⟨hw2, hf⟩ := lc_chk_some hf
      obtain ⟨hw3, hf⟩ := lc_chk_some hf
      obtain ⟨q16, hq16, hf⟩ := lc_bnr_some hf
      obtain ⟨hw4, hf⟩ := lc_chk_some hf
      obtain ⟨hw5, hf⟩ := lc_chk_some hf
      obtain ⟨hw6, hf⟩ := lc_chk_some hf
      by_cases hc7 : (lcI (lcUI (lcUI z 15 x2.toNatClampNeg 0) 16 x2.toNatClampNeg 0) q16 0) = 0
      · replace hf := lc_ite_pos hc7 hf
        exact ((lc_lo.rf.ui (by decide)).ui (by decide)).tr (gK_findWrittenTypes_80 (fun h => ih h) hf)
      · replace hf := lc_ite_neg hc7 hf
        obtain ⟨r54, z54, hz54, hf⟩ := lc_bnd_some hf
        have gz54 : lc_lo z z54 := ((lc_lo.rf.ui (by decide)).ui (by decide)).tr (gT_written hz54)
        obtain ⟨hw8, hf⟩ := lc_chk_some hf
        obtain ⟨r76, z76, hz76, hf⟩ := lc_bnd_some hf
        have gz76 : lc_lo z z76 := (gz54.ui (by decide)).tr (gT_written hz76)
        obtain ⟨hw9, hf⟩ := lc_chk_some hf
        exact (gz76.ui (by decide)).tr (gK_findWrittenTypes_80 (fun h => ih h) hf)
set_option maxHeartbeats 1000000 in
theorem gK_findWrittenTypes {a1 : Nat} {z : lc_S} {r} {z' : lc_S} (hf : fK_findWrittenTypes a1 z = some (r, z')) : lc_lo z z' := by
  rw [fK_findWrittenTypes] at hf
  obtain ⟨r4, z4, hz4, hf⟩ := lc_bnd_some hf
  have gz4 : lc_lo z z4 := lc_lo.rf.tr (gT_forgetPairs hz4)
  exact gz4.tr (gK_findWrittenTypes_9 hf)
set_option maxHeartbeats 1000000 in
theorem gK_typeOfPart {a1 : Int32} {z : lc_S} {r} {z' : lc_S} (hf : fK_typeOfPart a1 z = some (r, z')) : lc_lo z z' := by
  rw [fK_typeOfPart] at hf
  by_cases hc1 : 0 ≤ a1
  · replace hf := lc_ite_pos hc1 hf
    obtain ⟨hw2, hf⟩ := lc_chk_some hf
    cases hf
    exact lc_lo.rf
  · replace hf := lc_ite_neg hc1 hf
    cases hf
    exact lc_lo.rf
set_option maxHeartbeats 1000000 in
theorem gK_typeOfBound {a1 : Int32} {z : lc_S} {r} {z' : lc_S} (hf : fK_typeOfBound a1 z = some (r, z')) : lc_lo z z' := by
  rw [fK_typeOfBound] at hf
  by_cases hc1 : a1 = 0
  · replace hf := lc_ite_pos hc1 hf
    obtain ⟨hw2, hf⟩ := lc_chk_some hf
    cases hf
    exact lc_lo.rf
  · replace hf := lc_ite_neg hc1 hf
    obtain ⟨q16, hq16, hf⟩ := lc_bnr_some hf
    obtain ⟨hw3, hf⟩ := lc_chk_some hf
    obtain ⟨hw4, hf⟩ := lc_chk_some hf
    obtain ⟨r24, z24, hz24, hf⟩ := lc_bnd_some hf
    have gz24 : lc_lo z z24 := lc_lo.rf.tr (gK_typeOfPart hz24)
    cases hf
    exact gz24
set_option maxHeartbeats 1000000 in
theorem gT_partOf {a1 : Int32} {a2 : Int32} {z : lc_S} {r} {z' : lc_S} (hf : fT_partOf a1 a2 z = some (r, z')) : lc_lo z z' := by
  rw [fT_partOf] at hf
  by_cases hc1 : a2 = 0
  · replace hf := lc_ite_pos hc1 hf
    cases hf
    exact lc_lo.rf
  · replace hf := lc_ite_neg hc1 hf
    by_cases hc2 : a2 = 1
    · replace hf := lc_ite_pos hc2 hf
      obtain ⟨hw3, hf⟩ := lc_chk_some hf
      cases hf
      exact lc_lo.rf
    · replace hf := lc_ite_neg hc2 hf
      obtain ⟨hw4, hf⟩ := lc_chk_some hf
      cases hf
      exact lc_lo.rf
set_option maxHeartbeats 1000000 in
theorem gT_isPair {a1 : Int32} {z : lc_S} {r} {z' : lc_S} (hf : fT_isPair a1 z = some (r, z')) : lc_lo z z' := by
  rw [fT_isPair] at hf
  by_cases hc1 : a1 < 3
  · replace hf := lc_ite_pos hc1 hf
    cases hf
    exact lc_lo.rf
  · replace hf := lc_ite_neg hc1 hf
    cases hf
    exact lc_lo.rf
set_option maxHeartbeats 1000000 in
theorem gK_findType_341 {z : lc_S} {r} {z' : lc_S} (hf : fK_findType_341 z = some (r, z')) : lc_lo z z' := by
  rw [fK_findType_341] at hf
  cases hf
  exact lc_lo.rf
set_option maxHeartbeats 1000000 in
theorem gK_findType_277 {z : lc_S} {r} {z' : lc_S} (hf : fK_findType_277 z = some (r, z')) : lc_lo z z' := by
  rw [fK_findType_277] at hf
  cases hf
  exact lc_lo.rf
set_option maxHeartbeats 1000000 in
theorem gK_findType_194 {z : lc_S} {r} {z' : lc_S} (hf : fK_findType_194 z = some (r, z')) : lc_lo z z' := by
  rw [fK_findType_194] at hf
  cases hf
  exact lc_lo.rf
set_option maxHeartbeats 1000000 in
theorem gK_findType {a1 : Int32} {z : lc_S} {r} {z' : lc_S} (hf : fK_findType a1 z = some (r, z')) : lc_lo z z' := by
  rw [fK_findType] at hf
  obtain ⟨q2, hq2, hf⟩ := lc_bnr_some hf
  obtain ⟨hw1, hf⟩ := lc_chk_some hf
  obtain ⟨hw2, hf⟩ := lc_chk_some hf
  obtain ⟨r10, z10, hz10, hf⟩ := lc_bnd_some hf
  have gz10 : lc_lo z z10 := lc_lo.rf.tr (gK_typeOfPart hz10)
  obtain ⟨q16, hq16, hf⟩ := lc_bnr_some hf
  obtain ⟨hw3, hf⟩ := lc_chk_some hf
  obtain ⟨hw4, hf⟩ := lc_chk_some hf
  obtain ⟨r24, z24, hz24, hf⟩ := lc_bnd_some hf
  have gz24 : lc_lo z z24 := gz10.tr (gK_typeOfPart hz24)
  obtain ⟨q29, hq29, hf⟩ := lc_bnr_some hf
  obtain ⟨hw5, hf⟩ := lc_chk_some hf
  obtain ⟨hw6, hf⟩ := lc_chk_some hf
  by_cases hc7 : (lcI z24 (q29 + 2) a1.toNatClampNeg) = 35
  · replace hf := lc_ite_pos hc7 hf
    cases hf
    exact gz24
  · replace hf := lc_ite_neg hc7 hf
    by_cases hc8 : (lcI z24 (q29 + 2) a1.toNatClampNeg) = 44
    · replace hf := lc_ite_pos hc8 hf
      obtain ⟨r229, z229, hz229, hf⟩ := lc_bnd_some hf
      have gz229 : lc_lo z z229 := gz24.tr (gT_pairOf hz229)
      cases hf
      exact gz229
    · replace hf := lc_ite_neg hc8 hf
      by_cases hc9 : (lcI z24 (q29 + 2) a1.toNatClampNeg) = 47
      · replace hf := lc_ite_pos hc9 hf
        obtain ⟨r211, z211, hz211, hf⟩ := lc_bnd_some hf
        have gz211 : lc_lo z z211 := gz24.tr (gT_isPair hz211)
        by_cases hc10 : r211 = 0
        · replace hf := lc_ite_pos hc10 hf
          cases hf
          exact gz211
        · replace hf := lc_ite_neg hc10 hf
          cases hf
          exact gz211
      · replace hf := lc_ite_neg hc9 hf
        by_cases hc11 : (lcI z24 (q29 + 2) a1.toNatClampNeg) = 58
        · replace hf := lc_ite_pos hc11 hf
          by_cases hc12 : r10 = 0
          · replace hf := lc_ite_pos hc12 hf
            cases hf
            exact gz24
          · replace hf := lc_ite_neg hc12 hf
            cases hf
            exact gz24
        · replace hf := lc_ite_neg hc11 hf
          by_cases hc13 : (lcI z24 (q29 + 2) a1.toNatClampNeg) = 63
          · replace hf := lc_ite_pos hc13 hf
            by_cases hc14 : r10 = 1
            · replace hf := lc_ite_pos hc14 hf
              obtain ⟨q176, hq176, hf⟩ := lc_bnr_some hf
              obtain ⟨hw15, hf⟩ := lc_chk_some hf
              obtain ⟨hw16, hf⟩ := lc_chk_some hf
              obtain ⟨r184, z184, hz184, hf⟩ := lc_bnd_some hf
              have gz184 : lc_lo z z184 := gz24.tr (gK_typeOfPart hz184)
              by_cases hc17 : r24 = r184
              · replace hf := lc_ite_pos hc17 hf
                cases hf
                exact gz184
              · replace hf := lc_ite_neg hc17 hf
                exact gz184.tr (gK_findType_194 hf)
            · replace hf := lc_ite_neg hc14 hf
              exact gz24.tr (gK_findType_194 hf)
          · replace hf := lc_ite_neg hc13 hf
            by_cases hc18 : (lcI z24 (q29 + 2) a1.toNatClampNeg) = 64
            · replace hf := lc_ite_pos hc18 hf
              obtain ⟨q296, hq296, hf⟩ := lc_bnr_some hf
              obtain ⟨hw19, hf⟩ := lc_chk_some hf
              obtain ⟨hw20, hf⟩ := lc_chk_some hf
              obtain ⟨hw21, hf⟩ := lc_chk_some hf
              by_cases hc22 : r10 = (lcI z24 15 (lcI z24 (q296 + 6) a1.toNatClampNeg).toNatClampNeg)
              · replace hf := lc_ite_pos hc22 hf
                obtain ⟨q313, hq313, hf⟩ := lc_bnr_some hf
                obtain ⟨hw23, hf⟩ := lc_chk_some hf
                obtain ⟨hw24, hf⟩ := lc_chk_some hf
                obtain ⟨hw25, hf⟩ := lc_chk_some hf
                cases hf
                exact gz24
              · replace hf := lc_ite_neg hc22 hf
                cases hf
                exact gz24
            · replace hf := lc_ite_neg hc18 hf
              by_cases hc26 : (lcI z24 (q29 + 2) a1.toNatClampNeg) = 100
              · replace hf := lc_ite_pos hc26 hf
                by_cases hc27 : r10 = 2
                · replace hf := lc_ite_pos hc27 hf
                  cases hf
                  exact gz24
                · replace hf := lc_ite_neg hc27 hf
                  cases hf
                  exact gz24
              · replace hf := lc_ite_neg hc26 hf
                by_cases hc28 : (lcI z24 (q29 + 2) a1.toNatClampNeg) = 103
                · replace hf := lc_ite_pos hc28 hf
                  by_cases hc29 : r10 = 2
                  · replace hf := lc_ite_pos hc29 hf
                    obtain ⟨r255, z255, hz255, hf⟩ := lc_bnd_some hf
                    have gz255 : lc_lo z z255 := gz24.tr (gT_pairOf hz255)
                    cases hf
                    exact gz255
                  · replace hf := lc_ite_neg hc29 hf
                    cases hf
                    exact gz24
                · replace hf := lc_ite_neg hc28 hf
                  by_cases hc30 : (lcI z24 (q29 + 2) a1.toNatClampNeg) = 110
                  · replace hf := lc_ite_pos hc30 hf
                    by_cases hc31 : r10 = 1
                    · replace hf := lc_ite_pos hc31 hf
                      cases hf
                      exact gz24
                    · replace hf := lc_ite_neg hc31 hf
                      cases hf
                      exact gz24
                  · replace hf := lc_ite_neg hc30 hf
                    by_cases hc32 : (lcI z24 (q29 + 2) a1.toNatClampNeg) = 112
                    · replace hf := lc_ite_pos hc32 hf
                      by_cases hc33 : r10 = 2
                      · replace hf := lc_ite_pos hc33 hf
                        by_cases hc34 : r24 = 1
                        · replace hf := lc_ite_pos hc34 hf
                          cases hf
                          exact gz24
                        · replace hf := lc_ite_neg hc34 hf
                          exact gz24.tr (gK_findType_277 hf)
                      · replace hf := lc_ite_neg hc33 hf
                        exact gz24.tr (gK_findType_277 hf)
                    · replace hf := lc_ite_neg hc32 hf
                      by_cases hc35 : (lcI z24 (q29 + 2) a1.toNatClampNeg) = 118
                      · replace hf := lc_ite_pos hc35 hf
                        obtain ⟨q144, hq144, hf⟩ := lc_bnr_some hf
                        obtain ⟨hw36, hf⟩ := lc_chk_some hf
                        obtain ⟨hw37, hf⟩ := lc_chk_some hf
                        obtain ⟨r152, z152, hz152, hf⟩ := lc_bnd_some hf
                        have gz152 : lc_lo z z152 := gz24.tr (gK_typeOfBound hz152)
                        obtain ⟨q156, hq156, hf⟩ := lc_bnr_some hf
                        obtain ⟨hw38, hf⟩ := lc_chk_some hf
                        obtain ⟨hw39, hf⟩ := lc_chk_some hf
                        obtain ⟨r164, z164, hz164, hf⟩ := lc_bnd_some hf
                        have gz164 : lc_lo z z164 := gz152.tr (gT_partOf hz164)
                        cases hf
                        exact gz164
                      · replace hf := lc_ite_neg hc35 hf
                        by_cases hc40 : r10 = 1
                        · replace hf := lc_ite_pos hc40 hf
                          by_cases hc41 : r24 = 1
                          · replace hf := lc_ite_pos hc41 hf
                            cases hf
                            exact gz24
                          · replace hf := lc_ite_neg hc41 hf
                            exact gz24.tr (gK_findType_341 hf)
                        · replace hf := lc_ite_neg hc40 hf
                          exact gz24.tr (gK_findType_341 hf)
set_option maxHeartbeats 1000000 in
theorem gP_body {o0 : Nat} {z : lc_S} {r} {z' : lc_S} (hf : fP_body o0 z = some (r, z')) : lc_lo z z' := by
  rw [fP_body] at hf
  obtain ⟨hw1, hf⟩ := lc_chk_some hf
  cases hf
  exact lc_lo.rf
set_option maxHeartbeats 1000000 in
theorem gK_findBodyType_19 : ∀ {n : Nat} {x3 : Int32} {z : lc_S} {r} {z' : lc_S}, fK_findBodyType_19 n x3 z = some (r, z') → lc_lo z z' := by
  intro n
  induction n with
  | zero =>
    intro x3 z r z' hf
    cases (show none = some (r, z') from hf)
  | succ n ih =>
    intro x3 z r z' hf
    rw [fK_findBodyType_19] at hf
    obtain ⟨q21, hq21, hf⟩ := lc_bnr_some hf
    obtain ⟨hw1, hf⟩ := lc_chk_some hf
    by_cases hc2 : (lcI z q21 11) ≤ x3
    · replace hf := lc_ite_pos hc2 hf
      obtain ⟨q49, hq49, hf⟩ := lc_bnr_some hf
      obtain ⟨hw3, hf⟩ := lc_chk_some hf
      obtain ⟨r52, z52, hz52, hf⟩ := lc_bnd_some hf
      have gz52 : lc_lo z z52 := lc_lo.rf.tr (gP_body hz52)
      obtain ⟨r55, z55, hz55, hf⟩ := lc_bnd_some hf
      have gz55 : lc_lo z z55 := gz52.tr (gK_typeOfPart hz55)
      cases hf
      exact gz55
    · replace hf := lc_ite_neg hc2 hf
      obtain ⟨r37, z37, hz37, hf⟩ := lc_bnd_some hf
      have gz37 : lc_lo z z37 := lc_lo.rf.tr (gK_findType hz37)
      obtain ⟨hw4, hf⟩ := lc_chk_some hf
      obtain ⟨x41, ex41⟩ : ∃ x, x = x3 + 1 := ⟨_, rfl⟩
      replace hf := lc_let_of ex41 hf
      exact (gz37.ui (by decide)).tr (ih hf)
set_option maxHeartbeats 1000000 in
theorem gK_findBodyType {a1 : Nat} {a2 : Int32} {z : lc_S} {r} {z' : lc_S} (hf : fK_findBodyType a1 a2 z = some (r, z')) : lc_lo z z' := by
  rw [fK_findBodyType] at hf
  obtain ⟨r2, z2, hz2, hf⟩ := lc_bnd_some hf
  have gz2 : lc_lo z z2 := lc_lo.rf.tr (gK_findWrittenTypes hz2)
  obtain ⟨hw1, hf⟩ := lc_chk_some hf
  obtain ⟨hw2, hf⟩ := lc_chk_some hf
  obtain ⟨q13, hq13, hf⟩ := lc_bnr_some hf
  exact ((gz2.ui (by decide)).ur (by decide)).tr (gK_findBodyType_19 hf)
set_option maxHeartbeats 1000000 in
theorem gT_isLinear {a1 : Int32} {z : lc_S} {r} {z' : lc_S} (hf : fT_isLinear a1 z = some (r, z')) : lc_lo z z' := by
  rw [fT_isLinear] at hf
  obtain ⟨hw1, hf⟩ := lc_chk_some hf
  obtain ⟨hw2, hf⟩ := lc_chk_some hf
  cases hf
  exact lc_lo.rf
set_option maxHeartbeats 1000000 in
theorem gK_usesOfPart {a1 : Int32} {z : lc_S} {r} {z' : lc_S} (hf : fK_usesOfPart a1 z = some (r, z')) : lc_lo z z' := by
  rw [fK_usesOfPart] at hf
  by_cases hc1 : 0 ≤ a1
  · replace hf := lc_ite_pos hc1 hf
    obtain ⟨hw2, hf⟩ := lc_chk_some hf
    cases hf
    exact lc_lo.rf
  · replace hf := lc_ite_neg hc1 hf
    cases hf
    exact lc_lo.rf
set_option maxHeartbeats 1000000 in
theorem gK_usesOf_150 {k13 : Int32 → Int32 → Int32 → Int32 → lc_S → Option ((Int32) × lc_S)} (hk13 : ∀ {v0 : Int32} {v1 : Int32} {v2 : Int32} {v3 : Int32} {z : lc_S} {r} {z' : lc_S}, k13 v0 v1 v2 v3 z = some (r, z') → lc_lo z z') {x1 : Int32} {x2 : Int32} {x3 : Int32} {x4 : Int32} {z : lc_S} {r} {z' : lc_S} (hf : fK_usesOf_150 k13 x1 x2 x3 x4 z = some (r, z')) : lc_lo z z' := by
  rw [fK_usesOf_150] at hf
  obtain ⟨x150, ex150⟩ : ∃ x, x = x4 + 1 := ⟨_, rfl⟩
  replace hf := lc_let_of ex150 hf
  exact lc_lo.rf.tr (hk13 hf)
set_option maxHeartbeats 1000000 in
theorem gK_usesOf_87 {k13 : Int32 → Int32 → Int32 → Int32 → lc_S → Option ((Int32) × lc_S)} (hk13 : ∀ {v0 : Int32} {v1 : Int32} {v2 : Int32} {v3 : Int32} {z : lc_S} {r} {z' : lc_S}, k13 v0 v1 v2 v3 z = some (r, z') → lc_lo z z') {x1 : Int32} {x2 : Int32} {x3 : Int32} {x4 : Int32} {x5 : Int32} {x6 : Int32} {z : lc_S} {r} {z' : lc_S} (hf : fK_usesOf_87 k13 x1 x2 x3 x4 x5 x6 z = some (r, z')) : lc_lo z z' := by
  rw [fK_usesOf_87] at hf
  obtain ⟨hw1, hf⟩ := lc_chk_some hf
  obtain ⟨q100, hq100, hf⟩ := lc_bnr_some hf
  obtain ⟨hw2, hf⟩ := lc_chk_some hf
  obtain ⟨hw3, hf⟩ := lc_chk_some hf
  by_cases hc4 : (lcI (lcUI z 18 x4.toNatClampNeg (x5 + x6)) (q100 + 7) x4.toNatClampNeg) = x1
  · replace hf := lc_ite_pos hc4 hf
    obtain ⟨q114, hq114, hf⟩ := lc_bnr_some hf
    obtain ⟨hw5, hf⟩ := lc_chk_some hf
    obtain ⟨hw6, hf⟩ := lc_chk_some hf
    by_cases hc7 : (lcI (lcUI z 18 x4.toNatClampNeg (x5 + x6)) (q114 + 6) x4.toNatClampNeg) = x2
    · replace hf := lc_ite_pos hc7 hf
      obtain ⟨q128, hq128, hf⟩ := lc_bnr_some hf
      obtain ⟨hw8, hf⟩ := lc_chk_some hf
      obtain ⟨hw9, hf⟩ := lc_chk_some hf
      by_cases hc10 : (lcI (lcUI z 18 x4.toNatClampNeg (x5 + x6)) (q128 + 2) x4.toNatClampNeg) = 118
      · replace hf := lc_ite_pos hc10 hf
        obtain ⟨hw11, hf⟩ := lc_chk_some hf
        exact ((lc_lo.rf.ui (by decide)).ui (by decide)).tr (gK_usesOf_150 (fun h => hk13 h) hf)
      · replace hf := lc_ite_neg hc10 hf
        exact (lc_lo.rf.ui (by decide)).tr (gK_usesOf_150 (fun h => hk13 h) hf)
    · replace hf := lc_ite_neg hc7 hf
      exact (lc_lo.rf.ui (by decide)).tr (gK_usesOf_150 (fun h => hk13 h) hf)
  · replace hf := lc_ite_neg hc4 hf
    exact (lc_lo.rf.ui (by decide)).tr (gK_usesOf_150 (fun h => hk13 h) hf)
set_option maxHeartbeats 1000000 in
theorem gK_usesOf_13 : ∀ {n : Nat} {x1 : Int32} {x2 : Int32} {x3 : Int32} {x4 : Int32} {z : lc_S} {r} {z' : lc_S}, fK_usesOf_13 n x1 x2 x3 x4 z = some (r, z') → lc_lo z z' := by
  intro n
  induction n with
  | zero =>
    intro x1 x2 x3 x4 z r z' hf
    cases (show none = some (r, z') from hf)
  | succ n ih =>
    intro x1 x2 x3 x4 z r z' hf
    rw [fK_usesOf_13] at hf
    by_cases hc1 : x3 < x4
    · replace hf := lc_ite_pos hc1 hf
      obtain ⟨r158, z158, hz158, hf⟩ := lc_bnd_some hf
      have gz158 : lc_lo z z158 := lc_lo.rf.tr (gK_usesOfPart hz158)
      cases hf
      exact gz158
    · replace hf := lc_ite_neg hc1 hf
      obtain ⟨q21, hq21, hf⟩ := lc_bnr_some hf
      obtain ⟨hw2, hf⟩ := lc_chk_some hf
      obtain ⟨hw3, hf⟩ := lc_chk_some hf
      obtain ⟨r30, z30, hz30, hf⟩ := lc_bnd_some hf
      have gz30 : lc_lo z z30 := lc_lo.rf.tr (gK_usesOfPart hz30)
      obtain ⟨q37, hq37, hf⟩ := lc_bnr_some hf
      obtain ⟨hw4, hf⟩ := lc_chk_some hf
      obtain ⟨hw5, hf⟩ := lc_chk_some hf
      obtain ⟨r46, z46, hz46, hf⟩ := lc_bnd_some hf
      have gz46 : lc_lo z z46 := gz30.tr (gK_usesOfPart hz46)
      obtain ⟨q52, hq52, hf⟩ := lc_bnr_some hf
      obtain ⟨hw6, hf⟩ := lc_chk_some hf
      obtain ⟨hw7, hf⟩ := lc_chk_some hf
      by_cases hc8 : (lcI z46 (q52 + 2) x4.toNatClampNeg) = 63
      · replace hf := lc_ite_pos hc8 hf
        obtain ⟨q70, hq70, hf⟩ := lc_bnr_some hf
        obtain ⟨hw9, hf⟩ := lc_chk_some hf
        obtain ⟨hw10, hf⟩ := lc_chk_some hf
        obtain ⟨r79, z79, hz79, hf⟩ := lc_bnd_some hf
        have gz79 : lc_lo z z79 := gz46.tr (gK_usesOfPart hz79)
        by_cases hc11 : r46 = r79
        · replace hf := lc_ite_pos hc11 hf
          exact gz79.tr (gK_usesOf_87 (fun h => ih h) hf)
        · replace hf := lc_ite_neg hc11 hf
          cases hf
          exact gz79
      · replace hf := lc_ite_neg hc8 hf
        exact gz46.tr (gK_usesOf_87 (fun h => ih h) hf)
set_option maxHeartbeats 1000000 in
theorem gK_usesOf {a1 : Int32} {a2 : Int32} {a3 : Int32} {z : lc_S} {r} {z' : lc_S} (hf : fK_usesOf a1 a2 a3 z = some (r, z')) : lc_lo z z' := by
  rw [fK_usesOf] at hf
  obtain ⟨q1, hq1, hf⟩ := lc_bnr_some hf
  obtain ⟨hw1, hf⟩ := lc_chk_some hf
  obtain ⟨hw2, hf⟩ := lc_chk_some hf
  obtain ⟨x11, ex11⟩ : ∃ x, x = (lcI z (q1 + 8) a1.toNatClampNeg) + 1 := ⟨_, rfl⟩
  replace hf := lc_let_of ex11 hf
  exact lc_lo.rf.tr (gK_usesOf_13 hf)
set_option maxHeartbeats 1000000 in
theorem gK_isUsedWell_34 {z : lc_S} {r} {z' : lc_S} (hf : fK_isUsedWell_34 z = some (r, z')) : lc_lo z z' := by
  rw [fK_isUsedWell_34] at hf
  cases hf
  exact lc_lo.rf
set_option maxHeartbeats 1000000 in
theorem gK_isUsedWell {a1 : Int32} {a2 : Int32} {a3 : Int32} {z : lc_S} {r} {z' : lc_S} (hf : fK_isUsedWell a1 a2 a3 z = some (r, z')) : lc_lo z z' := by
  rw [fK_isUsedWell] at hf
  obtain ⟨r10, z10, hz10, hf⟩ := lc_bnd_some hf
  have gz10 : lc_lo z z10 := lc_lo.rf.tr (gK_typeOfBound hz10)
  obtain ⟨r14, z14, hz14, hf⟩ := lc_bnd_some hf
  have gz14 : lc_lo z z14 := gz10.tr (gT_partOf hz14)
  obtain ⟨r17, z17, hz17, hf⟩ := lc_bnd_some hf
  have gz17 : lc_lo z z17 := gz14.tr (gT_isLinear hz17)
  by_cases hc1 : r17 = 0
  · replace hf := lc_ite_pos hc1 hf
    exact gz17.tr (gK_isUsedWell_34 hf)
  · replace hf := lc_ite_neg hc1 hf
    obtain ⟨r27, z27, hz27, hf⟩ := lc_bnd_some hf
    have gz27 : lc_lo z z27 := gz17.tr (gK_usesOf hz27)
    by_cases hc2 : r27 = 1
    · replace hf := lc_ite_pos hc2 hf
      exact gz27.tr (gK_isUsedWell_34 hf)
    · replace hf := lc_ite_neg hc2 hf
      cases hf
      exact gz27
set_option maxHeartbeats 1000000 in
theorem gK_eachVariableIsUsedWell_111 {z : lc_S} {r} {z' : lc_S} (hf : fK_eachVariableIsUsedWell_111 z = some (r, z')) : lc_lo z z' := by
  rw [fK_eachVariableIsUsedWell_111] at hf
  cases hf
  exact lc_lo.rf
set_option maxHeartbeats 1000000 in
theorem gK_eachVariableIsUsedWell_113 {k20 : Int32 → lc_S → Option ((Int32) × lc_S)} (hk20 : ∀ {v0 : Int32} {z : lc_S} {r} {z' : lc_S}, k20 v0 z = some (r, z') → lc_lo z z') {x1 : Int32} {z : lc_S} {r} {z' : lc_S} (hf : fK_eachVariableIsUsedWell_113 k20 x1 z = some (r, z')) : lc_lo z z' := by
  rw [fK_eachVariableIsUsedWell_113] at hf
  obtain ⟨x113, ex113⟩ : ∃ x, x = x1 + 1 := ⟨_, rfl⟩
  replace hf := lc_let_of ex113 hf
  exact lc_lo.rf.tr (hk20 hf)
set_option maxHeartbeats 1000000 in
theorem gK_eachVariableIsUsedWell_77 {k20 : Int32 → lc_S → Option ((Int32) × lc_S)} (hk20 : ∀ {v0 : Int32} {z : lc_S} {r} {z' : lc_S}, k20 v0 z = some (r, z') → lc_lo z z') {x1 : Int32} {x2 : Int32} {x3 : Int32} {z : lc_S} {r} {z' : lc_S} (hf : fK_eachVariableIsUsedWell_77 k20 x1 x2 x3 z = some (r, z')) : lc_lo z z' := by
  rw [fK_eachVariableIsUsedWell_77] at hf
  obtain ⟨q78, hq78, hf⟩ := lc_bnr_some hf
  obtain ⟨hw1, hf⟩ := lc_chk_some hf
  obtain ⟨hw2, hf⟩ := lc_chk_some hf
  by_cases hc3 : (lcI z (q78 + 2) x1.toNatClampNeg) = 47
  · replace hf := lc_ite_pos hc3 hf
    obtain ⟨r95, z95, hz95, hf⟩ := lc_bnd_some hf
    have gz95 : lc_lo z z95 := lc_lo.rf.tr (gK_isUsedWell hz95)
    by_cases hc4 : r95 = 0
    · replace hf := lc_ite_pos hc4 hf
      exact gz95.tr (gK_eachVariableIsUsedWell_111 hf)
    · replace hf := lc_ite_neg hc4 hf
      obtain ⟨r105, z105, hz105, hf⟩ := lc_bnd_some hf
      have gz105 : lc_lo z z105 := gz95.tr (gK_isUsedWell hz105)
      by_cases hc5 : r105 = 0
      · replace hf := lc_ite_pos hc5 hf
        exact gz105.tr (gK_eachVariableIsUsedWell_111 hf)
      · replace hf := lc_ite_neg hc5 hf
        exact gz105.tr (gK_eachVariableIsUsedWell_113 (fun h => hk20 h) hf)
  · replace hf := lc_ite_neg hc3 hf
    exact lc_lo.rf.tr (gK_eachVariableIsUsedWell_113 (fun h => hk20 h) hf)
set_option maxHeartbeats 1000000 in
theorem gK_eachVariableIsUsedWell_20 : ∀ {n : Nat} {x1 : Int32} {z : lc_S} {r} {z' : lc_S}, fK_eachVariableIsUsedWell_20 n x1 z = some (r, z') → lc_lo z z' := by
  intro n
  induction n with
  | zero =>
    intro x1 z r z' hf
    cases (show none = some (r, z') from hf)
  | succ n ih =>
    intro x1 z r z' hf
    rw [fK_eachVariableIsUsedWell_20] at hf
    obtain ⟨q22, hq22, hf⟩ := lc_bnr_some hf
    obtain ⟨hw1, hf⟩ := lc_chk_some hf
    by_cases hc2 : (lcI z q22 11) ≤ x1
    · replace hf := lc_ite_pos hc2 hf
      cases hf
      exact lc_lo.rf
    · replace hf := lc_ite_neg hc2 hf
      obtain ⟨q32, hq32, hf⟩ := lc_bnr_some hf
      obtain ⟨hw3, hf⟩ := lc_chk_some hf
      obtain ⟨hw4, hf⟩ := lc_chk_some hf
      obtain ⟨x40, ex40⟩ : ∃ x, x = lcI z (q32 + 7) x1.toNatClampNeg := ⟨_, rfl⟩
      replace hf := lc_let_of ex40 hf
      obtain ⟨q42, hq42, hf⟩ := lc_bnr_some hf
      obtain ⟨hw5, hf⟩ := lc_chk_some hf
      obtain ⟨hw6, hf⟩ := lc_chk_some hf
      obtain ⟨x50, ex50⟩ : ∃ x, x = lcI z (q42 + 4) x1.toNatClampNeg := ⟨_, rfl⟩
      replace hf := lc_let_of ex50 hf
      obtain ⟨q52, hq52, hf⟩ := lc_bnr_some hf
      obtain ⟨hw7, hf⟩ := lc_chk_some hf
      obtain ⟨hw8, hf⟩ := lc_chk_some hf
      by_cases hc9 : (lcI z (q52 + 2) x1.toNatClampNeg) = 58
      · replace hf := lc_ite_pos hc9 hf
        obtain ⟨r69, z69, hz69, hf⟩ := lc_bnd_some hf
        have gz69 : lc_lo z z69 := lc_lo.rf.tr (gK_isUsedWell hz69)
        by_cases hc10 : r69 = 0
        · replace hf := lc_ite_pos hc10 hf
          cases hf
          exact gz69
        · replace hf := lc_ite_neg hc10 hf
          exact gz69.tr (gK_eachVariableIsUsedWell_77 (fun h => ih h) hf)
      · replace hf := lc_ite_neg hc9 hf
        exact lc_lo.rf.tr (gK_eachVariableIsUsedWell_77 (fun h => ih h) hf)
set_option maxHeartbeats 1000000 in
theorem gK_eachVariableIsUsedWell {z : lc_S} {r} {z' : lc_S} (hf : fK_eachVariableIsUsedWell z = some (r, z')) : lc_lo z z' := by
  rw [fK_eachVariableIsUsedWell] at hf
  obtain ⟨q4, hq4, hf⟩ := lc_bnr_some hf
  obtain ⟨hw1, hf⟩ := lc_chk_some hf
  obtain ⟨r7, z7, hz7, hf⟩ := lc_bnd_some hf
  have gz7 : lc_lo z z7 := lc_lo.rf.tr (gP_body hz7)
  obtain ⟨r10, z10, hz10, hf⟩ := lc_bnd_some hf
  have gz10 : lc_lo z z10 := gz7.tr (gK_isUsedWell hz10)
  by_cases hc2 : r10 = 0
  · replace hf := lc_ite_pos hc2 hf
    cases hf
    exact gz10
  · replace hf := lc_ite_neg hc2 hf
    exact gz10.tr (gK_eachVariableIsUsedWell_20 hf)
set_option maxHeartbeats 1000000 in
theorem gK_findsNoFault_43 {z : lc_S} {r} {z' : lc_S} (hf : fK_findsNoFault_43 z = some (r, z')) : lc_lo z z' := by
  rw [fK_findsNoFault_43] at hf
  cases hf
  exact lc_lo.rf
set_option maxHeartbeats 1000000 in
theorem gK_findsNoFault {a1 : Nat} {a2 : Int32} {z : lc_S} {r} {z' : lc_S} (hf : fK_findsNoFault a1 a2 z = some (r, z')) : lc_lo z z' := by
  rw [fK_findsNoFault] at hf
  obtain ⟨hw1, hf⟩ := lc_chk_some hf
  obtain ⟨hw2, hf⟩ := lc_chk_some hf
  obtain ⟨q2, hq2, hf⟩ := lc_bnr_some hf
  obtain ⟨hw3, hf⟩ := lc_chk_some hf
  by_cases hc4 : (lcI z q2 0) = 0
  · replace hf := lc_ite_pos hc4 hf
    cases hf
    exact lc_lo.rf
  · replace hf := lc_ite_neg hc4 hf
    obtain ⟨r14, z14, hz14, hf⟩ := lc_bnd_some hf
    have gz14 : lc_lo z z14 := lc_lo.rf.tr (gK_findBodyType hz14)
    by_cases hc5 : r14 = 0
    · replace hf := lc_ite_pos hc5 hf
      exact gz14.tr (gK_findsNoFault_43 hf)
    · replace hf := lc_ite_neg hc5 hf
      obtain ⟨hw6, hf⟩ := lc_chk_some hf
      by_cases hc7 : r14 = (lcI z14 16 a2.toNatClampNeg)
      · replace hf := lc_ite_pos hc7 hf
        obtain ⟨r33, z33, hz33, hf⟩ := lc_bnd_some hf
        have gz33 : lc_lo z z33 := gz14.tr (gK_eachVariableIsUsedWell hz33)
        by_cases hc8 : r33 = 0
        · replace hf := lc_ite_pos hc8 hf
          exact gz33.tr (gK_findsNoFault_43 hf)
        · replace hf := lc_ite_neg hc8 hf
          cases hf
          exact gz33
      · replace hf := lc_ite_neg hc7 hf
        exact gz14.tr (gK_findsNoFault_43 hf)
set_option maxHeartbeats 1000000 in
theorem gA_sound_48 {k18 : Int32 → Int32 → lc_S → Option ((Int32) × lc_S)} (hk18 : ∀ {v0 : Int32} {v1 : Int32} {z : lc_S} {r} {z' : lc_S}, k18 v0 v1 z = some (r, z') → lc_lo z z') {x2 : Int32} {x3 : Int32} {z : lc_S} {r} {z' : lc_S} (hf : fA_sound_48 k18 x2 x3 z = some (r, z')) : lc_lo z z' := by
  rw [fA_sound_48] at hf
  obtain ⟨x48, ex48⟩ : ∃ x, x = x3 + 1 := ⟨_, rfl⟩
  replace hf := lc_let_of ex48 hf
  exact lc_lo.rf.tr (hk18 hf)
set_option maxHeartbeats 1000000 in
theorem gA_sound_18 : ∀ {n : Nat} {x2 : Int32} {x3 : Int32} {z : lc_S} {r} {z' : lc_S}, fA_sound_18 n x2 x3 z = some (r, z') → lc_lo z z' := by
  intro n
  induction n with
  | zero =>
    intro x2 x3 z r z' hf
    cases (show none = some (r, z') from hf)
  | succ n ih =>
    intro x2 x3 z r z' hf
    rw [fA_sound_18] at hf
    by_cases hc1 : 4 ≤ x3
    · replace hf := lc_ite_pos hc1 hf
      cases hf
      exact lc_lo.rf
    · replace hf := lc_ite_neg hc1 hf
      obtain ⟨r25, z25, hz25, hf⟩ := lc_bnd_some hf
      have gz25 : lc_lo z z25 := lc_lo.rf.tr (gA_hasBit hz25)
      by_cases hc2 : r25 = 0
      · replace hf := lc_ite_pos hc2 hf
        exact gz25.tr (gA_sound_48 (fun h => ih h) hf)
      · replace hf := lc_ite_neg hc2 hf
        obtain ⟨r40, z40, hz40, hf⟩ := lc_bnd_some hf
        have gz40 : lc_lo z z40 := gz25.tr (gK_findsNoFault hz40)
        by_cases hc3 : r40 = 0
        · replace hf := lc_ite_pos hc3 hf
          cases hf
          exact gz40
        · replace hf := lc_ite_neg hc3 hf
          exact gz40.tr (gA_sound_48 (fun h => ih h) hf)
set_option maxHeartbeats 1000000 in
theorem gA_sound {a1 : Int32} {z : lc_S} {r} {z' : lc_S} (hf : fA_sound a1 z = some (r, z')) : lc_lo z z' := by
  rw [fA_sound] at hf
  obtain ⟨r2, z2, hz2, hf⟩ := lc_bnd_some hf
  have gz2 : lc_lo z z2 := lc_lo.rf.tr (gA_isThere hz2)
  by_cases hc1 : r2 = 0
  · replace hf := lc_ite_pos hc1 hf
    cases hf
    exact gz2
  · replace hf := lc_ite_neg hc1 hf
    obtain ⟨r12, z12, hz12, hf⟩ := lc_bnd_some hf
    have gz12 : lc_lo z z12 := gz2.tr (gA_reachedFrom hz12)
    exact gz12.tr (gA_sound_18 hf)
set_option maxHeartbeats 1000000 in
theorem gT_numberOf {a1 : Int32} {z : lc_S} {r} {z' : lc_S} (hf : fT_numberOf a1 z = some (r, z')) : lc_lo z z' := by
  rw [fT_numberOf] at hf
  obtain ⟨hw1, hf⟩ := lc_chk_some hf
  cases hf
  exact lc_lo.rf
set_option maxHeartbeats 1000000 in
theorem gK_numberOfBodyType {a1 : Nat} {a2 : Int32} {z : lc_S} {r} {z' : lc_S} (hf : fK_numberOfBodyType a1 a2 z = some (r, z')) : lc_lo z z' := by
  rw [fK_numberOfBodyType] at hf
  obtain ⟨r7, z7, hz7, hf⟩ := lc_bnd_some hf
  have gz7 : lc_lo z z7 := lc_lo.rf.tr (gK_findBodyType hz7)
  obtain ⟨r10, z10, hz10, hf⟩ := lc_bnd_some hf
  have gz10 : lc_lo z z10 := gz7.tr (gT_numberOf hz10)
  cases hf
  exact gz10
set_option maxHeartbeats 1000000 in
theorem gA_typed {a1 : Int32} {z : lc_S} {r} {z' : lc_S} (hf : fA_typed a1 z = some (r, z')) : lc_lo z z' := by
  rw [fA_typed] at hf
  obtain ⟨r2, z2, hz2, hf⟩ := lc_bnd_some hf
  have gz2 : lc_lo z z2 := lc_lo.rf.tr (gA_isThere hz2)
  by_cases hc1 : r2 = 0
  · replace hf := lc_ite_pos hc1 hf
    cases hf
    exact gz2
  · replace hf := lc_ite_neg hc1 hf
    obtain ⟨r25, z25, hz25, hf⟩ := lc_bnd_some hf
    have gz25 : lc_lo z z25 := gz2.tr (gK_numberOfBodyType hz25)
    cases hf
    exact gz25
set_option maxHeartbeats 1000000 in
theorem gY_clear_2 : ∀ {n : Nat} {x1 : Int32} {z : lc_S} {r} {z' : lc_S}, fY_clear_2 n x1 z = some (r, z') → lc_lo z z' := by
  intro n
  induction n with
  | zero =>
    intro x1 z r z' hf
    cases (show none = some (r, z') from hf)
  | succ n ih =>
    intro x1 z r z' hf
    rw [fY_clear_2] at hf
    by_cases hc1 : 12 ≤ x1
    · replace hf := lc_ite_pos hc1 hf
      cases hf
      exact (((lc_lo.rf.ui (by decide)).ui (by decide)).ui (by decide))
    · replace hf := lc_ite_neg hc1 hf
      obtain ⟨hw2, hf⟩ := lc_chk_some hf
      obtain ⟨x15, ex15⟩ : ∃ x, x = x1 + 1 := ⟨_, rfl⟩
      replace hf := lc_let_of ex15 hf
      exact (lc_lo.rf.ui (by decide)).tr (ih hf)
set_option maxHeartbeats 1000000 in
theorem gY_clear {z : lc_S} {r} {z' : lc_S} (hf : fY_clear z = some (r, z')) : lc_lo z z' := by
  rw [fY_clear] at hf
  exact lc_lo.rf.tr (gY_clear_2 hf)
set_option maxHeartbeats 1000000 in
theorem gV_of {a0 : Int32} {a1 : Int32} {z : lc_S} {r} {z' : lc_S} (hf : fV_of a0 a1 z = some (r, z')) : lc_lo z z' := by
  rw [fV_of] at hf
  cases hf
  exact lc_lo.rf
set_option maxHeartbeats 1000000 in
theorem gM_bind {a1 : Int32} {a2 : Int32} {z : lc_S} {r} {z' : lc_S} (hf : fM_bind a1 a2 z = some (r, z')) : lc_lo z z' := by
  rw [fM_bind] at hf
  obtain ⟨hw1, hf⟩ := lc_chk_some hf
  cases hf
  exact (lc_lo.rf.ul (by decide))
set_option maxHeartbeats 1000000 in
theorem gM_begin_20 {z : lc_S} {r} {z' : lc_S} (hf : fM_begin_20 z = some (r, z')) : lc_lo z z' := by
  rw [fM_begin_20] at hf
  cases hf
  exact (lc_lo.rf.ui (by decide))
set_option maxHeartbeats 1000000 in
theorem gM_begin {a1 : Int32} {a2 : Int32} {z : lc_S} {r} {z' : lc_S} (hf : fM_begin a1 a2 z = some (r, z')) : lc_lo z z' := by
  rw [fM_begin] at hf
  by_cases hc1 : 2000 ≤ (lcI z 19 2)
  · replace hf := lc_ite_pos hc1 hf
    exact lc_lo.rf.tr (gM_begin_20 hf)
  · replace hf := lc_ite_neg hc1 hf
    by_cases hc2 : (lcI z 19 11) < 408
    · replace hf := lc_ite_pos hc2 hf
      obtain ⟨hw3, hf⟩ := lc_chk_some hf
      obtain ⟨hw4, hf⟩ := lc_chk_some hf
      obtain ⟨hw5, hf⟩ := lc_chk_some hf
      cases hf
      exact (((((lc_lo.rf.ui (by decide)).ui (by decide)).ui (by decide)).ui (by decide)).ui (by decide))
    · replace hf := lc_ite_neg hc2 hf
      exact lc_lo.rf.tr (gM_begin_20 hf)
set_option maxHeartbeats 1000000 in
theorem gM_enter {a1 : Int32} {a2 : Int32} {z : lc_S} {r} {z' : lc_S} (hf : fM_enter a1 a2 z = some (r, z')) : lc_lo z z' := by
  rw [fM_enter] at hf
  obtain ⟨q1, hq1, hf⟩ := lc_bnr_some hf
  obtain ⟨hw1, hf⟩ := lc_chk_some hf
  obtain ⟨hw2, hf⟩ := lc_chk_some hf
  obtain ⟨q5, hq5, hf⟩ := lc_bnr_some hf
  obtain ⟨hw3, hf⟩ := lc_chk_some hf
  by_cases hc4 : (lcI z q5 0) = 0
  · replace hf := lc_ite_pos hc4 hf
    cases hf
    exact (lc_lo.rf.ui (by decide))
  · replace hf := lc_ite_neg hc4 hf
    by_cases hc5 : a2 ≤ 24
    · replace hf := lc_ite_pos hc5 hf
      obtain ⟨q40, hq40, hf⟩ := lc_bnr_some hf
      obtain ⟨hw6, hf⟩ := lc_chk_some hf
      obtain ⟨hw7, hf⟩ := lc_chk_some hf
      obtain ⟨q44, hq44, hf⟩ := lc_bnr_some hf
      obtain ⟨hw8, hf⟩ := lc_chk_some hf
      obtain ⟨hw9, hf⟩ := lc_chk_some hf
      obtain ⟨r49, z49, hz49, hf⟩ := lc_bnd_some hf
      have gz49 : lc_lo z z49 := (lc_lo.rf.ur (by decide)).tr (gM_bind hz49)
      obtain ⟨q54, hq54, hf⟩ := lc_bnr_some hf
      obtain ⟨hw10, hf⟩ := lc_chk_some hf
      obtain ⟨hw11, hf⟩ := lc_chk_some hf
      obtain ⟨q58, hq58, hf⟩ := lc_bnr_some hf
      obtain ⟨hw12, hf⟩ := lc_chk_some hf
      obtain ⟨r59, z59, hz59, hf⟩ := lc_bnd_some hf
      have gz59 : lc_lo z z59 := gz49.tr (gP_body hz59)
      obtain ⟨r63, z63, hz63, hf⟩ := lc_bnd_some hf
      have gz63 : lc_lo z z63 := gz59.tr (gM_begin hz63)
      cases hf
      exact gz63
    · replace hf := lc_ite_neg hc5 hf
      cases hf
      exact (lc_lo.rf.ui (by decide))
set_option maxHeartbeats 1000000 in
theorem gM_end {a1 : Int64} {z : lc_S} {r} {z' : lc_S} (hf : fM_end a1 z = some (r, z')) : lc_lo z z' := by
  rw [fM_end] at hf
  cases hf
  exact ((lc_lo.rf.ul (by decide)).ui (by decide))
set_option maxHeartbeats 1000000 in
theorem gV_wordOf {a0 : Int64} {z : lc_S} {r} {z' : lc_S} (hf : fV_wordOf a0 z = some (r, z')) : lc_lo z z' := by
  rw [fV_wordOf] at hf
  cases hf
  exact lc_lo.rf
set_option maxHeartbeats 1000000 in
theorem gV_isPair {a0 : Int64} {z : lc_S} {r} {z' : lc_S} (hf : fV_isPair a0 z = some (r, z')) : lc_lo z z' := by
  rw [fV_isPair] at hf
  by_cases hc1 : (lg_cmp (a0 >>> ((32 : Int32).toInt64 &&& 63)) 3) = 0
  · replace hf := lc_ite_pos hc1 hf
    cases hf
    exact lc_lo.rf
  · replace hf := lc_ite_neg hc1 hf
    cases hf
    exact lc_lo.rf
set_option maxHeartbeats 1000000 in
theorem gY_isMade_16 {z : lc_S} {r} {z' : lc_S} (hf : fY_isMade_16 z = some (r, z')) : lc_lo z z' := by
  rw [fY_isMade_16] at hf
  cases hf
  exact lc_lo.rf
set_option maxHeartbeats 1000000 in
theorem gY_isMade {a1 : Int32} {z : lc_S} {r} {z' : lc_S} (hf : fY_isMade a1 z = some (r, z')) : lc_lo z z' := by
  rw [fY_isMade] at hf
  by_cases hc1 : a1 < 0
  · replace hf := lc_ite_pos hc1 hf
    exact lc_lo.rf.tr (gY_isMade_16 hf)
  · replace hf := lc_ite_neg hc1 hf
    by_cases hc2 : (lcI z 20 10) ≤ a1
    · replace hf := lc_ite_pos hc2 hf
      exact lc_lo.rf.tr (gY_isMade_16 hf)
    · replace hf := lc_ite_neg hc2 hf
      cases hf
      exact lc_lo.rf
set_option maxHeartbeats 1000000 in
theorem gY_partOf_26 {x1 : Int64} {z : lc_S} {r} {z' : lc_S} (hf : fY_partOf_26 x1 z = some (r, z')) : lc_lo z z' := by
  rw [fY_partOf_26] at hf
  cases hf
  exact lc_lo.rf
set_option maxHeartbeats 1000000 in
theorem gY_partOf {a1 : Int64} {a3 : Int32} {z : lc_S} {r} {z' : lc_S} (hf : fY_partOf a1 a3 z = some (r, z')) : lc_lo z z' := by
  rw [fY_partOf] at hf
  obtain ⟨r1, z1, hz1, hf⟩ := lc_bnd_some hf
  have gz1 : lc_lo z z1 := lc_lo.rf.tr (gV_wordOf hz1)
  by_cases hc1 : a3 = 0
  · replace hf := lc_ite_pos hc1 hf
    exact gz1.tr (gY_partOf_26 hf)
  · replace hf := lc_ite_neg hc1 hf
    obtain ⟨r11, z11, hz11, hf⟩ := lc_bnd_some hf
    have gz11 : lc_lo z z11 := gz1.tr (gV_isPair hz11)
    by_cases hc2 : r11 = 0
    · replace hf := lc_ite_pos hc2 hf
      exact gz11.tr (gY_partOf_26 hf)
    · replace hf := lc_ite_neg hc2 hf
      obtain ⟨r20, z20, hz20, hf⟩ := lc_bnd_some hf
      have gz20 : lc_lo z z20 := gz11.tr (gY_isMade hz20)
      by_cases hc3 : r20 = 0
      · replace hf := lc_ite_pos hc3 hf
        exact gz20.tr (gY_partOf_26 hf)
      · replace hf := lc_ite_neg hc3 hf
        by_cases hc4 : a3 = 1
        · replace hf := lc_ite_pos hc4 hf
          obtain ⟨hw5, hf⟩ := lc_chk_some hf
          cases hf
          exact gz20
        · replace hf := lc_ite_neg hc4 hf
          obtain ⟨hw6, hf⟩ := lc_chk_some hf
          cases hf
          exact gz20
set_option maxHeartbeats 1000000 in
theorem gM_valueOfVariable {a1 : Int32} {a2 : Int32} {z : lc_S} {r} {z' : lc_S} (hf : fM_valueOfVariable a1 a2 z = some (r, z')) : lc_lo z z' := by
  rw [fM_valueOfVariable] at hf
  obtain ⟨hw1, hf⟩ := lc_chk_some hf
  obtain ⟨q5, hq5, hf⟩ := lc_bnr_some hf
  obtain ⟨hw2, hf⟩ := lc_chk_some hf
  obtain ⟨hw3, hf⟩ := lc_chk_some hf
  obtain ⟨hw4, hf⟩ := lc_chk_some hf
  obtain ⟨x23, ex23⟩ : ∃ x, x = lcL z 30 ((a2 * 24) + (lcI z (q5 + 7) a1.toNatClampNeg)).toNatClampNeg := ⟨_, rfl⟩
  replace hf := lc_let_of ex23 hf
  obtain ⟨hw5, hf⟩ := lc_chk_some hf
  obtain ⟨r37, z37, hz37, hf⟩ := lc_bnd_some hf
  have gz37 : lc_lo z z37 := lc_lo.rf.tr (gY_partOf hz37)
  cases hf
  exact gz37
set_option maxHeartbeats 1000000 in
theorem gV_isNumber {a0 : Int64} {z : lc_S} {r} {z' : lc_S} (hf : fV_isNumber a0 z = some (r, z')) : lc_lo z z' := by
  rw [fV_isNumber] at hf
  by_cases hc1 : (lg_cmp (a0 >>> ((32 : Int32).toInt64 &&& 63)) 1) = 0
  · replace hf := lc_ite_pos hc1 hf
    cases hf
    exact lc_lo.rf
  · replace hf := lc_ite_neg hc1 hf
    cases hf
    exact lc_lo.rf
set_option maxHeartbeats 1000000 in
theorem gM_choose {a1 : Int32} {a2 : Int32} {z : lc_S} {r} {z' : lc_S} (hf : fM_choose a1 a2 z = some (r, z')) : lc_lo z z' := by
  rw [fM_choose] at hf
  obtain ⟨r4, z4, hz4, hf⟩ := lc_bnd_some hf
  have gz4 : lc_lo z z4 := lc_lo.rf.tr (gV_isNumber hz4)
  by_cases hc1 : r4 = 0
  · replace hf := lc_ite_pos hc1 hf
    cases hf
    exact (gz4.ui (by decide))
  · replace hf := lc_ite_neg hc1 hf
    obtain ⟨r22, z22, hz22, hf⟩ := lc_bnd_some hf
    have gz22 : lc_lo z z22 := gz4.tr (gV_wordOf hz22)
    by_cases hc2 : r22 = 0
    · replace hf := lc_ite_pos hc2 hf
      obtain ⟨hw3, hf⟩ := lc_chk_some hf
      obtain ⟨q53, hq53, hf⟩ := lc_bnr_some hf
      obtain ⟨hw4, hf⟩ := lc_chk_some hf
      obtain ⟨hw5, hf⟩ := lc_chk_some hf
      obtain ⟨r60, z60, hz60, hf⟩ := lc_bnd_some hf
      have gz60 : lc_lo z z60 := gz22.tr (gM_begin hz60)
      cases hf
      exact gz60
    · replace hf := lc_ite_neg hc2 hf
      obtain ⟨hw6, hf⟩ := lc_chk_some hf
      obtain ⟨q34, hq34, hf⟩ := lc_bnr_some hf
      obtain ⟨hw7, hf⟩ := lc_chk_some hf
      obtain ⟨hw8, hf⟩ := lc_chk_some hf
      obtain ⟨r41, z41, hz41, hf⟩ := lc_bnd_some hf
      have gz41 : lc_lo z z41 := gz22.tr (gM_begin hz41)
      cases hf
      exact gz41
set_option maxHeartbeats 1000000 in
theorem gM_split {a1 : Int32} {a2 : Int32} {z : lc_S} {r} {z' : lc_S} (hf : fM_split a1 a2 z = some (r, z')) : lc_lo z z' := by
  rw [fM_split] at hf
  obtain ⟨r4, z4, hz4, hf⟩ := lc_bnd_some hf
  have gz4 : lc_lo z z4 := lc_lo.rf.tr (gV_isPair hz4)
  by_cases hc1 : r4 = 0
  · replace hf := lc_ite_pos hc1 hf
    cases hf
    exact (gz4.ui (by decide))
  · replace hf := lc_ite_neg hc1 hf
    obtain ⟨hw2, hf⟩ := lc_chk_some hf
    obtain ⟨q25, hq25, hf⟩ := lc_bnr_some hf
    obtain ⟨hw3, hf⟩ := lc_chk_some hf
    obtain ⟨hw4, hf⟩ := lc_chk_some hf
    obtain ⟨r31, z31, hz31, hf⟩ := lc_bnd_some hf
    have gz31 : lc_lo z z31 := gz4.tr (gM_bind hz31)
    obtain ⟨hw5, hf⟩ := lc_chk_some hf
    obtain ⟨q40, hq40, hf⟩ := lc_bnr_some hf
    obtain ⟨hw6, hf⟩ := lc_chk_some hf
    obtain ⟨hw7, hf⟩ := lc_chk_some hf
    obtain ⟨r47, z47, hz47, hf⟩ := lc_bnd_some hf
    have gz47 : lc_lo z z47 := gz31.tr (gM_begin hz47)
    cases hf
    exact gz47
set_option maxHeartbeats 1000000 in
theorem gM_goOn {a1 : Int32} {a2 : Int32} {z : lc_S} {r} {z' : lc_S} (hf : fM_goOn a1 a2 z = some (r, z')) : lc_lo z z' := by
  rw [fM_goOn] at hf
  obtain ⟨hw1, hf⟩ := lc_chk_some hf
  obtain ⟨q5, hq5, hf⟩ := lc_bnr_some hf
  obtain ⟨hw2, hf⟩ := lc_chk_some hf
  obtain ⟨hw3, hf⟩ := lc_chk_some hf
  by_cases hc4 : (lcI z (q5 + 2) a1.toNatClampNeg) = 47
  · replace hf := lc_ite_pos hc4 hf
    obtain ⟨r84, z84, hz84, hf⟩ := lc_bnd_some hf
    have gz84 : lc_lo z z84 := lc_lo.rf.tr (gM_split hz84)
    cases hf
    exact gz84
  · replace hf := lc_ite_neg hc4 hf
    by_cases hc5 : (lcI z (q5 + 2) a1.toNatClampNeg) = 58
    · replace hf := lc_ite_pos hc5 hf
      obtain ⟨hw6, hf⟩ := lc_chk_some hf
      obtain ⟨r98, z98, hz98, hf⟩ := lc_bnd_some hf
      have gz98 : lc_lo z z98 := lc_lo.rf.tr (gM_bind hz98)
      obtain ⟨hw7, hf⟩ := lc_chk_some hf
      obtain ⟨r109, z109, hz109, hf⟩ := lc_bnd_some hf
      have gz109 : lc_lo z z109 := gz98.tr (gM_begin hz109)
      cases hf
      exact gz109
    · replace hf := lc_ite_neg hc5 hf
      by_cases hc8 : (lcI z (q5 + 2) a1.toNatClampNeg) = 63
      · replace hf := lc_ite_pos hc8 hf
        obtain ⟨r75, z75, hz75, hf⟩ := lc_bnd_some hf
        have gz75 : lc_lo z z75 := lc_lo.rf.tr (gM_choose hz75)
        cases hf
        exact gz75
      · replace hf := lc_ite_neg hc8 hf
        by_cases hc9 : (lcI z (q5 + 2) a1.toNatClampNeg) = 64
        · replace hf := lc_ite_pos hc9 hf
          obtain ⟨hw10, hf⟩ := lc_chk_some hf
          obtain ⟨r66, z66, hz66, hf⟩ := lc_bnd_some hf
          have gz66 : lc_lo z z66 := lc_lo.rf.tr (gM_enter hz66)
          cases hf
          exact gz66
        · replace hf := lc_ite_neg hc9 hf
          obtain ⟨hw11, hf⟩ := lc_chk_some hf
          obtain ⟨hw12, hf⟩ := lc_chk_some hf
          obtain ⟨r138, z138, hz138, hf⟩ := lc_bnd_some hf
          have gz138 : lc_lo z z138 := (lc_lo.rf.ul (by decide)).tr (gM_begin hz138)
          cases hf
          exact gz138
set_option maxHeartbeats 1000000 in
theorem gY_takePlace_2 : ∀ {n : Nat} {x1 : Int32} {x2 : Int32} {z : lc_S} {r} {z' : lc_S}, fY_takePlace_2 n x1 x2 z = some (r, z') → lc_lo z z' := by
  intro n
  induction n with
  | zero =>
    intro x1 x2 z r z' hf
    cases (show none = some (r, z') from hf)
  | succ n ih =>
    intro x1 x2 z r z' hf
    rw [fY_takePlace_2] at hf
    by_cases hc1 : 12 ≤ x2
    · replace hf := lc_ite_pos hc1 hf
      cases hf
      exact lc_lo.rf
    · replace hf := lc_ite_neg hc1 hf
      obtain ⟨hw2, hf⟩ := lc_chk_some hf
      by_cases hc3 : (lcI z 21 x2.toNatClampNeg) = 0
      · replace hf := lc_ite_pos hc3 hf
        obtain ⟨hw4, hf⟩ := lc_chk_some hf
        obtain ⟨hw5, hf⟩ := lc_chk_some hf
        cases hf
        exact (((lc_lo.rf.ui (by decide)).ui (by decide)).ui (by decide))
      · replace hf := lc_ite_neg hc3 hf
        obtain ⟨x43, ex43⟩ : ∃ x, x = x2 + 1 := ⟨_, rfl⟩
        replace hf := lc_let_of ex43 hf
        exact lc_lo.rf.tr (ih hf)
set_option maxHeartbeats 1000000 in
theorem gY_takePlace {a1 : Int32} {z : lc_S} {r} {z' : lc_S} (hf : fY_takePlace a1 z = some (r, z')) : lc_lo z z' := by
  rw [fY_takePlace] at hf
  exact lc_lo.rf.tr (gY_takePlace_2 hf)
set_option maxHeartbeats 1000000 in
theorem gM_makeCell {a1 : Int64} {z : lc_S} {r} {z' : lc_S} (hf : fM_makeCell a1 z = some (r, z')) : lc_lo z z' := by
  rw [fM_makeCell] at hf
  obtain ⟨r1, z1, hz1, hf⟩ := lc_bnd_some hf
  have gz1 : lc_lo z z1 := lc_lo.rf.tr (gV_isNumber hz1)
  by_cases hc1 : r1 = 0
  · replace hf := lc_ite_pos hc1 hf
    cases hf
    exact (gz1.ui (by decide))
  · replace hf := lc_ite_neg hc1 hf
    obtain ⟨r18, z18, hz18, hf⟩ := lc_bnd_some hf
    have gz18 : lc_lo z z18 := gz1.tr (gV_wordOf hz18)
    obtain ⟨r21, z21, hz21, hf⟩ := lc_bnd_some hf
    have gz21 : lc_lo z z21 := gz18.tr (gY_takePlace hz21)
    by_cases hc2 : r21 = (-1)
    · replace hf := lc_ite_pos hc2 hf
      cases hf
      exact (gz21.ui (by decide))
    · replace hf := lc_ite_neg hc2 hf
      obtain ⟨r41, z41, hz41, hf⟩ := lc_bnd_some hf
      have gz41 : lc_lo z z41 := gz21.tr (gV_of hz41)
      obtain ⟨r44, z44, hz44, hf⟩ := lc_bnd_some hf
      have gz44 : lc_lo z z44 := gz41.tr (gM_end hz44)
      cases hf
      exact gz44
set_option maxHeartbeats 1000000 in
theorem gV_isCell {a0 : Int64} {z : lc_S} {r} {z' : lc_S} (hf : fV_isCell a0 z = some (r, z')) : lc_lo z z' := by
  rw [fV_isCell] at hf
  by_cases hc1 : (lg_cmp (a0 >>> ((32 : Int32).toInt64 &&& 63)) 2) = 0
  · replace hf := lc_ite_pos hc1 hf
    cases hf
    exact lc_lo.rf
  · replace hf := lc_ite_neg hc1 hf
    cases hf
    exact lc_lo.rf
set_option maxHeartbeats 1000000 in
theorem gY_isFree_19 {z : lc_S} {r} {z' : lc_S} (hf : fY_isFree_19 z = some (r, z')) : lc_lo z z' := by
  rw [fY_isFree_19] at hf
  cases hf
  exact lc_lo.rf
set_option maxHeartbeats 1000000 in
theorem gY_isFree {a1 : Int32} {z : lc_S} {r} {z' : lc_S} (hf : fY_isFree a1 z = some (r, z')) : lc_lo z z' := by
  rw [fY_isFree] at hf
  by_cases hc1 : a1 < 0
  · replace hf := lc_ite_pos hc1 hf
    exact lc_lo.rf.tr (gY_isFree_19 hf)
  · replace hf := lc_ite_neg hc1 hf
    by_cases hc2 : 12 ≤ a1
    · replace hf := lc_ite_pos hc2 hf
      exact lc_lo.rf.tr (gY_isFree_19 hf)
    · replace hf := lc_ite_neg hc2 hf
      obtain ⟨hw3, hf⟩ := lc_chk_some hf
      by_cases hc4 : (lcI z 21 a1.toNatClampNeg) = 0
      · replace hf := lc_ite_pos hc4 hf
        exact lc_lo.rf.tr (gY_isFree_19 hf)
      · replace hf := lc_ite_neg hc4 hf
        cases hf
        exact lc_lo.rf
set_option maxHeartbeats 1000000 in
theorem gM_isLivingCell_34 {z : lc_S} {r} {z' : lc_S} (hf : fM_isLivingCell_34 z = some (r, z')) : lc_lo z z' := by
  rw [fM_isLivingCell_34] at hf
  by_cases hc1 : (lcI z 19 3) = 0
  · replace hf := lc_ite_pos hc1 hf
    cases hf
    exact lc_lo.rf
  · replace hf := lc_ite_neg hc1 hf
    cases hf
    exact lc_lo.rf
set_option maxHeartbeats 1000000 in
theorem gM_isLivingCell {a1 : Int64} {z : lc_S} {r} {z' : lc_S} (hf : fM_isLivingCell a1 z = some (r, z')) : lc_lo z z' := by
  rw [fM_isLivingCell] at hf
  obtain ⟨r1, z1, hz1, hf⟩ := lc_bnd_some hf
  have gz1 : lc_lo z z1 := lc_lo.rf.tr (gV_isCell hz1)
  by_cases hc1 : r1 = 0
  · replace hf := lc_ite_pos hc1 hf
    exact (gz1.ui (by decide)).tr (gM_isLivingCell_34 hf)
  · replace hf := lc_ite_neg hc1 hf
    obtain ⟨r20, z20, hz20, hf⟩ := lc_bnd_some hf
    have gz20 : lc_lo z z20 := gz1.tr (gV_wordOf hz20)
    obtain ⟨r23, z23, hz23, hf⟩ := lc_bnd_some hf
    have gz23 : lc_lo z z23 := gz20.tr (gY_isFree hz23)
    by_cases hc2 : r23 = 0
    · replace hf := lc_ite_pos hc2 hf
      exact gz23.tr (gM_isLivingCell_34 hf)
    · replace hf := lc_ite_neg hc2 hf
      exact (gz23.ui (by decide)).tr (gM_isLivingCell_34 hf)
set_option maxHeartbeats 1000000 in
theorem gY_numberAt {a1 : Int32} {z : lc_S} {r} {z' : lc_S} (hf : fY_numberAt a1 z = some (r, z')) : lc_lo z z' := by
  rw [fY_numberAt] at hf
  obtain ⟨r2, z2, hz2, hf⟩ := lc_bnd_some hf
  have gz2 : lc_lo z z2 := lc_lo.rf.tr (gY_isFree hz2)
  by_cases hc1 : r2 = 0
  · replace hf := lc_ite_pos hc1 hf
    obtain ⟨hw2, hf⟩ := lc_chk_some hf
    cases hf
    exact gz2
  · replace hf := lc_ite_neg hc1 hf
    cases hf
    exact gz2
set_option maxHeartbeats 1000000 in
theorem gY_addPair {a1 : Int64} {a3 : Int64} {z : lc_S} {r} {z' : lc_S} (hf : fY_addPair a1 a3 z = some (r, z')) : lc_lo z z' := by
  rw [fY_addPair] at hf
  by_cases hc1 : (lcI z 20 10) < 120
  · replace hf := lc_ite_pos hc1 hf
    obtain ⟨hw2, hf⟩ := lc_chk_some hf
    obtain ⟨hw3, hf⟩ := lc_chk_some hf
    cases hf
    exact (((lc_lo.rf.ul (by decide)).ul (by decide)).ui (by decide))
  · replace hf := lc_ite_neg hc1 hf
    cases hf
    exact lc_lo.rf
set_option maxHeartbeats 1000000 in
theorem gY_pairsMade {z : lc_S} {r} {z' : lc_S} (hf : fY_pairsMade z = some (r, z')) : lc_lo z z' := by
  rw [fY_pairsMade] at hf
  cases hf
  exact lc_lo.rf
set_option maxHeartbeats 1000000 in
theorem gM_makePair {a1 : Int64} {a3 : Int64} {z : lc_S} {r} {z' : lc_S} (hf : fM_makePair a1 a3 z = some (r, z')) : lc_lo z z' := by
  rw [fM_makePair] at hf
  obtain ⟨r6, z6, hz6, hf⟩ := lc_bnd_some hf
  have gz6 : lc_lo z z6 := lc_lo.rf.tr (gY_addPair hz6)
  by_cases hc1 : r6 = 0
  · replace hf := lc_ite_pos hc1 hf
    cases hf
    exact (gz6.ui (by decide))
  · replace hf := lc_ite_neg hc1 hf
    obtain ⟨r18, z18, hz18, hf⟩ := lc_bnd_some hf
    have gz18 : lc_lo z z18 := gz6.tr (gY_pairsMade hz18)
    obtain ⟨r23, z23, hz23, hf⟩ := lc_bnd_some hf
    have gz23 : lc_lo z z23 := gz18.tr (gV_of hz23)
    obtain ⟨r26, z26, hz26, hf⟩ := lc_bnd_some hf
    have gz26 : lc_lo z z26 := gz23.tr (gM_end hz26)
    cases hf
    exact gz26
set_option maxHeartbeats 1000000 in
theorem gM_getNumber {a1 : Int64} {z : lc_S} {r} {z' : lc_S} (hf : fM_getNumber a1 z = some (r, z')) : lc_lo z z' := by
  rw [fM_getNumber] at hf
  obtain ⟨r2, z2, hz2, hf⟩ := lc_bnd_some hf
  have gz2 : lc_lo z z2 := lc_lo.rf.tr (gM_isLivingCell hz2)
  by_cases hc1 : r2 = 0
  · replace hf := lc_ite_pos hc1 hf
    cases hf
    exact gz2
  · replace hf := lc_ite_neg hc1 hf
    obtain ⟨r13, z13, hz13, hf⟩ := lc_bnd_some hf
    have gz13 : lc_lo z z13 := gz2.tr (gV_wordOf hz13)
    obtain ⟨r16, z16, hz16, hf⟩ := lc_bnd_some hf
    have gz16 : lc_lo z z16 := gz13.tr (gY_numberAt hz16)
    obtain ⟨r23, z23, hz23, hf⟩ := lc_bnd_some hf
    have gz23 : lc_lo z z23 := gz16.tr (gV_of hz23)
    obtain ⟨r27, z27, hz27, hf⟩ := lc_bnd_some hf
    have gz27 : lc_lo z z27 := gz23.tr (gM_makePair hz27)
    cases hf
    exact gz27
set_option maxHeartbeats 1000000 in
theorem gY_freePlace {a1 : Int32} {z : lc_S} {r} {z' : lc_S} (hf : fY_freePlace a1 z = some (r, z')) : lc_lo z z' := by
  rw [fY_freePlace] at hf
  obtain ⟨r2, z2, hz2, hf⟩ := lc_bnd_some hf
  have gz2 : lc_lo z z2 := lc_lo.rf.tr (gY_isFree hz2)
  by_cases hc1 : r2 = 0
  · replace hf := lc_ite_pos hc1 hf
    obtain ⟨hw2, hf⟩ := lc_chk_some hf
    cases hf
    exact ((gz2.ui (by decide)).ui (by decide))
  · replace hf := lc_ite_neg hc1 hf
    cases hf
    exact gz2
set_option maxHeartbeats 1000000 in
theorem gM_freeCell {a1 : Int64} {z : lc_S} {r} {z' : lc_S} (hf : fM_freeCell a1 z = some (r, z')) : lc_lo z z' := by
  rw [fM_freeCell] at hf
  obtain ⟨r2, z2, hz2, hf⟩ := lc_bnd_some hf
  have gz2 : lc_lo z z2 := lc_lo.rf.tr (gM_isLivingCell hz2)
  by_cases hc1 : r2 = 0
  · replace hf := lc_ite_pos hc1 hf
    cases hf
    exact gz2
  · replace hf := lc_ite_neg hc1 hf
    obtain ⟨r13, z13, hz13, hf⟩ := lc_bnd_some hf
    have gz13 : lc_lo z z13 := gz2.tr (gV_wordOf hz13)
    obtain ⟨r16, z16, hz16, hf⟩ := lc_bnd_some hf
    have gz16 : lc_lo z z16 := gz13.tr (gY_numberAt hz16)
    obtain ⟨r25, z25, hz25, hf⟩ := lc_bnd_some hf
    have gz25 : lc_lo z z25 := gz16.tr (gV_wordOf hz25)
    obtain ⟨r28, z28, hz28, hf⟩ := lc_bnd_some hf
    have gz28 : lc_lo z z28 := gz25.tr (gY_freePlace hz28)
    obtain ⟨r34, z34, hz34, hf⟩ := lc_bnd_some hf
    have gz34 : lc_lo z z34 := gz28.tr (gV_of hz34)
    obtain ⟨r37, z37, hz37, hf⟩ := lc_bnd_some hf
    have gz37 : lc_lo z z37 := gz34.tr (gM_end hz37)
    cases hf
    exact gz37
set_option maxHeartbeats 1000000 in
theorem gY_putNumber {a1 : Int32} {a2 : Int32} {z : lc_S} {r} {z' : lc_S} (hf : fY_putNumber a1 a2 z = some (r, z')) : lc_lo z z' := by
  rw [fY_putNumber] at hf
  obtain ⟨r2, z2, hz2, hf⟩ := lc_bnd_some hf
  have gz2 : lc_lo z z2 := lc_lo.rf.tr (gY_isFree hz2)
  by_cases hc1 : r2 = 0
  · replace hf := lc_ite_pos hc1 hf
    obtain ⟨hw2, hf⟩ := lc_chk_some hf
    cases hf
    exact (gz2.ui (by decide))
  · replace hf := lc_ite_neg hc1 hf
    cases hf
    exact gz2
set_option maxHeartbeats 1000000 in
theorem gM_putNumber {a1 : Int64} {a3 : Int64} {z : lc_S} {r} {z' : lc_S} (hf : fM_putNumber a1 a3 z = some (r, z')) : lc_lo z z' := by
  rw [fM_putNumber] at hf
  obtain ⟨r1, z1, hz1, hf⟩ := lc_bnd_some hf
  have gz1 : lc_lo z z1 := lc_lo.rf.tr (gV_isNumber hz1)
  by_cases hc1 : r1 = 0
  · replace hf := lc_ite_pos hc1 hf
    cases hf
    exact (gz1.ui (by decide))
  · replace hf := lc_ite_neg hc1 hf
    obtain ⟨r17, z17, hz17, hf⟩ := lc_bnd_some hf
    have gz17 : lc_lo z z17 := gz1.tr (gM_isLivingCell hz17)
    by_cases hc2 : r17 = 0
    · replace hf := lc_ite_pos hc2 hf
      cases hf
      exact gz17
    · replace hf := lc_ite_neg hc2 hf
      obtain ⟨r28, z28, hz28, hf⟩ := lc_bnd_some hf
      have gz28 : lc_lo z z28 := gz17.tr (gV_wordOf hz28)
      obtain ⟨r32, z32, hz32, hf⟩ := lc_bnd_some hf
      have gz32 : lc_lo z z32 := gz28.tr (gV_wordOf hz32)
      obtain ⟨r35, z35, hz35, hf⟩ := lc_bnd_some hf
      have gz35 : lc_lo z z35 := gz32.tr (gY_putNumber hz35)
      obtain ⟨r40, z40, hz40, hf⟩ := lc_bnd_some hf
      have gz40 : lc_lo z z40 := gz35.tr (gM_end hz40)
      cases hf
      exact gz40
set_option maxHeartbeats 1000000 in
theorem gM_numberOf_44 {x1 : Int32} {x2 : Int32} {z : lc_S} {r} {z' : lc_S} (hf : fM_numberOf_44 x1 x2 z = some (r, z')) : lc_lo z z' := by
  rw [fM_numberOf_44] at hf
  by_cases hc1 : x2 ≤ x1
  · replace hf := lc_ite_pos hc1 hf
    cases hf
    exact lc_lo.rf
  · replace hf := lc_ite_neg hc1 hf
    cases hf
    exact lc_lo.rf
set_option maxHeartbeats 1000000 in
theorem gM_numberOf {a0 : Int32} {a1 : Int32} {a2 : Int32} {z : lc_S} {r} {z' : lc_S} (hf : fM_numberOf a0 a1 a2 z = some (r, z')) : lc_lo z z' := by
  rw [fM_numberOf] at hf
  by_cases hc1 : a0 = 42
  · replace hf := lc_ite_pos hc1 hf
    cases hf
    exact lc_lo.rf
  · replace hf := lc_ite_neg hc1 hf
    by_cases hc2 : a0 = 43
    · replace hf := lc_ite_pos hc2 hf
      cases hf
      exact lc_lo.rf
    · replace hf := lc_ite_neg hc2 hf
      by_cases hc3 : a0 = 44
      · replace hf := lc_ite_pos hc3 hf
        exact lc_lo.rf.tr (gM_numberOf_44 hf)
      · replace hf := lc_ite_neg hc3 hf
        by_cases hc4 : a0 = 45
        · replace hf := lc_ite_pos hc4 hf
          cases hf
          exact lc_lo.rf
        · replace hf := lc_ite_neg hc4 hf
          exact lc_lo.rf.tr (gM_numberOf_44 hf)
set_option maxHeartbeats 1000000 in
theorem gM_calculate_15 {z : lc_S} {r} {z' : lc_S} (hf : fM_calculate_15 z = some (r, z')) : lc_lo z z' := by
  rw [fM_calculate_15] at hf
  cases hf
  exact (lc_lo.rf.ui (by decide))
set_option maxHeartbeats 1000000 in
theorem gM_calculate {a1 : Int32} {a2 : Int64} {a4 : Int64} {z : lc_S} {r} {z' : lc_S} (hf : fM_calculate a1 a2 a4 z = some (r, z')) : lc_lo z z' := by
  rw [fM_calculate] at hf
  obtain ⟨r1, z1, hz1, hf⟩ := lc_bnd_some hf
  have gz1 : lc_lo z z1 := lc_lo.rf.tr (gV_isNumber hz1)
  by_cases hc1 : r1 = 0
  · replace hf := lc_ite_pos hc1 hf
    exact gz1.tr (gM_calculate_15 hf)
  · replace hf := lc_ite_neg hc1 hf
    obtain ⟨r9, z9, hz9, hf⟩ := lc_bnd_some hf
    have gz9 : lc_lo z z9 := gz1.tr (gV_isNumber hz9)
    by_cases hc2 : r9 = 0
    · replace hf := lc_ite_pos hc2 hf
      exact gz9.tr (gM_calculate_15 hf)
    · replace hf := lc_ite_neg hc2 hf
      obtain ⟨r23, z23, hz23, hf⟩ := lc_bnd_some hf
      have gz23 : lc_lo z z23 := gz9.tr (gV_wordOf hz23)
      obtain ⟨r28, z28, hz28, hf⟩ := lc_bnd_some hf
      have gz28 : lc_lo z z28 := gz23.tr (gV_wordOf hz28)
      obtain ⟨r31, z31, hz31, hf⟩ := lc_bnd_some hf
      have gz31 : lc_lo z z31 := gz28.tr (gM_numberOf hz31)
      obtain ⟨r40, z40, hz40, hf⟩ := lc_bnd_some hf
      have gz40 : lc_lo z z40 := gz31.tr (gV_of hz40)
      obtain ⟨r43, z43, hz43, hf⟩ := lc_bnd_some hf
      have gz43 : lc_lo z z43 := gz40.tr (gM_end hz43)
      cases hf
      exact gz43
set_option maxHeartbeats 1000000 in
theorem gM_finish_84 {x4 : Int64} {z : lc_S} {r} {z' : lc_S} (hf : fM_finish_84 x4 z = some (r, z')) : lc_lo z z' := by
  rw [fM_finish_84] at hf
  obtain ⟨r87, z87, hz87, hf⟩ := lc_bnd_some hf
  have gz87 : lc_lo z z87 := lc_lo.rf.tr (gM_end hz87)
  cases hf
  exact gz87
set_option maxHeartbeats 1000000 in
theorem gM_finish {a1 : Int32} {a2 : Int64} {a4 : Int64} {z : lc_S} {r} {z' : lc_S} (hf : fM_finish a1 a2 a4 z = some (r, z')) : lc_lo z z' := by
  rw [fM_finish] at hf
  by_cases hc1 : a1 = 44
  · replace hf := lc_ite_pos hc1 hf
    obtain ⟨r134, z134, hz134, hf⟩ := lc_bnd_some hf
    have gz134 : lc_lo z z134 := lc_lo.rf.tr (gM_makePair hz134)
    cases hf
    exact gz134
  · replace hf := lc_ite_neg hc1 hf
    by_cases hc2 : a1 = 47
    · replace hf := lc_ite_pos hc2 hf
      exact lc_lo.rf.tr (gM_finish_84 hf)
    · replace hf := lc_ite_neg hc2 hf
      by_cases hc3 : a1 = 58
      · replace hf := lc_ite_pos hc3 hf
        exact lc_lo.rf.tr (gM_finish_84 hf)
      · replace hf := lc_ite_neg hc3 hf
        by_cases hc4 : a1 = 63
        · replace hf := lc_ite_pos hc4 hf
          exact lc_lo.rf.tr (gM_finish_84 hf)
        · replace hf := lc_ite_neg hc4 hf
          by_cases hc5 : a1 = 64
          · replace hf := lc_ite_pos hc5 hf
            exact lc_lo.rf.tr (gM_finish_84 hf)
          · replace hf := lc_ite_neg hc5 hf
            by_cases hc6 : a1 = 100
            · replace hf := lc_ite_pos hc6 hf
              obtain ⟨r114, z114, hz114, hf⟩ := lc_bnd_some hf
              have gz114 : lc_lo z z114 := lc_lo.rf.tr (gM_freeCell hz114)
              cases hf
              exact gz114
            · replace hf := lc_ite_neg hc6 hf
              by_cases hc7 : a1 = 103
              · replace hf := lc_ite_pos hc7 hf
                obtain ⟨r105, z105, hz105, hf⟩ := lc_bnd_some hf
                have gz105 : lc_lo z z105 := lc_lo.rf.tr (gM_getNumber hz105)
                cases hf
                exact gz105
              · replace hf := lc_ite_neg hc7 hf
                by_cases hc8 : a1 = 110
                · replace hf := lc_ite_pos hc8 hf
                  obtain ⟨r96, z96, hz96, hf⟩ := lc_bnd_some hf
                  have gz96 : lc_lo z z96 := lc_lo.rf.tr (gM_makeCell hz96)
                  cases hf
                  exact gz96
                · replace hf := lc_ite_neg hc8 hf
                  by_cases hc9 : a1 = 112
                  · replace hf := lc_ite_pos hc9 hf
                    obtain ⟨r124, z124, hz124, hf⟩ := lc_bnd_some hf
                    have gz124 : lc_lo z z124 := lc_lo.rf.tr (gM_putNumber hz124)
                    cases hf
                    exact gz124
                  · replace hf := lc_ite_neg hc9 hf
                    obtain ⟨r145, z145, hz145, hf⟩ := lc_bnd_some hf
                    have gz145 : lc_lo z z145 := lc_lo.rf.tr (gM_calculate hz145)
                    cases hf
                    exact gz145
set_option maxHeartbeats 1000000 in
theorem gM_takeStep_161 {x1 : Int32} {x5 : Int32} {z : lc_S} {r} {z' : lc_S} (hf : fM_takeStep_161 x1 x5 z = some (r, z')) : lc_lo z z' := by
  rw [fM_takeStep_161] at hf
  obtain ⟨hw1, hf⟩ := lc_chk_some hf
  obtain ⟨r174, z174, hz174, hf⟩ := lc_bnd_some hf
  have gz174 : lc_lo z z174 := lc_lo.rf.tr (gM_finish hz174)
  cases hf
  exact gz174
set_option maxHeartbeats 1000000 in
theorem gM_takeStep {z : lc_S} {r} {z' : lc_S} (hf : fM_takeStep z = some (r, z')) : lc_lo z z' := by
  rw [fM_takeStep] at hf
  obtain ⟨x6, ex6⟩ : ∃ x, x = (lcI z 19 11) - 1 := ⟨_, rfl⟩
  replace hf := lc_let_of ex6 hf
  obtain ⟨hw1, hf⟩ := lc_chk_some hf
  obtain ⟨x13, ex13⟩ : ∃ x, x = lcI z 32 x6.toNatClampNeg := ⟨_, rfl⟩
  replace hf := lc_let_of ex13 hf
  obtain ⟨hw2, hf⟩ := lc_chk_some hf
  obtain ⟨x20, ex20⟩ : ∃ x, x = lcI z 31 x6.toNatClampNeg := ⟨_, rfl⟩
  replace hf := lc_let_of ex20 hf
  obtain ⟨hw3, hf⟩ := lc_chk_some hf
  obtain ⟨x27, ex27⟩ : ∃ x, x = lcI z 33 x6.toNatClampNeg := ⟨_, rfl⟩
  replace hf := lc_let_of ex27 hf
  obtain ⟨hw4, hf⟩ := lc_chk_some hf
  obtain ⟨q34, hq34, hf⟩ := lc_bnr_some hf
  obtain ⟨hw5, hf⟩ := lc_chk_some hf
  obtain ⟨hw6, hf⟩ := lc_chk_some hf
  obtain ⟨x40, ex40⟩ : ∃ x, x = lcI z (q34 + 2) x20.toNatClampNeg := ⟨_, rfl⟩
  replace hf := lc_let_of ex40 hf
  obtain ⟨hw7, hf⟩ := lc_chk_some hf
  obtain ⟨hw8, hf⟩ := lc_chk_some hf
  by_cases hc9 : x40 = 35
  · replace hf := lc_ite_pos hc9 hf
    obtain ⟨hw10, hf⟩ := lc_chk_some hf
    obtain ⟨q66, hq66, hf⟩ := lc_bnr_some hf
    obtain ⟨hw11, hf⟩ := lc_chk_some hf
    obtain ⟨hw12, hf⟩ := lc_chk_some hf
    obtain ⟨r72, z72, hz72, hf⟩ := lc_bnd_some hf
    have gz72 : lc_lo z z72 := (lc_lo.rf.ui (by decide)).tr (gV_of hz72)
    obtain ⟨r75, z75, hz75, hf⟩ := lc_bnd_some hf
    have gz75 : lc_lo z z75 := gz72.tr (gM_end hz75)
    cases hf
    exact gz75
  · replace hf := lc_ite_neg hc9 hf
    by_cases hc13 : x40 = 118
    · replace hf := lc_ite_pos hc13 hf
      obtain ⟨r92, z92, hz92, hf⟩ := lc_bnd_some hf
      have gz92 : lc_lo z z92 := (lc_lo.rf.ui (by decide)).tr (gM_valueOfVariable hz92)
      obtain ⟨r95, z95, hz95, hf⟩ := lc_bnd_some hf
      have gz95 : lc_lo z z95 := gz92.tr (gM_end hz95)
      cases hf
      exact gz95
    · replace hf := lc_ite_neg hc13 hf
      by_cases hc14 : x27 = 0
      · replace hf := lc_ite_pos hc14 hf
        obtain ⟨hw15, hf⟩ := lc_chk_some hf
        obtain ⟨q112, hq112, hf⟩ := lc_bnr_some hf
        obtain ⟨hw16, hf⟩ := lc_chk_some hf
        obtain ⟨hw17, hf⟩ := lc_chk_some hf
        obtain ⟨r119, z119, hz119, hf⟩ := lc_bnd_some hf
        have gz119 : lc_lo z z119 := (lc_lo.rf.ui (by decide)).tr (gM_begin hz119)
        cases hf
        exact gz119
      · replace hf := lc_ite_neg hc14 hf
        by_cases hc18 : x27 = 1
        · replace hf := lc_ite_pos hc18 hf
          by_cases hc19 : x40 = 110
          · replace hf := lc_ite_pos hc19 hf
            exact (lc_lo.rf.ui (by decide)).tr (gM_takeStep_161 hf)
          · replace hf := lc_ite_neg hc19 hf
            by_cases hc20 : x40 = 103
            · replace hf := lc_ite_pos hc20 hf
              exact (lc_lo.rf.ui (by decide)).tr (gM_takeStep_161 hf)
            · replace hf := lc_ite_neg hc20 hf
              by_cases hc21 : x40 = 100
              · replace hf := lc_ite_pos hc21 hf
                exact (lc_lo.rf.ui (by decide)).tr (gM_takeStep_161 hf)
              · replace hf := lc_ite_neg hc21 hf
                obtain ⟨r155, z155, hz155, hf⟩ := lc_bnd_some hf
                have gz155 : lc_lo z z155 := (lc_lo.rf.ui (by decide)).tr (gM_goOn hz155)
                cases hf
                exact gz155
        · replace hf := lc_ite_neg hc18 hf
          exact (lc_lo.rf.ui (by decide)).tr (gM_takeStep_161 hf)
set_option maxHeartbeats 1000000 in
theorem gY_cellsIn_27 {x1 : Int64} {z : lc_S} {r} {z' : lc_S} (hf : fY_cellsIn_27 x1 z = some (r, z')) : lc_lo z z' := by
  rw [fY_cellsIn_27] at hf
  obtain ⟨r28, z28, hz28, hf⟩ := lc_bnd_some hf
  have gz28 : lc_lo z z28 := lc_lo.rf.tr (gV_isCell hz28)
  by_cases hc1 : r28 = 0
  · replace hf := lc_ite_pos hc1 hf
    cases hf
    exact gz28
  · replace hf := lc_ite_neg hc1 hf
    cases hf
    exact gz28
set_option maxHeartbeats 1000000 in
theorem gY_cellsIn {a1 : Int64} {z : lc_S} {r} {z' : lc_S} (hf : fY_cellsIn a1 z = some (r, z')) : lc_lo z z' := by
  rw [fY_cellsIn] at hf
  obtain ⟨r1, z1, hz1, hf⟩ := lc_bnd_some hf
  have gz1 : lc_lo z z1 := lc_lo.rf.tr (gV_wordOf hz1)
  obtain ⟨r6, z6, hz6, hf⟩ := lc_bnd_some hf
  have gz6 : lc_lo z z6 := gz1.tr (gV_isPair hz6)
  by_cases hc1 : r6 = 0
  · replace hf := lc_ite_pos hc1 hf
    exact gz6.tr (gY_cellsIn_27 hf)
  · replace hf := lc_ite_neg hc1 hf
    obtain ⟨r14, z14, hz14, hf⟩ := lc_bnd_some hf
    have gz14 : lc_lo z z14 := gz6.tr (gY_isMade hz14)
    by_cases hc2 : r14 = 0
    · replace hf := lc_ite_pos hc2 hf
      exact gz14.tr (gY_cellsIn_27 hf)
    · replace hf := lc_ite_neg hc2 hf
      obtain ⟨hw3, hf⟩ := lc_chk_some hf
      cases hf
      exact gz14
set_option maxHeartbeats 1000000 in
theorem gY_numbersIn_27 {x1 : Int64} {z : lc_S} {r} {z' : lc_S} (hf : fY_numbersIn_27 x1 z = some (r, z')) : lc_lo z z' := by
  rw [fY_numbersIn_27] at hf
  obtain ⟨r28, z28, hz28, hf⟩ := lc_bnd_some hf
  have gz28 : lc_lo z z28 := lc_lo.rf.tr (gV_isNumber hz28)
  by_cases hc1 : r28 = 0
  · replace hf := lc_ite_pos hc1 hf
    cases hf
    exact gz28
  · replace hf := lc_ite_neg hc1 hf
    cases hf
    exact gz28
set_option maxHeartbeats 1000000 in
theorem gY_numbersIn {a1 : Int64} {z : lc_S} {r} {z' : lc_S} (hf : fY_numbersIn a1 z = some (r, z')) : lc_lo z z' := by
  rw [fY_numbersIn] at hf
  obtain ⟨r1, z1, hz1, hf⟩ := lc_bnd_some hf
  have gz1 : lc_lo z z1 := lc_lo.rf.tr (gV_wordOf hz1)
  obtain ⟨r6, z6, hz6, hf⟩ := lc_bnd_some hf
  have gz6 : lc_lo z z6 := gz1.tr (gV_isPair hz6)
  by_cases hc1 : r6 = 0
  · replace hf := lc_ite_pos hc1 hf
    exact gz6.tr (gY_numbersIn_27 hf)
  · replace hf := lc_ite_neg hc1 hf
    obtain ⟨r14, z14, hz14, hf⟩ := lc_bnd_some hf
    have gz14 : lc_lo z z14 := gz6.tr (gY_isMade hz14)
    by_cases hc2 : r14 = 0
    · replace hf := lc_ite_pos hc2 hf
      exact gz14.tr (gY_numbersIn_27 hf)
    · replace hf := lc_ite_neg hc2 hf
      obtain ⟨hw3, hf⟩ := lc_chk_some hf
      cases hf
      exact gz14
set_option maxHeartbeats 1000000 in
theorem gY_hasNumber_27 {x1 : Int64} {z : lc_S} {r} {z' : lc_S} (hf : fY_hasNumber_27 x1 z = some (r, z')) : lc_lo z z' := by
  rw [fY_hasNumber_27] at hf
  obtain ⟨r28, z28, hz28, hf⟩ := lc_bnd_some hf
  have gz28 : lc_lo z z28 := lc_lo.rf.tr (gV_isNumber hz28)
  obtain ⟨hw1, hf⟩ := lc_chk_some hf
  cases hf
  exact gz28
set_option maxHeartbeats 1000000 in
theorem gY_hasNumber {a1 : Int64} {z : lc_S} {r} {z' : lc_S} (hf : fY_hasNumber a1 z = some (r, z')) : lc_lo z z' := by
  rw [fY_hasNumber] at hf
  obtain ⟨r1, z1, hz1, hf⟩ := lc_bnd_some hf
  have gz1 : lc_lo z z1 := lc_lo.rf.tr (gV_wordOf hz1)
  obtain ⟨r6, z6, hz6, hf⟩ := lc_bnd_some hf
  have gz6 : lc_lo z z6 := gz1.tr (gV_isPair hz6)
  by_cases hc1 : r6 = 0
  · replace hf := lc_ite_pos hc1 hf
    exact gz6.tr (gY_hasNumber_27 hf)
  · replace hf := lc_ite_neg hc1 hf
    obtain ⟨r14, z14, hz14, hf⟩ := lc_bnd_some hf
    have gz14 : lc_lo z z14 := gz6.tr (gY_isMade hz14)
    by_cases hc2 : r14 = 0
    · replace hf := lc_ite_pos hc2 hf
      exact gz14.tr (gY_hasNumber_27 hf)
    · replace hf := lc_ite_neg hc2 hf
      obtain ⟨hw3, hf⟩ := lc_chk_some hf
      obtain ⟨hw4, hf⟩ := lc_chk_some hf
      cases hf
      exact gz14
set_option maxHeartbeats 1000000 in
theorem gY_firstNumberIn_27 {x1 : Int64} {x3 : Int32} {z : lc_S} {r} {z' : lc_S} (hf : fY_firstNumberIn_27 x1 x3 z = some (r, z')) : lc_lo z z' := by
  rw [fY_firstNumberIn_27] at hf
  obtain ⟨r28, z28, hz28, hf⟩ := lc_bnd_some hf
  have gz28 : lc_lo z z28 := lc_lo.rf.tr (gV_isNumber hz28)
  by_cases hc1 : r28 = 0
  · replace hf := lc_ite_pos hc1 hf
    cases hf
    exact gz28
  · replace hf := lc_ite_neg hc1 hf
    cases hf
    exact gz28
set_option maxHeartbeats 1000000 in
theorem gY_firstNumberIn {a1 : Int64} {z : lc_S} {r} {z' : lc_S} (hf : fY_firstNumberIn a1 z = some (r, z')) : lc_lo z z' := by
  rw [fY_firstNumberIn] at hf
  obtain ⟨r1, z1, hz1, hf⟩ := lc_bnd_some hf
  have gz1 : lc_lo z z1 := lc_lo.rf.tr (gV_wordOf hz1)
  obtain ⟨r6, z6, hz6, hf⟩ := lc_bnd_some hf
  have gz6 : lc_lo z z6 := gz1.tr (gV_isPair hz6)
  by_cases hc1 : r6 = 0
  · replace hf := lc_ite_pos hc1 hf
    exact gz6.tr (gY_firstNumberIn_27 hf)
  · replace hf := lc_ite_neg hc1 hf
    obtain ⟨r14, z14, hz14, hf⟩ := lc_bnd_some hf
    have gz14 : lc_lo z z14 := gz6.tr (gY_isMade hz14)
    by_cases hc2 : r14 = 0
    · replace hf := lc_ite_pos hc2 hf
      exact gz14.tr (gY_firstNumberIn_27 hf)
    · replace hf := lc_ite_neg hc2 hf
      obtain ⟨hw3, hf⟩ := lc_chk_some hf
      cases hf
      exact gz14
set_option maxHeartbeats 1000000 in
theorem gY_sumUpPairs_116 {k2 : Int32 → lc_S → Option ((Unit) × lc_S)} (hk2 : ∀ {v0 : Int32} {z : lc_S} {r} {z' : lc_S}, k2 v0 z = some (r, z') → lc_lo z z') {x1 : Int32} {t1 : Int32} {t2 : Int32} {z : lc_S} {r} {z' : lc_S} (hf : fY_sumUpPairs_116 k2 x1 t1 t2 z = some (r, z')) : lc_lo z z' := by
  rw [fY_sumUpPairs_116] at hf
  obtain ⟨hw1, hf⟩ := lc_chk_some hf
  obtain ⟨x117, ex117⟩ : ∃ x, x = x1 + 1 := ⟨_, rfl⟩
  replace hf := lc_let_of ex117 hf
  exact (lc_lo.rf.ui (by decide)).tr (hk2 hf)
set_option maxHeartbeats 1000000 in
theorem gY_sumUpPairs_88 {k2 : Int32 → lc_S → Option ((Unit) × lc_S)} (hk2 : ∀ {v0 : Int32} {z : lc_S} {r} {z' : lc_S}, k2 v0 z = some (r, z') → lc_lo z z') {x1 : Int32} {x2 : Int64} {x4 : Int64} {t1 : Int32} {t2 : Int32} {z : lc_S} {r} {z' : lc_S} (hf : fY_sumUpPairs_88 k2 x1 x2 x4 t1 t2 z = some (r, z')) : lc_lo z z' := by
  rw [fY_sumUpPairs_88] at hf
  obtain ⟨hw1, hf⟩ := lc_chk_some hf
  obtain ⟨hw2, hf⟩ := lc_chk_some hf
  obtain ⟨r96, z96, hz96, hf⟩ := lc_bnd_some hf
  have gz96 : lc_lo z z96 := (lc_lo.rf.ui (by decide)).tr (gY_hasNumber hz96)
  by_cases hc3 : r96 = 0
  · replace hf := lc_ite_pos hc3 hf
    obtain ⟨r113, z113, hz113, hf⟩ := lc_bnd_some hf
    have gz113 : lc_lo z z113 := gz96.tr (gY_firstNumberIn hz113)
    exact gz113.tr (gY_sumUpPairs_116 (fun h => hk2 h) hf)
  · replace hf := lc_ite_neg hc3 hf
    obtain ⟨r104, z104, hz104, hf⟩ := lc_bnd_some hf
    have gz104 : lc_lo z z104 := gz96.tr (gY_firstNumberIn hz104)
    exact gz104.tr (gY_sumUpPairs_116 (fun h => hk2 h) hf)
set_option maxHeartbeats 1000000 in
theorem gY_sumUpPairs_83 {k2 : Int32 → lc_S → Option ((Unit) × lc_S)} (hk2 : ∀ {v0 : Int32} {z : lc_S} {r} {z' : lc_S}, k2 v0 z = some (r, z') → lc_lo z z') {x1 : Int32} {x2 : Int64} {x4 : Int64} {t1 : Int32} {z : lc_S} {r} {z' : lc_S} (hf : fY_sumUpPairs_83 k2 x1 x2 x4 t1 z = some (r, z')) : lc_lo z z' := by
  rw [fY_sumUpPairs_83] at hf
  exact lc_lo.rf.tr (gY_sumUpPairs_88 (fun h => hk2 h) hf)
set_option maxHeartbeats 1000000 in
theorem gY_sumUpPairs_2 : ∀ {n : Nat} {x1 : Int32} {z : lc_S} {r} {z' : lc_S}, fY_sumUpPairs_2 n x1 z = some (r, z') → lc_lo z z' := by
  intro n
  induction n with
  | zero =>
    intro x1 z r z' hf
    cases (show none = some (r, z') from hf)
  | succ n ih =>
    intro x1 z r z' hf
    rw [fY_sumUpPairs_2] at hf
    by_cases hc1 : (lcI z 20 10) ≤ x1
    · replace hf := lc_ite_pos hc1 hf
      cases hf
      exact lc_lo.rf
    · replace hf := lc_ite_neg hc1 hf
      obtain ⟨hw2, hf⟩ := lc_chk_some hf
      obtain ⟨x16, ex16⟩ : ∃ x, x = lcL z 23 x1.toNatClampNeg := ⟨_, rfl⟩
      replace hf := lc_let_of ex16 hf
      obtain ⟨hw3, hf⟩ := lc_chk_some hf
      obtain ⟨x23, ex23⟩ : ∃ x, x = lcL z 24 x1.toNatClampNeg := ⟨_, rfl⟩
      replace hf := lc_let_of ex23 hf
      obtain ⟨r32, z32, hz32, hf⟩ := lc_bnd_some hf
      have gz32 : lc_lo z z32 := lc_lo.rf.tr (gY_cellsIn hz32)
      obtain ⟨r38, z38, hz38, hf⟩ := lc_bnd_some hf
      have gz38 : lc_lo z z38 := gz32.tr (gY_cellsIn hz38)
      obtain ⟨hw4, hf⟩ := lc_chk_some hf
      obtain ⟨r50, z50, hz50, hf⟩ := lc_bnd_some hf
      have gz50 : lc_lo z z50 := (gz38.ui (by decide)).tr (gY_numbersIn hz50)
      obtain ⟨r56, z56, hz56, hf⟩ := lc_bnd_some hf
      have gz56 : lc_lo z z56 := gz50.tr (gY_numbersIn hz56)
      obtain ⟨hw5, hf⟩ := lc_chk_some hf
      obtain ⟨r68, z68, hz68, hf⟩ := lc_bnd_some hf
      have gz68 : lc_lo z z68 := (gz56.ui (by decide)).tr (gY_hasNumber hz68)
      by_cases hc6 : r68 = 0
      · replace hf := lc_ite_pos hc6 hf
        obtain ⟨r77, z77, hz77, hf⟩ := lc_bnd_some hf
        have gz77 : lc_lo z z77 := gz68.tr (gY_hasNumber hz77)
        by_cases hc7 : r77 = 0
        · replace hf := lc_ite_pos hc7 hf
          exact gz77.tr (gY_sumUpPairs_88 (fun h => ih h) hf)
        · replace hf := lc_ite_neg hc7 hf
          exact gz77.tr (gY_sumUpPairs_83 (fun h => ih h) hf)
      · replace hf := lc_ite_neg hc6 hf
        exact gz68.tr (gY_sumUpPairs_83 (fun h => ih h) hf)
set_option maxHeartbeats 1000000 in
theorem gY_sumUpPairs {z : lc_S} {r} {z' : lc_S} (hf : fY_sumUpPairs z = some (r, z')) : lc_lo z z' := by
  rw [fY_sumUpPairs] at hf
  exact lc_lo.rf.tr (gY_sumUpPairs_2 hf)
set_option maxHeartbeats 1000000 in
theorem gM_trapOf_89 {z : lc_S} {r} {z' : lc_S} (hf : fM_trapOf_89 z = some (r, z')) : lc_lo z z' := by
  rw [fM_trapOf_89] at hf
  obtain ⟨r93, z93, hz93, hf⟩ := lc_bnd_some hf
  have gz93 : lc_lo z z93 := lc_lo.rf.tr (gY_sumUpPairs hz93)
  cases hf
  exact gz93
set_option maxHeartbeats 1000000 in
theorem gM_trapOf_77 {z : lc_S} {r} {z' : lc_S} (hf : fM_trapOf_77 z = some (r, z')) : lc_lo z z' := by
  rw [fM_trapOf_77] at hf
  by_cases hc1 : (lcI z 19 3) = 0
  · replace hf := lc_ite_pos hc1 hf
    exact lc_lo.rf.tr (gM_trapOf_89 hf)
  · replace hf := lc_ite_neg hc1 hf
    exact (lc_lo.rf.ul (by decide)).tr (gM_trapOf_89 hf)
set_option maxHeartbeats 1000000 in
theorem gM_trapOf_45 : ∀ {n : Nat} {x4 : Int32} {z : lc_S} {r} {z' : lc_S}, fM_trapOf_45 n x4 z = some (r, z') → lc_lo z z' := by
  intro n
  induction n with
  | zero =>
    intro x4 z r z' hf
    cases (show none = some (r, z') from hf)
  | succ n ih =>
    intro x4 z r z' hf
    rw [fM_trapOf_45] at hf
    by_cases hc1 : 6000 ≤ x4
    · replace hf := lc_ite_pos hc1 hf
      exact lc_lo.rf.tr (gM_trapOf_77 hf)
    · replace hf := lc_ite_neg hc1 hf
      by_cases hc2 : (lcI z 19 11) ≤ 0
      · replace hf := lc_ite_pos hc2 hf
        exact lc_lo.rf.tr (gM_trapOf_77 hf)
      · replace hf := lc_ite_neg hc2 hf
        by_cases hc3 : (lcI z 19 3) = 0
        · replace hf := lc_ite_pos hc3 hf
          obtain ⟨r68, z68, hz68, hf⟩ := lc_bnd_some hf
          have gz68 : lc_lo z z68 := lc_lo.rf.tr (gM_takeStep hz68)
          obtain ⟨x71, ex71⟩ : ∃ x, x = x4 + 1 := ⟨_, rfl⟩
          replace hf := lc_let_of ex71 hf
          exact gz68.tr (ih hf)
        · replace hf := lc_ite_neg hc3 hf
          exact lc_lo.rf.tr (gM_trapOf_77 hf)
set_option maxHeartbeats 1000000 in
theorem gM_trapOf {a1 : Nat} {a2 : Int32} {a3 : Int32} {z : lc_S} {r} {z' : lc_S} (hf : fM_trapOf a1 a2 a3 z = some (r, z')) : lc_lo z z' := by
  rw [fM_trapOf] at hf
  obtain ⟨r9, z9, hz9, hf⟩ := lc_bnd_some hf
  have gz9 : lc_lo z z9 := (lc_lo.rf.ur (by decide)).tr (gY_clear hz9)
  obtain ⟨r30, z30, hz30, hf⟩ := lc_bnd_some hf
  have gz30 : lc_lo z z30 := (((gz9.ui (by decide)).ui (by decide)).ui (by decide)).tr (gV_of hz30)
  obtain ⟨r39, z39, hz39, hf⟩ := lc_bnd_some hf
  have gz39 : lc_lo z z39 := (gz30.ul (by decide)).tr (gM_enter hz39)
  exact gz39.tr (gM_trapOf_45 hf)
set_option maxHeartbeats 1000000 in
theorem gA_run {a1 : Int32} {a2 : Int32} {z : lc_S} {r} {z' : lc_S} (hf : fA_run a1 a2 z = some (r, z')) : lc_lo z z' := by
  rw [fA_run] at hf
  obtain ⟨r2, z2, hz2, hf⟩ := lc_bnd_some hf
  have gz2 : lc_lo z z2 := lc_lo.rf.tr (gA_isThere hz2)
  by_cases hc1 : r2 = 0
  · replace hf := lc_ite_pos hc1 hf
    cases hf
    exact gz2
  · replace hf := lc_ite_neg hc1 hf
    obtain ⟨r26, z26, hz26, hf⟩ := lc_bnd_some hf
    have gz26 : lc_lo z z26 := gz2.tr (gM_trapOf hz26)
    cases hf
    exact gz26
set_option maxHeartbeats 1000000 in
theorem gM_result {z : lc_S} {r} {z' : lc_S} (hf : fM_result z = some (r, z')) : lc_lo z z' := by
  rw [fM_result] at hf
  cases hf
  exact lc_lo.rf
set_option maxHeartbeats 1000000 in
theorem gV_kindOf {a0 : Int64} {z : lc_S} {r} {z' : lc_S} (hf : fV_kindOf a0 z = some (r, z')) : lc_lo z z' := by
  rw [fV_kindOf] at hf
  cases hf
  exact lc_lo.rf
set_option maxHeartbeats 1000000 in
theorem gM_leadingNumber {z : lc_S} {r} {z' : lc_S} (hf : fM_leadingNumber z = some (r, z')) : lc_lo z z' := by
  rw [fM_leadingNumber] at hf
  obtain ⟨r4, z4, hz4, hf⟩ := lc_bnd_some hf
  have gz4 : lc_lo z z4 := lc_lo.rf.tr (gV_isCell hz4)
  by_cases hc1 : r4 = 0
  · replace hf := lc_ite_pos hc1 hf
    obtain ⟨r28, z28, hz28, hf⟩ := lc_bnd_some hf
    have gz28 : lc_lo z z28 := gz4.tr (gY_firstNumberIn hz28)
    cases hf
    exact gz28
  · replace hf := lc_ite_neg hc1 hf
    obtain ⟨r14, z14, hz14, hf⟩ := lc_bnd_some hf
    have gz14 : lc_lo z z14 := gz4.tr (gV_wordOf hz14)
    cases hf
    exact gz14
set_option maxHeartbeats 1000000 in
theorem gM_memory {z : lc_S} {r} {z' : lc_S} (hf : fM_memory z = some (r, z')) : lc_lo z z' := by
  rw [fM_memory] at hf
  cases hf
  exact lc_lo.rf
set_option maxHeartbeats 1000000 in
theorem gA_value {a1 : Int32} {z : lc_S} {r} {z' : lc_S} (hf : fA_value a1 z = some (r, z')) : lc_lo z z' := by
  rw [fA_value] at hf
  by_cases hc1 : a1 = 0
  · replace hf := lc_ite_pos hc1 hf
    obtain ⟨r36, z36, hz36, hf⟩ := lc_bnd_some hf
    have gz36 : lc_lo z z36 := lc_lo.rf.tr (gM_result hz36)
    obtain ⟨r39, z39, hz39, hf⟩ := lc_bnd_some hf
    have gz39 : lc_lo z z39 := gz36.tr (gV_kindOf hz39)
    cases hf
    exact gz39
  · replace hf := lc_ite_neg hc1 hf
    by_cases hc2 : a1 = 1
    · replace hf := lc_ite_pos hc2 hf
      obtain ⟨r47, z47, hz47, hf⟩ := lc_bnd_some hf
      have gz47 : lc_lo z z47 := lc_lo.rf.tr (gM_leadingNumber hz47)
      cases hf
      exact gz47
    · replace hf := lc_ite_neg hc2 hf
      by_cases hc3 : a1 = 2
      · replace hf := lc_ite_pos hc3 hf
        obtain ⟨r55, z55, hz55, hf⟩ := lc_bnd_some hf
        have gz55 : lc_lo z z55 := lc_lo.rf.tr (gM_memory hz55)
        obtain ⟨hw4, hf⟩ := lc_chk_some hf
        obtain ⟨r62, z62, hz62, hf⟩ := lc_bnd_some hf
        have gz62 : lc_lo z z62 := gz55.tr (gM_result hz62)
        obtain ⟨r65, z65, hz65, hf⟩ := lc_bnd_some hf
        have gz65 : lc_lo z z65 := gz62.tr (gY_cellsIn hz65)
        cases hf
        exact gz65
      · replace hf := lc_ite_neg hc3 hf
        by_cases hc5 : a1 = 3
        · replace hf := lc_ite_pos hc5 hf
          obtain ⟨r73, z73, hz73, hf⟩ := lc_bnd_some hf
          have gz73 : lc_lo z z73 := lc_lo.rf.tr (gM_memory hz73)
          obtain ⟨hw6, hf⟩ := lc_chk_some hf
          obtain ⟨r80, z80, hz80, hf⟩ := lc_bnd_some hf
          have gz80 : lc_lo z z80 := gz73.tr (gM_result hz80)
          obtain ⟨r83, z83, hz83, hf⟩ := lc_bnd_some hf
          have gz83 : lc_lo z z83 := gz80.tr (gY_numbersIn hz83)
          cases hf
          exact gz83
        · replace hf := lc_ite_neg hc5 hf
          cases hf
          exact lc_lo.rf
set_option maxHeartbeats 1000000 in
theorem gY_cellsMade {z : lc_S} {r} {z' : lc_S} (hf : fY_cellsMade z = some (r, z')) : lc_lo z z' := by
  rw [fY_cellsMade] at hf
  cases hf
  exact lc_lo.rf
set_option maxHeartbeats 1000000 in
theorem gY_cellsFreed {z : lc_S} {r} {z' : lc_S} (hf : fY_cellsFreed z = some (r, z')) : lc_lo z z' := by
  rw [fY_cellsFreed] at hf
  cases hf
  exact lc_lo.rf
set_option maxHeartbeats 1000000 in
theorem gM_expressionsBegun {z : lc_S} {r} {z' : lc_S} (hf : fM_expressionsBegun z = some (r, z')) : lc_lo z z' := by
  rw [fM_expressionsBegun] at hf
  cases hf
  exact lc_lo.rf
set_option maxHeartbeats 1000000 in
theorem gA_heap {a1 : Int32} {z : lc_S} {r} {z' : lc_S} (hf : fA_heap a1 z = some (r, z')) : lc_lo z z' := by
  rw [fA_heap] at hf
  by_cases hc1 : a1 = 0
  · replace hf := lc_ite_pos hc1 hf
    obtain ⟨r40, z40, hz40, hf⟩ := lc_bnd_some hf
    have gz40 : lc_lo z z40 := lc_lo.rf.tr (gM_memory hz40)
    obtain ⟨hw2, hf⟩ := lc_chk_some hf
    obtain ⟨r43, z43, hz43, hf⟩ := lc_bnd_some hf
    have gz43 : lc_lo z z43 := gz40.tr (gY_cellsMade hz43)
    obtain ⟨r50, z50, hz50, hf⟩ := lc_bnd_some hf
    have gz50 : lc_lo z z50 := gz43.tr (gM_memory hz50)
    obtain ⟨hw3, hf⟩ := lc_chk_some hf
    obtain ⟨r53, z53, hz53, hf⟩ := lc_bnd_some hf
    have gz53 : lc_lo z z53 := gz50.tr (gY_cellsFreed hz53)
    cases hf
    exact gz53
  · replace hf := lc_ite_neg hc1 hf
    by_cases hc4 : a1 = 1
    · replace hf := lc_ite_pos hc4 hf
      obtain ⟨r62, z62, hz62, hf⟩ := lc_bnd_some hf
      have gz62 : lc_lo z z62 := lc_lo.rf.tr (gM_memory hz62)
      obtain ⟨hw5, hf⟩ := lc_chk_some hf
      obtain ⟨r65, z65, hz65, hf⟩ := lc_bnd_some hf
      have gz65 : lc_lo z z65 := gz62.tr (gY_cellsMade hz65)
      cases hf
      exact gz65
    · replace hf := lc_ite_neg hc4 hf
      by_cases hc6 : a1 = 2
      · replace hf := lc_ite_pos hc6 hf
        obtain ⟨r73, z73, hz73, hf⟩ := lc_bnd_some hf
        have gz73 : lc_lo z z73 := lc_lo.rf.tr (gM_memory hz73)
        obtain ⟨hw7, hf⟩ := lc_chk_some hf
        obtain ⟨r76, z76, hz76, hf⟩ := lc_bnd_some hf
        have gz76 : lc_lo z z76 := gz73.tr (gY_cellsFreed hz76)
        cases hf
        exact gz76
      · replace hf := lc_ite_neg hc6 hf
        by_cases hc8 : a1 = 3
        · replace hf := lc_ite_pos hc8 hf
          obtain ⟨r84, z84, hz84, hf⟩ := lc_bnd_some hf
          have gz84 : lc_lo z z84 := lc_lo.rf.tr (gM_memory hz84)
          obtain ⟨hw9, hf⟩ := lc_chk_some hf
          obtain ⟨r87, z87, hz87, hf⟩ := lc_bnd_some hf
          have gz87 : lc_lo z z87 := gz84.tr (gY_pairsMade hz87)
          cases hf
          exact gz87
        · replace hf := lc_ite_neg hc8 hf
          by_cases hc10 : a1 = 4
          · replace hf := lc_ite_pos hc10 hf
            obtain ⟨r95, z95, hz95, hf⟩ := lc_bnd_some hf
            have gz95 : lc_lo z z95 := lc_lo.rf.tr (gM_expressionsBegun hz95)
            cases hf
            exact gz95
          · replace hf := lc_ite_neg hc10 hf
            cases hf
            exact lc_lo.rf
set_option maxHeartbeats 1000000 in
theorem gA_cell {a1 : Int32} {z : lc_S} {r} {z' : lc_S} (hf : fA_cell a1 z = some (r, z')) : lc_lo z z' := by
  rw [fA_cell] at hf
  obtain ⟨r4, z4, hz4, hf⟩ := lc_bnd_some hf
  have gz4 : lc_lo z z4 := lc_lo.rf.tr (gM_memory hz4)
  obtain ⟨hw1, hf⟩ := lc_chk_some hf
  obtain ⟨r8, z8, hz8, hf⟩ := lc_bnd_some hf
  have gz8 : lc_lo z z8 := gz4.tr (gY_isFree hz8)
  by_cases hc2 : r8 = 0
  · replace hf := lc_ite_pos hc2 hf
    obtain ⟨r26, z26, hz26, hf⟩ := lc_bnd_some hf
    have gz26 : lc_lo z z26 := gz8.tr (gM_memory hz26)
    obtain ⟨hw3, hf⟩ := lc_chk_some hf
    obtain ⟨r30, z30, hz30, hf⟩ := lc_bnd_some hf
    have gz30 : lc_lo z z30 := gz26.tr (gY_numberAt hz30)
    cases hf
    exact gz30
  · replace hf := lc_ite_neg hc2 hf
    cases hf
    exact gz8
set_option maxHeartbeats 1000000 in
theorem gQ_thrown {z : lc_S} {r} {z' : lc_S} (hf : fQ_thrown z = some (r, z')) : lc_hi z z' := by
  rw [fQ_thrown] at hf
  cases hf
  exact lc_hi.rf
set_option maxHeartbeats 1000000 in
theorem gQ_refuse {a1 : Int32} {z : lc_S} {r} {z' : lc_S} (hf : fQ_refuse a1 z = some (r, z')) : lc_hi z z' := by
  rw [fQ_refuse] at hf
  cases hf
  exact (lc_hi.rf.ui (by decide))
set_option maxHeartbeats 1000000 in
theorem gQ_draft_71 {k10 : Int64 → Int32 → Int32 → lc_S → Option ((Int32) × lc_S)} (hk10 : ∀ {v0 : Int64} {v1 : Int32} {v2 : Int32} {z : lc_S} {r} {z' : lc_S}, k10 v0 v1 v2 z = some (r, z') → lc_hi z z') {x1 : Int64} {x3 : Int32} {t0 : Int32} {z : lc_S} {r} {z' : lc_S} (hf : fQ_draft_71 k10 x1 x3 t0 z = some (r, z')) : lc_hi z z' := by
  rw [fQ_draft_71] at hf
  obtain ⟨x73, ex73⟩ : ∃ x, x = x3 + 1 := ⟨_, rfl⟩
  replace hf := lc_let_of ex73 hf
  exact lc_hi.rf.tr (hk10 hf)
set_option maxHeartbeats 1000000 in
theorem gQ_draft_70 {k10 : Int64 → Int32 → Int32 → lc_S → Option ((Int32) × lc_S)} (hk10 : ∀ {v0 : Int64} {v1 : Int32} {v2 : Int32} {z : lc_S} {r} {z' : lc_S}, k10 v0 v1 v2 z = some (r, z') → lc_hi z z') {x1 : Int64} {x3 : Int32} {z : lc_S} {r} {z' : lc_S} (hf : fQ_draft_70 k10 x1 x3 z = some (r, z')) : lc_hi z z' := by
  rw [fQ_draft_70] at hf
  exact lc_hi.rf.tr (gQ_draft_71 (fun h => hk10 h) hf)
set_option maxHeartbeats 1000000 in
theorem gQ_draft_99 {z : lc_S} {r} {z' : lc_S} (hf : fQ_draft_99 z = some (r, z')) : lc_hi z z' := by
  rw [fQ_draft_99] at hf
  cases hf
  exact lc_hi.rf
set_option maxHeartbeats 1000000 in
theorem gQ_draft_104 : ∀ {n : Nat} {x1 : Int64} {x3 : Int32} {x5 : Int32} {z : lc_S} {r} {z' : lc_S}, fQ_draft_104 n x1 x3 x5 z = some (r, z') → lc_hi z z' := by
  intro n
  induction n with
  | zero =>
    intro x1 x3 x5 z r z' hf
    cases (show none = some (r, z') from hf)
  | succ n ih =>
    intro x1 x3 x5 z r z' hf
    rw [fQ_draft_104] at hf
    by_cases hc1 : x3 ≤ x5
    · replace hf := lc_ite_pos hc1 hf
      cases hf
      exact (lc_hi.rf.ui (by decide))
    · replace hf := lc_ite_neg hc1 hf
      obtain ⟨hw2, hf⟩ := lc_chk_some hf
      obtain ⟨x134, ex134⟩ : ∃ x, x = x5 + 1 := ⟨_, rfl⟩
      replace hf := lc_let_of ex134 hf
      exact (lc_hi.rf.ui (by decide)).tr (ih hf)
set_option maxHeartbeats 1000000 in
theorem gQ_draft_79 {x1 : Int64} {x3 : Int32} {x4 : Int32} {z : lc_S} {r} {z' : lc_S} (hf : fQ_draft_79 x1 x3 x4 z = some (r, z')) : lc_hi z z' := by
  rw [fQ_draft_79] at hf
  by_cases hc1 : x3 = 0
  · replace hf := lc_ite_pos hc1 hf
    exact lc_hi.rf.tr (gQ_draft_99 hf)
  · replace hf := lc_ite_neg hc1 hf
    by_cases hc2 : x4 = 0
    · replace hf := lc_ite_pos hc2 hf
      exact lc_hi.rf.tr (gQ_draft_99 hf)
    · replace hf := lc_ite_neg hc2 hf
      by_cases hc3 : ((lcI z 80 1) + x3) ≤ 120
      · replace hf := lc_ite_pos hc3 hf
        exact lc_hi.rf.tr (gQ_draft_104 hf)
      · replace hf := lc_ite_neg hc3 hf
        exact lc_hi.rf.tr (gQ_draft_99 hf)
set_option maxHeartbeats 1000000 in
theorem gQ_draft_10 : ∀ {n : Nat} {x1 : Int64} {x3 : Int32} {x4 : Int32} {z : lc_S} {r} {z' : lc_S}, fQ_draft_10 n x1 x3 x4 z = some (r, z') → lc_hi z z' := by
  intro n
  induction n with
  | zero =>
    intro x1 x3 x4 z r z' hf
    cases (show none = some (r, z') from hf)
  | succ n ih =>
    intro x1 x3 x4 z r z' hf
    rw [fQ_draft_10] at hf
    by_cases hc1 : 8 ≤ x3
    · replace hf := lc_ite_pos hc1 hf
      exact lc_hi.rf.tr (gQ_draft_79 hf)
    · replace hf := lc_ite_neg hc1 hf
      by_cases hc2 : (lg_cmp (((x1.toUInt64 >>> ((8 * x3).toInt64.toUInt64 &&& Int64.toUInt64 63)).toInt64) &&& 255) 0) = 0
      · replace hf := lc_ite_pos hc2 hf
        exact lc_hi.rf.tr (gQ_draft_79 hf)
      · replace hf := lc_ite_neg hc2 hf
        obtain ⟨x41, ex41⟩ : ∃ x, x = ((x1.toUInt64 >>> ((8 * x3).toInt64.toUInt64 &&& Int64.toUInt64 63)).toInt64) &&& 255 := ⟨_, rfl⟩
        replace hf := lc_let_of ex41 hf
        by_cases hc3 : x4 = 0
        · replace hf := lc_ite_pos hc3 hf
          exact lc_hi.rf.tr (gQ_draft_70 (fun h => ih h) hf)
        · replace hf := lc_ite_neg hc3 hf
          by_cases hc4 : (lg_cmp x41 32) < 0
          · replace hf := lc_ite_pos hc4 hf
            exact lc_hi.rf.tr (gQ_draft_70 (fun h => ih h) hf)
          · replace hf := lc_ite_neg hc4 hf
            by_cases hc5 : 0 < (lg_cmp x41 126)
            · replace hf := lc_ite_pos hc5 hf
              exact lc_hi.rf.tr (gQ_draft_70 (fun h => ih h) hf)
            · replace hf := lc_ite_neg hc5 hf
              exact lc_hi.rf.tr (gQ_draft_71 (fun h => ih h) hf)
set_option maxHeartbeats 1000000 in
theorem gQ_draft {a1 : Int64} {z : lc_S} {r} {z' : lc_S} (hf : fQ_draft a1 z = some (r, z')) : lc_hi z z' := by
  rw [fQ_draft] at hf
  exact (lc_hi.rf.ui (by decide)).tr (gQ_draft_10 hf)
set_option maxHeartbeats 1000000 in
theorem gQ_peek_38 {z : lc_S} {r} {z' : lc_S} (hf : fQ_peek_38 z = some (r, z')) : lc_hi z z' := by
  rw [fQ_peek_38] at hf
  by_cases hc1 : (lcI z 80 1) ≤ (lcI z 80 13)
  · replace hf := lc_ite_pos hc1 hf
    cases hf
    exact lc_hi.rf
  · replace hf := lc_ite_neg hc1 hf
    obtain ⟨hw2, hf⟩ := lc_chk_some hf
    cases hf
    exact lc_hi.rf
set_option maxHeartbeats 1000000 in
theorem gQ_peek_0 : ∀ {n : Nat} {z : lc_S} {r} {z' : lc_S}, fQ_peek_0 n z = some (r, z') → lc_hi z z' := by
  intro n
  induction n with
  | zero =>
    intro z r z' hf
    cases (show none = some (r, z') from hf)
  | succ n ih =>
    intro z r z' hf
    rw [fQ_peek_0] at hf
    by_cases hc1 : (lcI z 80 1) ≤ (lcI z 80 13)
    · replace hf := lc_ite_pos hc1 hf
      exact lc_hi.rf.tr (gQ_peek_38 hf)
    · replace hf := lc_ite_neg hc1 hf
      obtain ⟨hw2, hf⟩ := lc_chk_some hf
      by_cases hc3 : (lcI z 81 (lcI z 80 13).toNatClampNeg) = 32
      · replace hf := lc_ite_pos hc3 hf
        exact (lc_hi.rf.ui (by decide)).tr (ih hf)
      · replace hf := lc_ite_neg hc3 hf
        exact lc_hi.rf.tr (gQ_peek_38 hf)
set_option maxHeartbeats 1000000 in
theorem gQ_peek {z : lc_S} {r} {z' : lc_S} (hf : fQ_peek z = some (r, z')) : lc_hi z z' := by
  rw [fQ_peek] at hf
  exact lc_hi.rf.tr (gQ_peek_0 hf)
set_option maxHeartbeats 1000000 in
theorem gQ_next {z : lc_S} {r} {z' : lc_S} (hf : fQ_next z = some (r, z')) : lc_hi z z' := by
  rw [fQ_next] at hf
  obtain ⟨r1, z1, hz1, hf⟩ := lc_bnd_some hf
  have gz1 : lc_hi z z1 := lc_hi.rf.tr (gQ_peek hz1)
  cases hf
  exact (gz1.ui (by decide))
set_option maxHeartbeats 1000000 in
theorem gQ_expect_21 {t1 : Int32} {z : lc_S} {r} {z' : lc_S} (hf : fQ_expect_21 t1 z = some (r, z')) : lc_hi z z' := by
  rw [fQ_expect_21] at hf
  obtain ⟨hw1, hf⟩ := lc_chk_some hf
  cases hf
  exact (lc_hi.rf.ui (by decide))
set_option maxHeartbeats 1000000 in
theorem gQ_expect_16 {z : lc_S} {r} {z' : lc_S} (hf : fQ_expect_16 z = some (r, z')) : lc_hi z z' := by
  rw [fQ_expect_16] at hf
  exact lc_hi.rf.tr (gQ_expect_21 hf)
set_option maxHeartbeats 1000000 in
theorem gQ_expect {a1 : Int32} {z : lc_S} {r} {z' : lc_S} (hf : fQ_expect a1 z = some (r, z')) : lc_hi z z' := by
  rw [fQ_expect] at hf
  by_cases hc1 : (lcI z 80 14) = 0
  · replace hf := lc_ite_pos hc1 hf
    obtain ⟨r9, z9, hz9, hf⟩ := lc_bnd_some hf
    have gz9 : lc_hi z z9 := lc_hi.rf.tr (gQ_next hz9)
    by_cases hc2 : r9 = a1
    · replace hf := lc_ite_pos hc2 hf
      exact gz9.tr (gQ_expect_21 hf)
    · replace hf := lc_ite_neg hc2 hf
      exact gz9.tr (gQ_expect_16 hf)
  · replace hf := lc_ite_neg hc1 hf
    exact lc_hi.rf.tr (gQ_expect_16 hf)
set_option maxHeartbeats 1000000 in
theorem gQ_isLetter_16 {z : lc_S} {r} {z' : lc_S} (hf : fQ_isLetter_16 z = some (r, z')) : lc_hi z z' := by
  rw [fQ_isLetter_16] at hf
  cases hf
  exact lc_hi.rf
