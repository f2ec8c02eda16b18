/-! steps by kinds: leaves, first parts -/
def lc_goA (y : lc_S) (t i d o s : Nat) : Option (Unit × lc_S) := if lcI y (o + 2) i = 35 then lc_bnd (fV_of 1 (lcI y (o + 6) i) y) fM_end else if lcI y (o + 2) i = 118 then lc_bnd (fM_valueOfVariable (nI i) (nI d) y) fM_end else
  if s = 0 then fM_begin (lcI y (o + 3) i) (nI d) y else if s = 1 then (if lc_one (lcI y (o + 2) i) then fM_finish (lcI y (o + 2) i) (lcL y 34 t) (lcL y 19 4) y else fM_goOn (nI i) (nI d) y) else fM_finish (lcI y (o + 2) i) (lcL y 34 t) (lcL y 19 4) y
def lc_goQ (z : lc_S) (t q base s : Nat) : Option (Unit × lc_S) := if lcI z 82 q = 48 then lc_bnd (fQ_plain ((lcI z 83 q).toInt64) z) fQ_answer else if lcI z 82 q = 120 then lc_bnd (fQ_lookUp (lcI z 107 t) (lcI z 87 q) (lcI z 88 q) z) fQ_answer else
  if s = 0 then fQ_enter (nI base) (lcI z 84 q) (lcI z 107 t) (lcI z 108 t) z else if lcI z 82 q = 63 ∨ lcI z 82 q = 58 ∨ lcI z 82 q = 47 then fQ_goOn (nI t) (nI q) (lcI z 82 q) (nI s) z else
  lc_bnd (fQ_partsOf (lcI z 82 q) z) (fun r z' => if r = 2 then (if s = 1 then fQ_enter (lcI z' 106 t) (lcI z' 85 q) (lcI z' 107 t) (lcI z' 108 t) (lcUL z' 110 t (lcL z' 80 47)) else fQ_step_225 (nI t) (nI q) (lcI z 82 q) (nI s) z') else fQ_step_225 (nI t) (nI q) (lcI z 82 q) (nI s) z')
theorem lc_tkB {y : lc_S} {t i d s o : Nat} (hs : s ≤ 2) (ht : lcI y 19 11 = nI (t + 1)) (ht' : t < 408) (h31 : lcI y 31 t = nI i) (h32 : lcI y 32 t = nI d) (h33 : lcI y 33 t = nI s) (hr : lcR y 29 d = some o) (ho : lc_sh o = (0, 1, 0)) (hi : i < 120) (hd : d ≤ 24) : fM_takeStep y = lc_goA (lcUI y 33 t (nI (s + 1))) t i d o s := by
  have ho' := lc_o ho
  have e2 : lcI (lcUI y 33 t (nI (s + 1))) (o + 2) i = lcI y (o + 2) i := by rw [lcI_UI, if_neg (by omega)]
  have e3 : lcI (lcUI y 33 t (nI (s + 1))) (o + 3) i = lcI y (o + 3) i := by rw [lcI_UI, if_neg (by omega)]
  have e6 : lcI (lcUI y 33 t (nI (s + 1))) (o + 6) i = lcI y (o + 6) i := by rw [lcI_UI, if_neg (by omega)]
  rw [lc_tkA ht ht' h31 h32 h33 hr ho hi hd, lc_goA, e2, e3, e6]
  have s0 : (nI s = 0) = (s = 0) := propext (nI_eq (b := 0) (by omega) (by decide))
  have s1 : (nI s = 1) = (s = 1) := propext (nI_eq (b := 1) (by omega) (by decide))
  simp only [s0, s1, lcL_UI]
  congr 1
  congr 1
  congr 1
  congr 1
  by_cases k1 : lcI y (o + 2) i = 110
  · rw [if_pos k1, if_pos (Or.inl k1)]
  · rw [if_neg k1]
    by_cases k2 : lcI y (o + 2) i = 103
    · rw [if_pos k2, if_pos (Or.inr (Or.inl k2))]
    · rw [if_neg k2]
      by_cases k3 : lcI y (o + 2) i = 100
      · rw [if_pos k3, if_pos (Or.inr (Or.inr k3))]
      · rw [if_neg k3, if_neg (by rintro (h | h | h) <;> contradiction)]
theorem lc_stR {z : lc_S} {t p base s : Nat} (hs : s ≤ 2) (ht : lcI z 80 33 = nI (t + 1)) (ht' : t < 408) (h105 : lcI z 105 t = nI p) (h106 : lcI z 106 t = nI base) (h109 : lcI z 109 t = nI s) (hq : base + p < 600) : fQ_step z = lc_goQ (lcUI z 109 t (nI (s + 1))) t (base + p) base s := by
  have e : ∀ c k, c ≠ 109 → lcI (lcUI z 109 t (nI (s + 1))) c k = lcI z c k := fun c k h => by rw [lcI_UI, if_neg (by omega)]
  rw [lc_stQ ht ht' h105 h106 h109 hq, lc_goQ, e 82 _ (by decide), e 83 _ (by decide), e 84 _ (by decide), e 87 _ (by decide), e 88 _ (by decide), e 107 _ (by decide), e 108 _ (by decide)]
  have s0 : (nI s = 0) = (s = 0) := propext (nI_eq (b := 0) (by omega) (by decide))
  have s1 : (nI s = 1) = (s = 1) := propext (nI_eq (b := 1) (by omega) (by decide))
  simp only [s0, s1]
  congr 1
  congr 1
  congr 1
  by_cases k1 : lcI z 82 (base + p) = 63
  · rw [if_pos k1, if_pos (Or.inl k1)]
  · rw [if_neg k1]
    by_cases k2 : lcI z 82 (base + p) = 58
    · rw [if_pos k2, if_pos (Or.inr (Or.inl k2))]
    · rw [if_neg k2]
      by_cases k3 : lcI z 82 (base + p) = 47
      · rw [if_pos k3, if_pos (Or.inr (Or.inr k3))]
      · rw [if_neg k3, if_neg (by rintro (h | h | h) <;> contradiction)]
theorem lc_of1 (x : Int32) (z : lc_S) : fV_of 1 x z = some (lc_cv 1 (lc_w x), z) := lc_of (k := 1) (by decide) x z
theorem lc_of2 (x : Int32) (z : lc_S) : fV_of 2 x z = some (lc_cv 2 (lc_w x), z) := lc_of (k := 2) (by decide) x z
theorem lc_of3 (x : Int32) (z : lc_S) : fV_of 3 x z = some (lc_cv 3 (lc_w x), z) := lc_of (k := 3) (by decide) x z
/-- what a step of a kind has to give -/
def lc_GO (y z : lc_S) (t i d o q base s st : Nat) : Prop := ∃ y' z', lc_goA y t i d o s = some ((), y') ∧ lc_goQ z t q base s = some ((), z') ∧ lc_O y' z' st
theorem lc_sNum {y z : lc_S} {t b N P st o k D i p s v : Nat} {dd : Nat → Nat} {ee : Nat → List lc_en} (h : lc_TP y z t b N P st dd ee o k D i p s) (hK : lcI y (o + 2) i = 35) (hS : lcI z 82 (120 * (k + 1) + p) = 48) (h6 : lcI y (o + 6) i = nI v) (h83 : lcI z 83 (120 * (k + 1) + p) = nI v) : lc_GO y z t i (dd t) o (120 * (k + 1) + p) (120 * (k + 1)) s st := by
  obtain ⟨y', z', e1, e2, e3⟩ := lc_T_end (k' := 1) (w := lc_w (nI v)) h ⟨⟨by decide, by decide, lc_w_lt _, fun h => absurd h (by decide)⟩, fun h => absurd h (by decide)⟩
  refine ⟨y', z', ?_, ?_, e3⟩
  · rw [lc_goA, if_pos hK, h6, lc_bnd_eq (lc_of1 (nI v) y)]; exact e1
  · rw [lc_goQ, if_pos hS, h83, lc_bnd_eq (lc_plain (nI v) z)]; exact e2
theorem lc_partA {y : lc_S} {P d b pt k w : Nat} (hP : lcI y 20 10 = nI P) (hP1 : P ≤ 120) (h : lc_cb y P d b pt k w) : fY_partOf (lcL y 30 (24 * d + b)) (nI pt) y = some (lc_cv k w, y) := by
  rcases h with ⟨rfl, h⟩ | ⟨rfl, q, h1, h2, h3⟩ | ⟨rfl, q, h1, h2, h3⟩
  · rw [h, fY_partOf, lc_bnd_eq (lc_wo k w y), if_pos (by decide)]; rfl
  · have c1 : lc_in (nI q) 120 := nI_in (by omega) (by decide)
    have c2 : (nI q).toNatClampNeg = q := nI_clamp (by omega)
    rw [h2, fY_partOf, lc_bnd_eq (lc_wo 3 q y), if_neg (by decide), lc_bnd_eq (lc_isP (k := 3) (by decide) (by omega) y), if_pos rfl, if_neg (by decide), lc_bnd_eq (lc_made y hP hP1 h1), if_neg (by decide), if_pos (by decide), lc_chk_pos c1, c2, h3]
  · have c1 : lc_in (nI q) 120 := nI_in (by omega) (by decide)
    have c2 : (nI q).toNatClampNeg = q := nI_clamp (by omega)
    rw [h2, fY_partOf, lc_bnd_eq (lc_wo 3 q y), if_neg (by decide), lc_bnd_eq (lc_isP (k := 3) (by decide) (by omega) y), if_pos rfl, if_neg (by decide), lc_bnd_eq (lc_made y hP hP1 h1), if_neg (by decide), if_neg (by decide), lc_chk_pos c1, c2, h3]
theorem lc_sVar {y z : lc_S} {t b N P st o k D i p s bb pt : Nat} {dd : Nat → Nat} {ee : Nat → List lc_en} (h : lc_TP y z t b N P st dd ee o k D i p s) (hi : i < 120) (hN : N ≤ 2000) (hK : lcI y (o + 2) i = 118) (hS : lcI z 82 (120 * (k + 1) + p) = 120) (hl : lc_lk (lcI z 87 (120 * (k + 1) + p)) (lcI z 88 (120 * (k + 1) + p)) (ee t) = some (bb, pt)) (h7 : lcI y (o + 7) i = nI bb) (h6 : lcI y (o + 6) i = nI pt) : lc_GO y z t i (dd t) o (120 * (k + 1) + p) (120 * (k + 1)) s st := by
  have h0 := h
  obtain ⟨⟨b1, b2, b3, b4, b5, b6, b7, b8, b9, b10, b11⟩, a2, a3, a4, a5, a6, a7, a8, a9, a10, a11, a12, a13, a14, a15, a16, a17, a18, a19⟩ := h
  obtain ⟨k', w, g1, g2, g3, g4⟩ := lc_look (ee t) N _ (by omega) a19 hl
  obtain ⟨y', z', e1, e2, e3⟩ := lc_T_end (k' := k') (w := w) h0 g1
  refine ⟨y', z', ?_, ?_, e3⟩
  · have c1 : lc_in (nI (dd t)) 25 := nI_in (by omega) (by decide)
    have c2 : (nI (dd t)).toNatClampNeg = dd t := nI_clamp (by omega)
    have c3 : lc_in (nI i) 120 := nI_in hi (by decide)
    have c4 : (nI i).toNatClampNeg = i := nI_clamp (by omega)
    have c5 : lc_in (nI (24 * dd t + bb)) 600 := nI_in (by omega) (by decide)
    have c6 : (nI (24 * dd t + bb)).toNatClampNeg = 24 * dd t + bb := nI_clamp (by omega)
    have hv : fM_valueOfVariable (nI i) (nI (dd t)) y = some (lc_cv k' w, y) := by
      rw [fM_valueOfVariable, lc_chk_pos c1, lc_bnr_eq (by rw [c2]; exact a10), lc_chk_pos a9, lc_chk_pos c3]
      simp only [c4, h7, h6, lc_24, lc_chk_pos c5, lc_chk_pos c3, c6, lc_let_eq]
      rw [lc_bnd_eq (lc_partA b10.2.2.2.1 b10.2.2.2.2.2.1 g3)]
    rw [lc_goA, if_neg (by rw [hK]; decide), if_pos hK, lc_bnd_eq hv]; exact e1
  · rw [lc_goQ, if_neg (by rw [hS]; decide), if_pos hS, fQ_lookUp, lc_bnd_eq (g4 lc_FU (by unfold lc_FU; omega))]; exact e2
/-- the first part is begun -/
theorem lc_sFirst {y z : lc_S} {t b N P st o k D i p lo hi a h1 : Nat} {dd : Nat → Nat} {ee : Nat → List lc_en} (h : lc_TP y z t b N P st dd ee o k (D + 1) i p 0) (hR : lc_R y z o (120 * (k + 1)) (D + 1) lo i p hi (ee t)) (k1 : lcI y (o + 2) i ≠ 35) (k2 : lcI y (o + 2) i ≠ 118) (s1 : lcI z 82 (120 * (k + 1) + p) ≠ 48) (s2 : lcI z 82 (120 * (k + 1) + p) ≠ 120) (h3 : lcI y (o + 3) i = nI a) (h84 : lcI z 84 (120 * (k + 1) + p) = nI (p + 1)) (hR' : lc_R y z o (120 * (k + 1)) D lo a (p + 1) h1 (ee t)) : lc_GO y z t i (dd t) o (120 * (k + 1) + p) (120 * (k + 1)) 0 st := by
  obtain ⟨y', z', e1, e2, e3⟩ := lc_T_begin h (by decide) hR (fun h => absurd h (by decide)) hR'
  obtain ⟨a1, a2, a3, a4, a5, a6, a7, a8, a9, a10, a11, a12, a13, a14, a15, a16, a17, a18, a19⟩ := h
  refine ⟨y', z', ?_, ?_, e3⟩
  · rw [lc_goA, if_neg k1, if_neg k2, if_pos rfl, h3]; exact e1
  · rw [lc_goQ, if_neg s1, if_neg s2, if_pos rfl, h84, a17]; exact e2
