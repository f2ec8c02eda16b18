/-! reading: the steps of the class -/
theorem lc_aF {y : lc_S} {o i : Nat} (K e f g : Int32) (ho : lc_sh o = (0, 1, 0)) (h11 : lcI y o 11 = nI i) (hi : i < 120) : ∃ y', fP_addForm o K e f g y = some (nI i, y') ∧ lcI y' o 11 = nI (i + 1) ∧ lcI y' (o + 2) i = K ∧ lcI y' (o + 3) i = e ∧ lcI y' (o + 4) i = f ∧ lcI y' (o + 5) i = g ∧ lcI y' (o + 6) i = 0 ∧ lcI y' (o + 7) i = -1 ∧ (∀ c k, ¬ (c = o ∧ k = 11) → ¬ (o + 2 ≤ c ∧ c ≤ o + 7 ∧ k = i) → lcI y' c k = lcI y c k) ∧ (∀ c k, lcL y' c k = lcL y c k) ∧ ∀ c k, lcR y' c k = lcR y c k := by
  have c1 : lc_in (nI i) 120 := nI_in hi (by decide)
  have d1 : (nI i).toNatClampNeg = i := nI_clamp (by omega)
  have n1 : nI i < 120 := nI_lt (b := 120) hi (by decide)
  have e2 : ¬ o = o + 2 := by omega
  have e3 : ¬ o = o + 3 := by omega
  have e4 : ¬ o = o + 4 := by omega
  have e5 : ¬ o = o + 5 := by omega
  have e6 : ¬ o = o + 6 := by omega
  have e7 : ¬ o = o + 7 := by omega
  refine ⟨lcUI (lcUI (lcUI (lcUI (lcUI (lcUI (lcUI y (o + 2) i K) (o + 3) i e) (o + 4) i f) (o + 5) i g) (o + 6) i 0) (o + 7) i (-1)) o 11 (nI (i + 1)), ?_, ?_, ?_, ?_, ?_, ?_, ?_, ?_, fun c k u v => ?_, fun _ _ => rfl, fun _ _ => rfl⟩
  · rw [fP_addForm, lc_chk_pos ho]
    simp only [h11, n1, d1, e2, e3, e4, e5, e6, e7, lc_chk_pos c1, nI_1, nI_pred, lcI_UI, lcI_UL, lcI_UR, lcL_UI, lcL_UL, lcL_UR, lcR_UI, lcR_UL, lcR_UR, false_and, and_false, true_and, and_true, and_self, ↓reduceIte, Nat.reduceEqDiff, lc_let_eq]
  · rw [lcI_UI, if_pos ⟨rfl, rfl⟩]
  · iterate 6 rw [lcI_UI, if_neg (by omega)]
    rw [lcI_UI, if_pos ⟨rfl, rfl⟩]
  · iterate 5 rw [lcI_UI, if_neg (by omega)]
    rw [lcI_UI, if_pos ⟨rfl, rfl⟩]
  · iterate 4 rw [lcI_UI, if_neg (by omega)]
    rw [lcI_UI, if_pos ⟨rfl, rfl⟩]
  · iterate 3 rw [lcI_UI, if_neg (by omega)]
    rw [lcI_UI, if_pos ⟨rfl, rfl⟩]
  · iterate 2 rw [lcI_UI, if_neg (by omega)]
    rw [lcI_UI, if_pos ⟨rfl, rfl⟩]
  · rw [lcI_UI, if_neg (by omega), lcI_UI, if_pos ⟨rfl, rfl⟩]
  · iterate 7 rw [lcI_UI, if_neg (by omega)]
theorem lc_aN {y : lc_S} {o i : Nat} (v b : Int32) (ho : lc_sh o = (0, 1, 0)) (hi : i < 120) : fP_annotate o (nI i) v b y = some (nI i, lcUI (lcUI y (o + 6) i v) (o + 7) i b) := by
  have c1 : lc_in (nI i) 120 := nI_in hi (by decide)
  have d1 : (nI i).toNatClampNeg = i := nI_clamp (by omega)
  rw [fP_annotate, if_neg (lc_nIm (by omega)), lc_chk_pos ho, lc_chk_pos c1, lc_chk_pos c1, d1]
  rfl
/-- a form with its number and binder -/
theorem lc_aFN {y : lc_S} {o i : Nat} (K e f g v b : Int32) (ho : lc_sh o = (0, 1, 0)) (h11 : lcI y o 11 = nI i) (hi : i < 120) : ∃ y1 y', fP_addForm o K e f g y = some (nI i, y1) ∧ lcR y1 4 3 = lcR y 4 3 ∧ fP_annotate o (nI i) v b y1 = some (nI i, y') ∧ lcI y' o 11 = nI (i + 1) ∧ lcI y' (o + 2) i = K ∧ lcI y' (o + 3) i = e ∧ lcI y' (o + 4) i = f ∧ lcI y' (o + 5) i = g ∧ lcI y' (o + 6) i = v ∧ lcI y' (o + 7) i = b ∧ (∀ c k, ¬ (c = o ∧ k = 11) → ¬ (o + 2 ≤ c ∧ c ≤ o + 7 ∧ k = i) → lcI y' c k = lcI y c k) ∧ (∀ c k, lcL y' c k = lcL y c k) ∧ ∀ c k, lcR y' c k = lcR y c k := by
  obtain ⟨y1, a1, a2, a3, a4, a5, a6, a7, a8, a9, a10, a11⟩ := lc_aF K e f g ho h11 hi
  refine ⟨y1, lcUI (lcUI y1 (o + 6) i v) (o + 7) i b, a1, a11 4 3, lc_aN v b ho hi, ?_, ?_, ?_, ?_, ?_, ?_, ?_, fun c k u w => ?_, fun c k => (a10 c k), fun c k => (a11 c k)⟩
  · rw [lcI_UI, if_neg (by omega), lcI_UI, if_neg (by omega)]; exact a2
  · rw [lcI_UI, if_neg (by omega), lcI_UI, if_neg (by omega)]; exact a3
  · rw [lcI_UI, if_neg (by omega), lcI_UI, if_neg (by omega)]; exact a4
  · rw [lcI_UI, if_neg (by omega), lcI_UI, if_neg (by omega)]; exact a5
  · rw [lcI_UI, if_neg (by omega), lcI_UI, if_neg (by omega)]; exact a6
  · rw [lcI_UI, if_neg (by omega), lcI_UI, if_pos ⟨rfl, rfl⟩]
  · rw [lcI_UI, if_pos ⟨rfl, rfl⟩]
  · rw [lcI_UI, if_neg (by omega), lcI_UI, if_neg (by omega)]; exact a9 c k u w
theorem lc_aL {y : lc_S} {o i : Nat} (K v b : Int32) (ho : lc_sh o = (0, 1, 0)) (h11 : lcI y o 11 = nI i) (hi : i < 120) : ∃ y', fP_addLeaf o K v b y = some (nI i, y') ∧ lcI y' o 11 = nI (i + 1) ∧ lcI y' (o + 2) i = K ∧ lcI y' (o + 3) i = -1 ∧ lcI y' (o + 4) i = -1 ∧ lcI y' (o + 6) i = v ∧ lcI y' (o + 7) i = b ∧ (∀ c k, ¬ (c = o ∧ k = 11) → ¬ (o + 2 ≤ c ∧ c ≤ o + 7 ∧ k = i) → lcI y' c k = lcI y c k) ∧ (∀ c k, lcL y' c k = lcL y c k) ∧ ∀ c k, lcR y' c k = lcR y c k := by
  obtain ⟨y1, y', a1, a2, a3, a4, a5, a6, a7, a8, a9, a10, a11, a12, a13⟩ := lc_aFN K (-1) (-1) (-1) v b ho h11 hi
  exact ⟨y', by rw [fP_addLeaf, lc_chk_pos ho, lc_bnd_eq a1, lc_bnd_eq a3], a4, a5, a6, a7, a9, a10, a11, a12, a13⟩
theorem lc_aB {y : lc_S} {o nb : Nat} (x : Int32) (ho : lc_sh o = (0, 1, 0)) (h13 : lcI y o 13 = nI nb) (hn : nb < 24) : fP_addBinder o x y = some (nI nb, lcUI (lcUI y (o + 8) nb x) o 13 (nI (nb + 1))) := by
  have c1 : lc_in (nI nb) 24 := nI_in hn (by decide)
  have d1 : (nI nb).toNatClampNeg = nb := nI_clamp (by omega)
  have n1 : nI nb < 24 := nI_lt (b := 24) hn (by decide)
  have e8 : ¬ o = o + 8 := by omega
  rw [fP_addBinder, lc_chk_pos ho]
  simp only [h13, n1, d1, e8, lc_chk_pos c1, nI_1, nI_pred, lcI_UI, lcI_UL, lcI_UR, lcL_UI, lcL_UL, lcL_UR, lcR_UI, lcR_UL, lcR_UR, false_and, and_false, true_and, and_true, and_self, ↓reduceIte, Nat.reduceEqDiff, lc_let_eq]
theorem lc_aBx {y : lc_S} {o : Nat} (x : Int32) (ho : lc_sh o = (0, 1, 0)) (h13 : lcI y o 13 = nI 24) : fP_addBinder o x y = some (-1, y) := by
  rw [fP_addBinder, lc_chk_pos ho, h13, if_neg (by decide)]
theorem lc_aM {y : lc_S} {m : Nat} (s b pt : Int32) (h8 : lcI y 4 8 = nI m) (hm : m < 33) : fR_addName s b pt y = some ((), lcUI (lcUI (lcUI (lcUI y 5 m s) 6 m b) 7 m pt) 4 8 (nI (m + 1))) := by
  have c1 : lc_in (nI m) 33 := nI_in hm (by decide)
  have d1 : (nI m).toNatClampNeg = m := nI_clamp (by omega)
  have n1 : ¬ (33 : Int32) ≤ nI m := nI_ge (b := 33) hm (by decide)
  have q1 : ¬ (4 : Nat) = 5 := by omega
  have q2 : ¬ (4 : Nat) = 6 := by omega
  have q3 : ¬ (4 : Nat) = 7 := by omega
  rw [fR_addName]
  simp only [h8, n1, d1, q1, q2, q3, lc_chk_pos c1, nI_1, lcI_UI, lcI_UL, lcI_UR, lcL_UI, lcL_UL, lcL_UR, lcR_UI, lcR_UL, lcR_UR, false_and, and_false, true_and, and_true, and_self, ↓reduceIte, Nat.reduceEqDiff, lc_let_eq]
theorem lc_fN1 {y : lc_S} {m f : Nat} {b : Int32} (h8 : lcI y 4 8 = nI (m + 1)) (hm : m < 33) (h6 : lcI y 6 m = b) : fR_forgetNames_0 (f + 1) b y = fR_forgetNames_0 f b (lcUI y 4 8 (nI m)) := by
  have c1 : lc_in (nI m) 33 := nI_in hm (by decide)
  have d1 : (nI m).toNatClampNeg = m := nI_clamp (by omega)
  rw [fR_forgetNames_0, h8, if_neg (nI_nle (by omega) (by omega)), nI_pred, lc_chk_pos c1, d1, if_pos h6]
theorem lc_fN0 {y : lc_S} {f nb : Nat} {L : List lc_nm} (h8 : lcI y 4 8 = nI L.length) (hm : L.length ≤ 33) (hL : lc_nA y L) (hb : ∀ x ∈ L, x.2.1 < nb) (hn : nb < 1000) : fR_forgetNames_0 (f + 1) (nI nb) y = some ((), y) := by
  rw [fR_forgetNames_0, h8]
  cases L with
  | nil => rw [if_pos (show nI ([] : List lc_nm).length ≤ 0 by decide)]
  | cons x xs =>
    have hl : xs.length < 33 := by have : (x :: xs).length = xs.length + 1 := rfl; omega
    have c1 : lc_in (nI xs.length) 33 := nI_in hl (by decide)
    have d1 : (nI xs.length).toNatClampNeg = xs.length := nI_clamp (by omega)
    have hx := hb x List.mem_cons_self
    rw [show (x :: xs).length = xs.length + 1 from rfl, if_neg (nI_nle (by omega) (by omega)), nI_pred, lc_chk_pos c1, d1, hL.2.1, if_neg (fun e => ?_)]
    have := (nI_eq (by omega) (by omega)).mp e
    omega
theorem lc_vA {y : lc_S} {o : Nat} {s : Int32} (hr : lcR y 4 3 = some o) (ho : lc_sh o = (0, 1, 0)) : ∀ (L : List lc_nm) (f : Nat), L.length < f → L.length ≤ 33 → lc_nA y L → fR_addVariable_7 f s (nI L.length - 1) y = match lc_fd s L with
    | some e => lc_bnd (fP_addLeaf o 118 (nI e.2.1) (nI e.1) y) (fun r62 z62 => some (r62, z62))
    | none => lc_bnd (fP_addLeaf o 118 0 0 (lcUI y 4 4 1)) (fun r62 z62 => some (r62, z62))
  | _, 0, h, _, _ => absurd h (by omega)
  | [], f + 1, _, _, _ => by
    rw [fR_addVariable_7, if_pos (show nI ([] : List lc_nm).length - 1 < 0 by decide), lc_bnr_eq (show lcR (lcUI y 4 4 1) 4 3 = some o from hr), lc_chk_pos ho]
    rfl
  | x :: xs, f + 1, h, hm, hL => by
    have hl : xs.length < 33 := by have : (x :: xs).length = xs.length + 1 := rfl; omega
    have hf : xs.length < f := by have : (x :: xs).length = xs.length + 1 := rfl; omega
    have c1 : lc_in (nI xs.length) 33 := nI_in hl (by decide)
    have d1 : (nI xs.length).toNatClampNeg = xs.length := nI_clamp (by omega)
    rw [show (x :: xs).length = xs.length + 1 from rfl, nI_pred, fR_addVariable_7, if_neg (nI_pos (by omega)), lc_fd]
    simp only [lc_chk_pos c1, d1, hL.1, hL.2.1, hL.2.2.1, lc_bnr_eq hr, lc_chk_pos ho]
    by_cases hx : x.1 = s
    · rw [if_pos hx, if_pos hx]
    · rw [if_neg hx, if_neg hx, lc_let_eq, show nI xs.length + -1 = nI xs.length - 1 from (Int32.sub_eq_add_neg (a := nI xs.length) (b := 1)).symm]
      exact lc_vA hr ho xs f hf (by omega) hL.2.2.2
