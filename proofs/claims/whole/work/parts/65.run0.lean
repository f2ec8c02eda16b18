/-! a run, step by step: the smallest steps of class and reference -/
theorem lc_bnd_id {x : Option (Unit × lc_S)} : lc_bnd x (fun _ z => some ((), z)) = x := by
  cases x with
  | none => rfl
  | some q => rfl
theorem lc_bnd_ids {r : Unit} {z : lc_S} {x : Option (Unit × lc_S)} (h : x = some (r, z)) : lc_bnd x (fun _ z => some ((), z)) = some ((), z) := by rw [h]; rfl
theorem lc_beginA {y : lc_S} {b t : Nat} (e d : Int32) (hb : lcI y 19 2 = nI b) (ht : lcI y 19 11 = nI t) (hb' : b < 2000) (ht' : t < 408) :
    fM_begin e d y = some ((), lcUI (lcUI (lcUI (lcUI (lcUI y 19 2 (nI (b + 1))) 31 t e) 32 t d) 33 t 0) 19 11 (nI (t + 1))) := by
  have h1 : ¬ (2000 : Int32) ≤ nI b := nI_ge hb' (by decide)
  have h2 : nI t < 408 := nI_lt ht' (by decide)
  have h3 : (nI t).toNatClampNeg = t := nI_clamp (by omega)
  have h4 : lc_in (nI t) 408 := nI_in ht' (by decide)
  simp only [fM_begin, hb, ht, h1, h2, h3, nI_1, lc_chk_pos h4, lcI_UI, lcI_UL, lcI_UR, lcL_UI, lcL_UL, lcL_UR, lcR_UI, lcR_UL, lcR_UR, false_and, and_false, true_and, and_true, and_self, ↓reduceIte, Nat.reduceEqDiff, lc_let_eq]
theorem lc_beginA3 {y : lc_S} (e d : Int32) (hb : lcI y 19 2 = nI 2000) : fM_begin e d y = some ((), lcUI y 19 3 3) := by
  rw [fM_begin, hb, if_pos (by decide)]; rfl
theorem lc_endA {y : lc_S} {t : Nat} (v : Int64) (ht : lcI y 19 11 = nI (t + 1)) : fM_end v y = some ((), lcUI (lcUL y 19 4 v) 19 11 (nI t)) := by
  rw [fM_end, lcI_UL, ht, nI_pred]
theorem lc_24 (d b : Nat) : nI d * 24 + nI b = nI (24 * d + b) := by
  rw [show (24 : Int32) = nI 24 from rfl, pk_mul, nI_add, Nat.mul_comm]
theorem lc_bindA (y : lc_S) {d b : Nat} (hd : d ≤ 24) (hb : b < 24) : fM_bind (nI d) (nI b) y = some ((), lcUL y 30 (24 * d + b) (lcL y 19 4)) := by
  have h1 : lc_in (nI (24 * d + b)) 600 := nI_in (by omega) (by decide)
  have h2 : (nI (24 * d + b)).toNatClampNeg = 24 * d + b := nI_clamp (by omega)
  simp only [fM_bind, lc_24, lc_chk_pos h1, h2]
theorem lc_stopQ {z : lc_S} (k : Int32) (h : lcI z 80 45 = 0) : fQ_stop k z = some ((), lcUI z 80 45 k) := by
  rw [fQ_stop, if_pos h]; rfl
theorem lc_enterQ {z : lc_S} {b t : Nat} (base p nm d : Int32) (hb : lcI z 80 48 = nI b) (ht : lcI z 80 33 = nI t) (hb' : b < 2000) (ht' : t < 430) :
    fQ_enter base p nm d z = some ((), lcUI (lcUI (lcUI (lcUI (lcUI (lcUI (lcUI z 80 48 (nI (b + 1))) 105 t p) 106 t base) 107 t nm) 108 t d) 109 t 0) 80 33 (nI (t + 1))) := by
  have h1 : ¬ nI b = 2000 := fun h => by
    have := (nI_eq (show b < 2 ^ 31 by omega) (show 2000 < 2 ^ 31 by decide)).mp h
    omega
  have h3 : (nI t).toNatClampNeg = t := nI_clamp (by omega)
  have h4 : lc_in (nI t) 430 := nI_in ht' (by decide)
  simp only [fQ_enter, hb, ht, h1, h3, nI_1, lc_chk_pos h4, lcI_UI, lcI_UL, lcI_UR, lcL_UI, lcL_UL, lcL_UR, lcR_UI, lcR_UL, lcR_UR, false_and, and_false, true_and, and_true, and_self, ↓reduceIte, Nat.reduceEqDiff, lc_let_eq]
theorem lc_enterQ3 {z : lc_S} (base p nm d : Int32) (hb : lcI z 80 48 = nI 2000) (h : lcI z 80 45 = 0) : fQ_enter base p nm d z = some ((), lcUI z 80 45 3) := by
  rw [fQ_enter, hb, if_pos (by decide), lc_bnd_eq (lc_stopQ 3 h)]
theorem lc_nameQ {z : lc_S} {n : Nat} (by' ot : Int32) (v : Int64) (bh : Int32) (hn : lcI z 80 40 = nI n) (hn' : n < 2100) (ho : ot = 0 ∨ ot = 1) :
    fQ_withName by' ot v bh z = some (nI n, lcUI (lcUI (lcUL (lcUI (lcUI z 111 n by') 112 n ot) 113 n v) 114 n bh) 80 40 (nI (n + 1))) := by
  have h3 : (nI n).toNatClampNeg = n := nI_clamp (by omega)
  have h4 : lc_in (nI n) 2100 := nI_in hn' (by decide)
  have h5 : vp_nar .boolean ot = ot := by rcases ho with h | h <;> rw [h] <;> decide
  simp only [fQ_withName, hn, h3, nI_1, nI_pred, lc_chk_pos h4, lc_chk_pos h5, lcI_UI, lcI_UL, lcI_UR, lcL_UI, lcL_UL, lcL_UR, lcR_UI, lcR_UL, lcR_UR, false_and, and_false, true_and, and_true, and_self, ↓reduceIte, Nat.reduceEqDiff, lc_let_eq]
theorem lc_ansQ {z : lc_S} {t : Nat} (v : Int64) (ht : lcI z 80 33 = nI (t + 1)) : fQ_answer v z = some ((), lcUL (lcUI z 80 33 (nI t)) 80 47 v) := by
  rw [fQ_answer, ht, nI_pred]
