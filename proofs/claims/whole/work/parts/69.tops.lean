/-! a step of class and of reference, by the expression that is begun last -/
theorem lc_fend (x : Option (Int64 × lc_S)) : lc_bnd x (fun r z => lc_bnd (fM_end r z) (fun _ z => some ((), z))) = lc_bnd x fM_end := by
  cases x with
  | none => rfl
  | some q => rfl
theorem lc_fans (x : Option (Int64 × lc_S)) : lc_bnd x (fun r z => lc_bnd (fQ_answer r z) (fun _ z => some ((), z))) = lc_bnd x fQ_answer := by
  cases x with
  | none => rfl
  | some q => rfl
theorem lc_tkA {y : lc_S} {t i d s o : Nat} (ht : lcI y 19 11 = nI (t + 1)) (ht' : t < 408) (h31 : lcI y 31 t = nI i) (h32 : lcI y 32 t = nI d) (h33 : lcI y 33 t = nI s) (hr : lcR y 29 d = some o) (ho : lc_sh o = (0, 1, 0)) (hi : i < 120) (hd : d ≤ 24) :
    fM_takeStep y = if lcI y (o + 2) i = 35 then lc_bnd (fV_of 1 (lcI y (o + 6) i) (lcUI y 33 t (nI (s + 1)))) fM_end else if lcI y (o + 2) i = 118 then lc_bnd (fM_valueOfVariable (nI i) (nI d) (lcUI y 33 t (nI (s + 1)))) fM_end else
      if nI s = 0 then fM_begin (lcI y (o + 3) i) (nI d) (lcUI y 33 t (nI (s + 1))) else if nI s = 1 then (if lcI y (o + 2) i = 110 then fM_finish (lcI y (o + 2) i) (lcL y 34 t) (lcL y 19 4) (lcUI y 33 t (nI (s + 1))) else if lcI y (o + 2) i = 103 then fM_finish (lcI y (o + 2) i) (lcL y 34 t) (lcL y 19 4) (lcUI y 33 t (nI (s + 1))) else
        if lcI y (o + 2) i = 100 then fM_finish (lcI y (o + 2) i) (lcL y 34 t) (lcL y 19 4) (lcUI y 33 t (nI (s + 1))) else fM_goOn (nI i) (nI d) (lcUI y 33 t (nI (s + 1)))) else fM_finish (lcI y (o + 2) i) (lcL y 34 t) (lcL y 19 4) (lcUI y 33 t (nI (s + 1))) := by
  have ho' := lc_o ho
  have e2 : ¬ o = 31 := by omega
  have e3 : ¬ o = 30 := by omega
  have e6 : ¬ o = 27 := by omega
  have c1 : lc_in (nI t) 408 := nI_in ht' (by decide)
  have c2 : lc_in (nI d) 25 := nI_in (by omega) (by decide)
  have c3 : lc_in (nI i) 120 := nI_in hi (by decide)
  have d1 : (nI t).toNatClampNeg = t := nI_clamp (by omega)
  have d2 : (nI d).toNatClampNeg = d := nI_clamp (by omega)
  have d3 : (nI i).toNatClampNeg = i := nI_clamp (by omega)
  have hb : lc_bnr (some o) = fun f : Nat → Option (Unit × lc_S) => f o := rfl
  simp only [fM_takeStep, fM_takeStep_161, ht, nI_pred, lc_chk_pos c1, d1, h31, h32, h33, lc_chk_pos c2, lc_chk_pos c3, d2, d3, hr, hb, lc_chk_pos ho, lc_bnd_id, lc_fend, nI_1, e2, e3, e6, lcI_UI, lcI_UL, lcI_UR, lcL_UI, lcL_UL, lcL_UR, lcR_UI, lcR_UL, lcR_UR, false_and, and_false, true_and, and_true, and_self, ↓reduceIte, Nat.reduceEqDiff, lc_let_eq]
theorem lc_partsQ2 {S : Int32} (h : lc_two S) (z : lc_S) : fQ_partsOf S z = some (2, z) := by
  rcases h with h | h | h | h | h | h <;> subst h <;> rfl
theorem lc_partsQ1 {S : Int32} (h : lc_one S) (z : lc_S) : fQ_partsOf S z = some (1, z) := by
  rcases h with h | h | h <;> subst h <;> rfl
theorem lc_stQ {z : lc_S} {t p base s : Nat} (ht : lcI z 80 33 = nI (t + 1)) (ht' : t < 408) (h105 : lcI z 105 t = nI p) (h106 : lcI z 106 t = nI base) (h109 : lcI z 109 t = nI s) (hq : base + p < 600) :
    fQ_step z = if lcI z 82 (base + p) = 48 then lc_bnd (fQ_plain ((lcI z 83 (base + p)).toInt64) (lcUI z 109 t (nI (s + 1)))) fQ_answer else if lcI z 82 (base + p) = 120 then lc_bnd (fQ_lookUp (lcI z 107 t) (lcI z 87 (base + p)) (lcI z 88 (base + p)) (lcUI z 109 t (nI (s + 1)))) fQ_answer else
      if nI s = 0 then fQ_enter (nI base) (lcI z 84 (base + p)) (lcI z 107 t) (lcI z 108 t) (lcUI z 109 t (nI (s + 1))) else if lcI z 82 (base + p) = 63 then fQ_goOn (nI t) (nI (base + p)) (lcI z 82 (base + p)) (nI s) (lcUI z 109 t (nI (s + 1))) else
        if lcI z 82 (base + p) = 58 then fQ_goOn (nI t) (nI (base + p)) (lcI z 82 (base + p)) (nI s) (lcUI z 109 t (nI (s + 1))) else if lcI z 82 (base + p) = 47 then fQ_goOn (nI t) (nI (base + p)) (lcI z 82 (base + p)) (nI s) (lcUI z 109 t (nI (s + 1))) else
        lc_bnd (fQ_partsOf (lcI z 82 (base + p)) (lcUI z 109 t (nI (s + 1)))) (fun r z' => if r = 2 then (if nI s = 1 then fQ_enter (lcI z' 106 t) (lcI z' 85 (base + p)) (lcI z' 107 t) (lcI z' 108 t) (lcUL z' 110 t (lcL z' 80 47)) else fQ_step_225 (nI t) (nI (base + p)) (lcI z 82 (base + p)) (nI s) z') else fQ_step_225 (nI t) (nI (base + p)) (lcI z 82 (base + p)) (nI s) z') := by
  have c1 : lc_in (nI t) 430 := nI_in (by omega) (by decide)
  have c2 : lc_in (nI (base + p)) 600 := nI_in hq (by decide)
  have d1 : (nI t).toNatClampNeg = t := nI_clamp (by omega)
  have d2 : (nI (base + p)).toNatClampNeg = base + p := nI_clamp (by omega)
  simp only [fQ_step, fQ_step_158, ht, nI_pred, lc_chk_pos c1, d1, h105, h106, h109, nI_add, lc_chk_pos c2, d2, lc_bnd_id, lc_fans, nI_1, lcI_UI, lcI_UL, lcI_UR, lcL_UI, lcL_UL, lcL_UR, lcR_UI, lcR_UL, lcR_UR, false_and, and_false, true_and, and_true, and_self, ↓reduceIte, Nat.reduceEqDiff, lc_let_eq]
theorem lc_225call {z : lc_S} {t q c s : Nat} (hq : q < 600) (h83 : lcI z 83 q = nI c) : fQ_step_225 (nI t) (nI q) 64 (nI s) z = fQ_call (nI t) (nI c) (nI s) z := by
  have c2 : lc_in (nI q) 600 := nI_in hq (by decide)
  have d2 : (nI q).toNatClampNeg = q := nI_clamp (by omega)
  simp only [fQ_step_225, lc_chk_pos c2, d2, h83, lc_bnd_id, ↓reduceIte]
theorem lc_225two {z : lc_S} {t s : Nat} {S x : Int32} (ht : t < 408) (h : lc_two S) : fQ_step_225 (nI t) x S (nI s) z = fQ_two S (lcL z 110 t) (lcL z 80 47) z := by
  have c1 : lc_in (nI t) 430 := nI_in (by omega) (by decide)
  have d1 : (nI t).toNatClampNeg = t := nI_clamp (by omega)
  have h64 : ¬ S = 64 := by rcases h with h | h | h | h | h | h <;> subst h <;> decide
  rw [fQ_step_225, if_neg h64, lc_bnd_eq (lc_partsQ2 h z), if_pos rfl, lc_chk_pos c1, d1, lc_bnd_id]
theorem lc_225one {z : lc_S} {t s : Nat} {S x : Int32} (h : lc_one S) : fQ_step_225 (nI t) x S (nI s) z = fQ_one S (lcL z 80 47) z := by
  have h64 : ¬ S = 64 := by rcases h with h | h | h <;> subst h <;> decide
  rw [fQ_step_225, if_neg h64, lc_bnd_eq (lc_partsQ1 h z), if_neg (by decide), lc_bnd_id]
