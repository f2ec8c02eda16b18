/-! the three ways a step ends: an expression ends, one is begun, a trap -/
theorem lc_Es_eq {y z y' z' : lc_S} {P P' N N' t : Nat} {dd : Nat → Nat} {ee : Nat → List lc_en} {W V : Nat → Prop} (hy : lc_fy y y' t P W V) (hz : lc_fz z z' t N) (hP : P ≤ P') (hN : N ≤ N') (hW : ∀ j, j < t → ∀ e ∈ ee j, ¬ W (24 * dd j + e.1)) (hV : ∀ j, j < t → ¬ V (dd j)) (h : lc_Es y z P N t dd ee) : lc_Es y' z' P' N' t dd ee :=
  ⟨fun j hj => lc_E_eq hy hz hj hP hN (hW j hj) (hV j hj) (h.1 j hj), h.2⟩
/-- what a step comes to -/
def lc_O (y z : lc_S) (st : Nat) : Prop := (∃ t b N P, lc_J y z t b N P st) ∨ lc_XT y z
theorem lc_endT {y z : lc_S} {t b N P st k w : Nat} {dd : Nat → Nat} {ee : Nat → List lc_en} (hC : lc_C y z (t + 1) b N P) (hE : lc_Es y z P N t dd ee) (h1 : N + lc_c1 y t ≤ b) (h3 : st + lc_c3 y t ≤ 3 * b) (ho : lc_okr P k w) :
    ∃ y' z', fM_end (lc_cv k w) y = some ((), y') ∧ fQ_answer (lc_mv k w) z = some ((), z') ∧ lc_O y' z' st := by
  obtain ⟨a1, a2, a3, a4, a5, a6, a7, a8, a9, a10, a11⟩ := hC
  refine ⟨_, _, lc_endA _ a1, lc_ansQ _ a2, Or.inl ⟨t, b, N, P, ⟨?_, ?_, ?_, ?_, a5, ?_, ?_, ?_, ?_, ?_, ?_⟩, ⟨dd, ee, ?_⟩, ?_, ?_, fun _ => ⟨k, w, ho, ?_, ?_⟩⟩⟩
  · simp only [lcI_UI, lcI_UL, lcI_UR, lcL_UI, lcL_UL, lcL_UR, lcR_UI, lcR_UL, lcR_UR, false_and, and_false, true_and, and_true, and_self, ↓reduceIte, Nat.reduceEqDiff, lc_let_eq]
  · simp only [lcI_UI, lcI_UL, lcI_UR, lcL_UI, lcL_UL, lcL_UR, lcR_UI, lcR_UL, lcR_UR, false_and, and_false, true_and, and_true, and_self, ↓reduceIte, Nat.reduceEqDiff, lc_let_eq]
  · simp only [a3, lcI_UI, lcI_UL, lcI_UR, lcL_UI, lcL_UL, lcL_UR, lcR_UI, lcR_UL, lcR_UR, false_and, and_false, true_and, and_true, and_self, ↓reduceIte, Nat.reduceEqDiff, lc_let_eq]
  · simp only [a4, lcI_UI, lcI_UL, lcI_UR, lcL_UI, lcL_UL, lcL_UR, lcR_UI, lcR_UL, lcR_UR, false_and, and_false, true_and, and_true, and_self, ↓reduceIte, Nat.reduceEqDiff, lc_let_eq]
  · simp only [a6, lcI_UI, lcI_UL, lcI_UR, lcL_UI, lcL_UL, lcL_UR, lcR_UI, lcR_UL, lcR_UR, false_and, and_false, true_and, and_true, and_self, ↓reduceIte, Nat.reduceEqDiff, lc_let_eq]
  · simp only [a7, lcI_UI, lcI_UL, lcI_UR, lcL_UI, lcL_UL, lcL_UR, lcR_UI, lcR_UL, lcR_UR, false_and, and_false, true_and, and_true, and_self, ↓reduceIte, Nat.reduceEqDiff, lc_let_eq]
  · simp only [a8, lcI_UI, lcI_UL, lcI_UR, lcL_UI, lcL_UL, lcL_UR, lcR_UI, lcR_UL, lcR_UR, false_and, and_false, true_and, and_true, and_self, ↓reduceIte, Nat.reduceEqDiff, lc_let_eq]
  · simp only [a9, lcI_UI, lcI_UL, lcI_UR, lcL_UI, lcL_UL, lcL_UR, lcR_UI, lcR_UL, lcR_UR, false_and, and_false, true_and, and_true, and_self, ↓reduceIte, Nat.reduceEqDiff, lc_let_eq]
  · refine lc_M2_eq (fun c k h h' => ?_) (fun c k h => ?_) (fun c k h h' => ?_) ?_ ?_ ?_ (fun c k h => ?_) a10
    · rw [lcI_UI, if_neg (by omega), lcI_UL]
    · rw [lcL_UI, lcL_UL, if_neg (by omega)]
    · rw [lcI_UL, lcI_UI, if_neg (by omega)]
    · simp only [lcI_UI, lcI_UL, lcI_UR, lcL_UI, lcL_UL, lcL_UR, lcR_UI, lcR_UL, lcR_UR, false_and, and_false, true_and, and_true, and_self, ↓reduceIte, Nat.reduceEqDiff, lc_let_eq]
    · simp only [lcI_UI, lcI_UL, lcI_UR, lcL_UI, lcL_UL, lcL_UR, lcR_UI, lcR_UL, lcR_UR, false_and, and_false, true_and, and_true, and_self, ↓reduceIte, Nat.reduceEqDiff, lc_let_eq]
    · simp only [lcI_UI, lcI_UL, lcI_UR, lcL_UI, lcL_UL, lcL_UR, lcR_UI, lcR_UL, lcR_UR, false_and, and_false, true_and, and_true, and_self, ↓reduceIte, Nat.reduceEqDiff, lc_let_eq]
    · rw [lcL_UL, if_neg (by omega), lcL_UI]
  · exact lc_PR_eq (y := y) (z := z) (fun c k h h' => by rw [lcI_UI, if_neg (by omega), lcI_UL]) (fun c k h h' => by rw [lcI_UL, lcI_UI, if_neg (by omega)]) (fun k => rfl) a11
  · refine lc_Es_eq (y := y) (z := z) (W := fun _ => False) (V := fun _ => False) ⟨fun c k h h' => by rw [lcI_UI, if_neg (by omega), lcI_UL], fun j hj => ?_, fun q hq => ?_, fun a _ => ?_, fun d _ => rfl⟩ ⟨fun c k h h' => by rw [lcI_UL, lcI_UI, if_neg (by omega)], fun j hj => ?_, fun j hj => ?_⟩ (Nat.le_refl _) (Nat.le_refl _) (fun _ _ _ _ h => h) (fun _ _ h => h) hE
    · simp only [lcI_UI, lcI_UL, lcI_UR, lcL_UI, lcL_UL, lcL_UR, lcR_UI, lcR_UL, lcR_UR, false_and, and_false, true_and, and_true, and_self, ↓reduceIte, Nat.reduceEqDiff, lc_let_eq]
    · simp only [lcI_UI, lcI_UL, lcI_UR, lcL_UI, lcL_UL, lcL_UR, lcR_UI, lcR_UL, lcR_UR, false_and, and_false, true_and, and_true, and_self, ↓reduceIte, Nat.reduceEqDiff, lc_let_eq]
    · simp only [lcI_UI, lcI_UL, lcI_UR, lcL_UI, lcL_UL, lcL_UR, lcR_UI, lcR_UL, lcR_UR, false_and, and_false, true_and, and_true, and_self, ↓reduceIte, Nat.reduceEqDiff, lc_let_eq]
    · simp only [lcI_UI, lcI_UL, lcI_UR, lcL_UI, lcL_UL, lcL_UR, lcR_UI, lcR_UL, lcR_UR, false_and, and_false, true_and, and_true, and_self, ↓reduceIte, Nat.reduceEqDiff, lc_let_eq]
    · simp only [lcI_UI, lcI_UL, lcI_UR, lcL_UI, lcL_UL, lcL_UR, lcR_UI, lcR_UL, lcR_UR, false_and, and_false, true_and, and_true, and_self, ↓reduceIte, Nat.reduceEqDiff, lc_let_eq]
  · rw [lc_c1_eq (y := y) t (fun j _ => by simp only [lcI_UI, lcI_UL, lcI_UR, lcL_UI, lcL_UL, lcL_UR, lcR_UI, lcR_UL, lcR_UR, false_and, and_false, true_and, and_true, and_self, ↓reduceIte, Nat.reduceEqDiff, lc_let_eq])]; exact h1
  · rw [lc_c3_eq (y := y) t (fun j _ => by simp only [lcI_UI, lcI_UL, lcI_UR, lcL_UI, lcL_UL, lcL_UR, lcR_UI, lcR_UL, lcR_UR, false_and, and_false, true_and, and_true, and_self, ↓reduceIte, Nat.reduceEqDiff, lc_let_eq])]; exact h3
  · simp only [lcI_UI, lcI_UL, lcI_UR, lcL_UI, lcL_UL, lcL_UR, lcR_UI, lcR_UL, lcR_UR, false_and, and_false, true_and, and_true, and_self, ↓reduceIte, Nat.reduceEqDiff, lc_let_eq]
  · simp only [lcI_UI, lcI_UL, lcI_UR, lcL_UI, lcL_UL, lcL_UR, lcR_UI, lcR_UL, lcR_UR, false_and, and_false, true_and, and_true, and_self, ↓reduceIte, Nat.reduceEqDiff, lc_let_eq]
theorem lc_trapX {y z : lc_S} {t b N P : Nat} {k : Int32} (hk : k ≠ 0) (hC : lc_C y z t b N P) : lc_XT (lcUI y 19 3 k) (lcUI z 80 45 k) := by
  obtain ⟨a1, a2, a3, a4, a5, a6, a7, a8, a9, a10, a11⟩ := hC
  refine ⟨?_, ?_, ⟨P, ?_⟩, ⟨b, ?_, ?_⟩, ?_⟩
  · simp only [lcI_UI, lcI_UL, lcI_UR, lcL_UI, lcL_UL, lcL_UR, lcR_UI, lcR_UL, lcR_UR, false_and, and_false, true_and, and_true, and_self, ↓reduceIte, Nat.reduceEqDiff, lc_let_eq]; exact hk
  · simp only [lcI_UI, lcI_UL, lcI_UR, lcL_UI, lcL_UL, lcL_UR, lcR_UI, lcR_UL, lcR_UR, false_and, and_false, true_and, and_true, and_self, ↓reduceIte, Nat.reduceEqDiff, lc_let_eq]
  · refine lc_M2_eq (fun c k h h' => ?_) (fun c k h => rfl) (fun c k h h' => ?_) ?_ ?_ ?_ (fun c k h => rfl) a10
    · rw [lcI_UI, if_neg (by omega)]
    · rw [lcI_UI, if_neg (by omega)]
    · simp only [lcI_UI, lcI_UL, lcI_UR, lcL_UI, lcL_UL, lcL_UR, lcR_UI, lcR_UL, lcR_UR, false_and, and_false, true_and, and_true, and_self, ↓reduceIte, Nat.reduceEqDiff, lc_let_eq]
    · simp only [lcI_UI, lcI_UL, lcI_UR, lcL_UI, lcL_UL, lcL_UR, lcR_UI, lcR_UL, lcR_UR, false_and, and_false, true_and, and_true, and_self, ↓reduceIte, Nat.reduceEqDiff, lc_let_eq]
    · simp only [lcI_UI, lcI_UL, lcI_UR, lcL_UI, lcL_UL, lcL_UR, lcR_UI, lcR_UL, lcR_UR, false_and, and_false, true_and, and_true, and_self, ↓reduceIte, Nat.reduceEqDiff, lc_let_eq]
  · simp only [a3, lcI_UI, lcI_UL, lcI_UR, lcL_UI, lcL_UL, lcL_UR, lcR_UI, lcR_UL, lcR_UR, false_and, and_false, true_and, and_true, and_self, ↓reduceIte, Nat.reduceEqDiff, lc_let_eq]
  · simp only [a4, lcI_UI, lcI_UL, lcI_UR, lcL_UI, lcL_UL, lcL_UR, lcR_UI, lcR_UL, lcR_UR, false_and, and_false, true_and, and_true, and_self, ↓reduceIte, Nat.reduceEqDiff, lc_let_eq]
  · exact lc_PR_eq (y := y) (z := z) (fun c k h h' => by rw [lcI_UI, if_neg (by omega)]) (fun c k h h' => by rw [lcI_UI, if_neg (by omega)]) (fun k => rfl) a11
theorem lc_R_D {y z : lc_S} {o base D lo i p hi : Nat} {env : List lc_en} (h : lc_R y z o base D lo i p hi env) : 0 < D := by
  cases D with
  | zero => exact absurd h id
  | succ D => omega
theorem lc_beginT {y z : lc_S} {t b N P st d o k D lo i p hi : Nat} {nm : Int32} {env : List lc_en} {dd : Nat → Nat} {ee : Nat → List lc_en} (hC : lc_C y z t b N P) (hE : lc_Es y z P N t dd ee) (h1 : N + lc_c1 y t ≤ b + 1) (h3 : st + lc_c3 y t ≤ 3 * b)
    (hm : ∀ j, j < t → dd j ≤ d ∧ (dd j = d → ∀ e ∈ ee j, e ∈ env)) (hr : lcR y 29 d = some o) (ho : lc_sh o = (0, 1, 0)) (hk : k < 4) (hd : 0 < d) (hd' : d ≤ 24) (hD : t + D ≤ 17 * d) (hR : lc_R y z o (120 * (k + 1)) D lo i p hi env) (hc : lc_CH y z P d env N nm) :
    ∃ y' z', fM_begin (nI i) (nI d) y = some ((), y') ∧ fQ_enter (nI (120 * (k + 1))) (nI p) nm (nI d) z = some ((), z') ∧ lc_O y' z' st := by
  have hD0 := lc_R_D hR
  by_cases hb : b < 2000
  · obtain ⟨a1, a2, a3, a4, a5, a6, a7, a8, a9, a10, a11⟩ := hC
    refine ⟨_, _, lc_beginA _ _ a3 a1 hb (by omega), lc_enterQ _ _ _ _ a4 a2 hb (by omega), Or.inl ⟨t + 1, b + 1, N, P, ⟨?_, ?_, ?_, ?_, by omega, ?_, ?_, ?_, ?_, ?_, ?_⟩, ⟨fun j => if j = t then d else dd j, fun j => if j = t then env else ee j, ?_⟩, ?_, ?_, ?_⟩⟩
    · simp only [lcI_UI, lcI_UL, lcI_UR, lcL_UI, lcL_UL, lcL_UR, lcR_UI, lcR_UL, lcR_UR, false_and, and_false, true_and, and_true, and_self, ↓reduceIte, Nat.reduceEqDiff, lc_let_eq]
    · simp only [lcI_UI, lcI_UL, lcI_UR, lcL_UI, lcL_UL, lcL_UR, lcR_UI, lcR_UL, lcR_UR, false_and, and_false, true_and, and_true, and_self, ↓reduceIte, Nat.reduceEqDiff, lc_let_eq]
    · simp only [lcI_UI, lcI_UL, lcI_UR, lcL_UI, lcL_UL, lcL_UR, lcR_UI, lcR_UL, lcR_UR, false_and, and_false, true_and, and_true, and_self, ↓reduceIte, Nat.reduceEqDiff, lc_let_eq]
    · simp only [lcI_UI, lcI_UL, lcI_UR, lcL_UI, lcL_UL, lcL_UR, lcR_UI, lcR_UL, lcR_UR, false_and, and_false, true_and, and_true, and_self, ↓reduceIte, Nat.reduceEqDiff, lc_let_eq]
    · simp only [a6, lcI_UI, lcI_UL, lcI_UR, lcL_UI, lcL_UL, lcL_UR, lcR_UI, lcR_UL, lcR_UR, false_and, and_false, true_and, and_true, and_self, ↓reduceIte, Nat.reduceEqDiff, lc_let_eq]
    · simp only [a7, lcI_UI, lcI_UL, lcI_UR, lcL_UI, lcL_UL, lcL_UR, lcR_UI, lcR_UL, lcR_UR, false_and, and_false, true_and, and_true, and_self, ↓reduceIte, Nat.reduceEqDiff, lc_let_eq]
    · simp only [a8, lcI_UI, lcI_UL, lcI_UR, lcL_UI, lcL_UL, lcL_UR, lcR_UI, lcR_UL, lcR_UR, false_and, and_false, true_and, and_true, and_self, ↓reduceIte, Nat.reduceEqDiff, lc_let_eq]
    · simp only [a9, lcI_UI, lcI_UL, lcI_UR, lcL_UI, lcL_UL, lcL_UR, lcR_UI, lcR_UL, lcR_UR, false_and, and_false, true_and, and_true, and_self, ↓reduceIte, Nat.reduceEqDiff, lc_let_eq]
    · refine lc_M2_eq (fun c k h h' => ?_) (fun c k h => ?_) (fun c k h h' => ?_) ?_ ?_ ?_ (fun c k h => ?_) a10
      · rw [lcI_UI, if_neg (by omega), lcI_UI, if_neg (by omega), lcI_UI, if_neg (by omega), lcI_UI, if_neg (by omega), lcI_UI, if_neg (by omega)]
      · simp only [lcI_UI, lcI_UL, lcI_UR, lcL_UI, lcL_UL, lcL_UR, lcR_UI, lcR_UL, lcR_UR, false_and, and_false, true_and, and_true, and_self, ↓reduceIte, Nat.reduceEqDiff, lc_let_eq]
      · rw [lcI_UI, if_neg (by omega), lcI_UI, if_neg (by omega), lcI_UI, if_neg (by omega), lcI_UI, if_neg (by omega), lcI_UI, if_neg (by omega), lcI_UI, if_neg (by omega), lcI_UI, if_neg (by omega)]
      · simp only [lcI_UI, lcI_UL, lcI_UR, lcL_UI, lcL_UL, lcL_UR, lcR_UI, lcR_UL, lcR_UR, false_and, and_false, true_and, and_true, and_self, ↓reduceIte, Nat.reduceEqDiff, lc_let_eq]
      · simp only [lcI_UI, lcI_UL, lcI_UR, lcL_UI, lcL_UL, lcL_UR, lcR_UI, lcR_UL, lcR_UR, false_and, and_false, true_and, and_true, and_self, ↓reduceIte, Nat.reduceEqDiff, lc_let_eq]
      · simp only [lcI_UI, lcI_UL, lcI_UR, lcL_UI, lcL_UL, lcL_UR, lcR_UI, lcR_UL, lcR_UR, false_and, and_false, true_and, and_true, and_self, ↓reduceIte, Nat.reduceEqDiff, lc_let_eq]
      · simp only [lcI_UI, lcI_UL, lcI_UR, lcL_UI, lcL_UL, lcL_UR, lcR_UI, lcR_UL, lcR_UR, false_and, and_false, true_and, and_true, and_self, ↓reduceIte, Nat.reduceEqDiff, lc_let_eq]
    · refine lc_PR_eq (y := y) (z := z) (fun c k h h' => ?_) (fun c k h h' => ?_) (fun k => rfl) a11
      · rw [lcI_UI, if_neg (by omega), lcI_UI, if_neg (by omega), lcI_UI, if_neg (by omega), lcI_UI, if_neg (by omega), lcI_UI, if_neg (by omega)]
      · rw [lcI_UI, if_neg (by omega), lcI_UI, if_neg (by omega), lcI_UI, if_neg (by omega), lcI_UI, if_neg (by omega), lcI_UI, if_neg (by omega), lcI_UI, if_neg (by omega), lcI_UI, if_neg (by omega)]
    · have sy : lc_sy y (lcUI (lcUI (lcUI (lcUI (lcUI y 19 2 (nI (b + 1))) 31 t (nI i)) 32 t (nI d)) 33 t 0) 19 11 (nI (t + 1))) := fun c k h h' => by
        rw [lcI_UI, if_neg (by omega), lcI_UI, if_neg (by omega), lcI_UI, if_neg (by omega), lcI_UI, if_neg (by omega), lcI_UI, if_neg (by omega)]
      have sz : lc_sz z (lcUI (lcUI (lcUI (lcUI (lcUI (lcUI (lcUI z 80 48 (nI (b + 1))) 105 t (nI p)) 106 t (nI (120 * (k + 1)))) 107 t nm) 108 t (nI d)) 109 t 0) 80 33 (nI (t + 1))) := fun c k h h' => by
        rw [lcI_UI, if_neg (by omega), lcI_UI, if_neg (by omega), lcI_UI, if_neg (by omega), lcI_UI, if_neg (by omega), lcI_UI, if_neg (by omega), lcI_UI, if_neg (by omega), lcI_UI, if_neg (by omega)]
      have old := lc_Es_eq (W := fun _ => False) (V := fun _ => False) (t := t) (N' := N) (P' := P)
        (y' := lcUI (lcUI (lcUI (lcUI (lcUI y 19 2 (nI (b + 1))) 31 t (nI i)) 32 t (nI d)) 33 t 0) 19 11 (nI (t + 1)))
        (z' := lcUI (lcUI (lcUI (lcUI (lcUI (lcUI (lcUI z 80 48 (nI (b + 1))) 105 t (nI p)) 106 t (nI (120 * (k + 1)))) 107 t nm) 108 t (nI d)) 109 t 0) 80 33 (nI (t + 1)))
        ⟨sy, fun j hj => by have hne : ¬ j = t := by omega
                            simp only [hne, lcI_UI, lcI_UL, lcI_UR, lcL_UI, lcL_UL, lcL_UR, lcR_UI, lcR_UL, lcR_UR, false_and, and_false, true_and, and_true, and_self, ↓reduceIte, Nat.reduceEqDiff, lc_let_eq], fun q hq => by simp only [lcI_UI, lcI_UL, lcI_UR, lcL_UI, lcL_UL, lcL_UR, lcR_UI, lcR_UL, lcR_UR, false_and, and_false, true_and, and_true, and_self, ↓reduceIte, Nat.reduceEqDiff, lc_let_eq], fun a _ => by simp only [lcI_UI, lcI_UL, lcI_UR, lcL_UI, lcL_UL, lcL_UR, lcR_UI, lcR_UL, lcR_UR, false_and, and_false, true_and, and_true, and_self, ↓reduceIte, Nat.reduceEqDiff, lc_let_eq], fun d _ => rfl⟩
        ⟨sz, fun j hj => by have hne : ¬ j = t := by omega
                            simp only [hne, lcI_UI, lcI_UL, lcI_UR, lcL_UI, lcL_UL, lcL_UR, lcR_UI, lcR_UL, lcR_UR, false_and, and_false, true_and, and_true, and_self, ↓reduceIte, Nat.reduceEqDiff, lc_let_eq], fun j hj => by simp only [lcI_UI, lcI_UL, lcI_UR, lcL_UI, lcL_UL, lcL_UR, lcR_UI, lcR_UL, lcR_UR, false_and, and_false, true_and, and_true, and_self, ↓reduceIte, Nat.reduceEqDiff, lc_let_eq]⟩ (Nat.le_refl _) (Nat.le_refl _) (fun _ _ _ _ h => h) (fun _ _ h => h) hE
      refine ⟨fun j hj => ?_, fun j j' hj hj' => ?_⟩
      · show lc_EN _ _ P N 2 j (if j = t then d else dd j) (if j = t then env else ee j)
        by_cases hjt : j = t
        · rw [if_pos hjt, if_pos hjt, hjt]
          refine ⟨o, k, D, lo, i, p, hi, 0, ?_, ?_, ?_, ?_, ho, ?_, ?_, ?_, ?_, hk, hd, hd', by omega, hD, lc_R_eq (lc_o ho) sy sz _ _ _ _ _ _ hR, ?_, fun h => absurd h (by omega)⟩
          · simp only [lcI_UI, lcI_UL, lcI_UR, lcL_UI, lcL_UL, lcL_UR, lcR_UI, lcR_UL, lcR_UR, false_and, and_false, true_and, and_true, and_self, ↓reduceIte, Nat.reduceEqDiff, lc_let_eq]
          · simp only [lcI_UI, lcI_UL, lcI_UR, lcL_UI, lcL_UL, lcL_UR, lcR_UI, lcR_UL, lcR_UR, false_and, and_false, true_and, and_true, and_self, ↓reduceIte, Nat.reduceEqDiff, lc_let_eq]
          · simp only [lcI_UI, lcI_UL, lcI_UR, lcL_UI, lcL_UL, lcL_UR, lcR_UI, lcR_UL, lcR_UR, false_and, and_false, true_and, and_true, and_self, ↓reduceIte, Nat.reduceEqDiff, lc_let_eq]; rfl
          · simp only [hr, lcI_UI, lcI_UL, lcI_UR, lcL_UI, lcL_UL, lcL_UR, lcR_UI, lcR_UL, lcR_UR, false_and, and_false, true_and, and_true, and_self, ↓reduceIte, Nat.reduceEqDiff, lc_let_eq]
          · simp only [lcI_UI, lcI_UL, lcI_UR, lcL_UI, lcL_UL, lcL_UR, lcR_UI, lcR_UL, lcR_UR, false_and, and_false, true_and, and_true, and_self, ↓reduceIte, Nat.reduceEqDiff, lc_let_eq]
          · simp only [lcI_UI, lcI_UL, lcI_UR, lcL_UI, lcL_UL, lcL_UR, lcR_UI, lcR_UL, lcR_UR, false_and, and_false, true_and, and_true, and_self, ↓reduceIte, Nat.reduceEqDiff, lc_let_eq]
          · simp only [lcI_UI, lcI_UL, lcI_UR, lcL_UI, lcL_UL, lcL_UR, lcR_UI, lcR_UL, lcR_UR, false_and, and_false, true_and, and_true, and_self, ↓reduceIte, Nat.reduceEqDiff, lc_let_eq]
          · simp only [lcI_UI, lcI_UL, lcI_UR, lcL_UI, lcL_UL, lcL_UR, lcR_UI, lcR_UL, lcR_UR, false_and, and_false, true_and, and_true, and_self, ↓reduceIte, Nat.reduceEqDiff, lc_let_eq]; rfl
          · have e : lcI (lcUI (lcUI (lcUI (lcUI (lcUI (lcUI (lcUI z 80 48 (nI (b + 1))) 105 t (nI p)) 106 t (nI (120 * (k + 1)))) 107 t nm) 108 t (nI d)) 109 t 0) 80 33 (nI (t + 1))) 107 t = nm := by simp only [lcI_UI, lcI_UL, lcI_UR, lcL_UI, lcL_UL, lcL_UR, lcR_UI, lcR_UL, lcR_UR, false_and, and_false, true_and, and_true, and_self, ↓reduceIte, Nat.reduceEqDiff, lc_let_eq]
            rw [e]
            exact lc_CH_eq (fun q hq => by simp only [lcI_UI, lcI_UL, lcI_UR, lcL_UI, lcL_UL, lcL_UR, lcR_UI, lcR_UL, lcR_UR, false_and, and_false, true_and, and_true, and_self, ↓reduceIte, Nat.reduceEqDiff, lc_let_eq]) (Nat.le_refl _) env N nm (fun e he => by simp only [lcI_UI, lcI_UL, lcI_UR, lcL_UI, lcL_UL, lcL_UR, lcR_UI, lcR_UL, lcR_UR, false_and, and_false, true_and, and_true, and_self, ↓reduceIte, Nat.reduceEqDiff, lc_let_eq]) (fun j hj => by simp only [lcI_UI, lcI_UL, lcI_UR, lcL_UI, lcL_UL, lcL_UR, lcR_UI, lcR_UL, lcR_UR, false_and, and_false, true_and, and_true, and_self, ↓reduceIte, Nat.reduceEqDiff, lc_let_eq]) N (Nat.le_refl _) hc
        · rw [if_neg hjt, if_neg hjt]
          exact old.1 j (by omega)
      · have hjt : ¬ j = t := by omega
        show (if j = t then d else dd j) ≤ (if j' = t then d else dd j') ∧ ((if j = t then d else dd j) = (if j' = t then d else dd j') → ∀ e ∈ (if j = t then env else ee j), e ∈ (if j' = t then env else ee j'))
        rw [if_neg hjt, if_neg hjt]
        by_cases hjt' : j' = t
        · rw [if_pos hjt', if_pos hjt']
          exact hm j (by omega)
        · rw [if_neg hjt', if_neg hjt']
          exact old.2 j j' hj (by omega)
    · rw [lc_c1, lc_c1_eq (y := y) t (fun j hj => by have hne : ¬ j = t := by omega
                                                     simp only [hne, lcI_UI, lcI_UL, lcI_UR, lcL_UI, lcL_UL, lcL_UR, lcR_UI, lcR_UL, lcR_UR, false_and, and_false, true_and, and_true, and_self, ↓reduceIte, Nat.reduceEqDiff, lc_let_eq])]
      simp only [lcI_UI, lcI_UL, lcI_UR, lcL_UI, lcL_UL, lcL_UR, lcR_UI, lcR_UL, lcR_UR, false_and, and_false, true_and, and_true, and_self, ↓reduceIte, Nat.reduceEqDiff, lc_let_eq]
      rw [if_neg (show ¬ (0 : Int32) = 1 by decide)]
      exact h1
    · rw [lc_c3, lc_c3_eq (y := y) t (fun j hj => by have hne : ¬ j = t := by omega
                                                     simp only [hne, lcI_UI, lcI_UL, lcI_UR, lcL_UI, lcL_UL, lcL_UR, lcR_UI, lcR_UL, lcR_UR, false_and, and_false, true_and, and_true, and_self, ↓reduceIte, Nat.reduceEqDiff, lc_let_eq])]
      simp only [lcI_UI, lcI_UL, lcI_UR, lcL_UI, lcL_UL, lcL_UR, lcR_UI, lcR_UL, lcR_UR, false_and, and_false, true_and, and_true, and_self, ↓reduceIte, Nat.reduceEqDiff, lc_let_eq]
      rw [show (0 : Int32).toNatClampNeg = 0 from rfl]
      omega
    · intro h
      rcases h with h | h
      · omega
      · exfalso; apply h
        simp only [Nat.add_sub_cancel, lcI_UI, lcI_UL, lcI_UR, lcL_UI, lcL_UL, lcL_UR, lcR_UI, lcR_UL, lcR_UR, false_and, and_false, true_and, and_true, and_self, ↓reduceIte, Nat.reduceEqDiff, lc_let_eq]
  · obtain ⟨a1, a2, a3, a4, a5, a6, a7, a8, a9, a10, a11⟩ := hC
    have hb2 : b = 2000 := by omega
    refine ⟨_, _, lc_beginA3 _ _ (by rw [a3, hb2]), lc_enterQ3 _ _ _ _ (by rw [a4, hb2]) a7, Or.inr (lc_trapX (by decide) ⟨a1, a2, a3, a4, a5, a6, a7, a8, a9, a10, a11⟩)⟩
