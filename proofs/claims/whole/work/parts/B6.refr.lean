/-! reading: the steps of the reference -/
def lc_b8 (z : lc_S) : Prop := ∀ j, j < 120 → lcI z 88 j = 0 ∨ lcI z 88 j = 1
def lc_kx (p d m : Nat) (z z' : lc_S) : Prop := (∀ c k, ¬ (c = 80 ∧ (k = 13 ∨ k = 14 ∨ k = 15 ∨ k = 16 ∨ k = 19)) → ¬ (82 ≤ c ∧ c ≤ 88 ∧ p ≤ k ∧ k < 120) → ¬ (c = 89 ∧ k = 0) → ¬ ((c = 92 ∨ c = 93) ∧ d ≤ k) → ¬ (94 ≤ c ∧ c ≤ 96 ∧ m ≤ k) → lcI z' c k = lcI z c k) ∧ (∀ c k, lcL z' c k = lcL z c k) ∧ ∀ c k, lcR z' c k = lcR z c k
theorem lc_kx.rf {p d m : Nat} {z : lc_S} : lc_kx p d m z z := ⟨fun _ _ _ _ _ _ _ => rfl, fun _ _ => rfl, fun _ _ => rfl⟩
theorem lc_kx.tr {p d m p' d' m' : Nat} {x y z : lc_S} (h : lc_kx p d m x y) (g : lc_kx p' d' m' y z) (hp : p ≤ p') (hd : d ≤ d') (hm : m ≤ m') : lc_kx p d m x z := ⟨fun c k a1 a2 a3 a4 a5 => (g.1 c k a1 (by omega) a3 (by omega) (by omega)).trans (h.1 c k a1 a2 a3 a4 a5), fun c k => (g.2.1 c k).trans (h.2.1 c k), fun c k => (g.2.2 c k).trans (h.2.2 c k)⟩
theorem lc_kx.u {p d m c k : Nat} {z : lc_S} (v : Int32) (h : (c = 80 ∧ (k = 13 ∨ k = 14 ∨ k = 15 ∨ k = 16 ∨ k = 19)) ∨ (82 ≤ c ∧ c ≤ 88 ∧ p ≤ k ∧ k < 120) ∨ (c = 89 ∧ k = 0) ∨ ((c = 92 ∨ c = 93) ∧ d ≤ k) ∨ (94 ≤ c ∧ c ≤ 96 ∧ m ≤ k)) : lc_kx p d m z (lcUI z c k v) := ⟨fun c' k' a1 a2 a3 a4 a5 => by rw [lcI_UI, if_neg (fun e => by rw [e.1, e.2] at a1 a2 a3 a4 a5; rcases h with h | h | h | h | h <;> contradiction)], fun _ _ => rfl, fun _ _ => rfl⟩
theorem lc_kx.t {p d m c k : Nat} {y z : lc_S} (g : lc_kx p d m y z) (v : Int32) (h : (c = 80 ∧ (k = 13 ∨ k = 14 ∨ k = 15 ∨ k = 16 ∨ k = 19)) ∨ (82 ≤ c ∧ c ≤ 88 ∧ p ≤ k ∧ k < 120) ∨ (c = 89 ∧ k = 0) ∨ ((c = 92 ∨ c = 93) ∧ d ≤ k) ∨ (94 ≤ c ∧ c ≤ 96 ∧ m ≤ k)) : lc_kx p d m y (lcUI z c k v) := g.tr (lc_kx.u v h) (Nat.le_refl _) (Nat.le_refl _) (Nat.le_refl _)
theorem lc_kp9.x {p d m : Nat} {y z : lc_S} (h : lc_kp9 y z) : lc_kx p d m y z := ⟨fun c k a1 _ _ _ _ => h.1 c k (by omega), h.2.1, h.2.2⟩
theorem lc_kp8.x {p d m : Nat} {y z : lc_S} (h : lc_kp8 y z) : lc_kx p d m y z := h.n.x
theorem lc_txQx {z z' : lc_S} {tx : Nat → Int32} {n p d m : Nat} (k : lc_kx p d m z z') (h : lc_txQ z tx n) : lc_txQ z' tx n := ⟨by rw [k.1 _ _ (by omega) (by omega) (by omega) (by omega) (by omega)]; exact h.1, h.2.1, fun j hj => by rw [k.1 _ _ (by omega) (by omega) (by omega) (by omega) (by omega)]; exact h.2.2 j hj⟩
theorem lc_nQx {z z' : lc_S} {L : List lc_nm} {p d : Nat} (k : lc_kx p d L.length z z') (h : lc_nQ z L) : lc_nQ z' L := lc_nQ_eq L (fun c j u v w => k.1 c j (by omega) (by omega) (by omega) (by omega) (by omega)) h
/-- the reference, about to read an expression at depth d: text from a on, the next part p, the names L, u: some variable was not bound -/
def lc_cQ (tx : Nat → Int32) (n : Nat) (z : lc_S) (a p d : Nat) (L : List lc_nm) (u : Int32) : Prop := lc_txQ z tx n ∧ lcI z 80 13 = nI a ∧ a ≤ n ∧ p ≤ a ∧ lcI z 80 14 = 0 ∧ lcI z 80 16 = nI d ∧ lcI z 89 0 = nI p ∧ lcI z 80 19 = nI L.length ∧ lc_nQ z L ∧ lc_ne p L ∧ L.length ≤ 1 + 2 * d ∧ lc_b8 z ∧ lcI z 80 15 = u ∧ (u = 0 ∨ u = 1)
/-- signs: a place is found once -/
theorem lc_sk_spec {tx : Nat → Int32} {n : Nat} : ∀ (F a : Nat), n ≤ a + F → ¬ (lc_sk tx n F a < n ∧ tx (lc_sk tx n F a) = 32)
  | 0, a, h => fun g => by have : lc_sk tx n 0 a = a := rfl; omega
  | F + 1, a, h => by
    rw [lc_sk]
    by_cases g : a < n ∧ tx a = 32
    · rw [if_pos g]; exact lc_sk_spec F (a + 1) (by omega)
    · rw [if_neg g]; exact g
theorem lc_at_at {tx : Nat → Int32} {n a : Nat} (hn : n ≤ 120) : lc_at tx n (lc_at tx n a) = lc_at tx n a := by
  have h := lc_sk_spec (tx := tx) (n := n) 121 a (by omega)
  show lc_sk tx n 121 (lc_sk tx n 121 a) = lc_sk tx n 121 a
  rw [lc_sk, if_neg h]
theorem lc_sg_at {tx : Nat → Int32} {n a : Nat} (hn : n ≤ 120) : lc_sg tx n (lc_at tx n a) = lc_sg tx n a := by
  unfold lc_sg; rw [lc_at_at hn]
/-- a number, read by the reference; and then by any state of the class -/
theorem lc_number2 {tx : Nat → Int32} {n a : Nat} (ht : lc_tk tx n) (z : lc_S) (hz : lc_txQ z tx n) (hb : lcI z 80 14 = 0) (hlt : lc_at tx n a < n) (h13 : lcI z 80 13 = nI a) (ha : a ≤ n) (hg : lc_ig (lc_sg tx n a) ≠ 0) :
    ∃ z', lc_kp9 z z' ∧ ((∃ v a', v < 10000 ∧ lc_at tx n a < a' ∧ a' ≤ n ∧ lcI z' 80 13 = nI a' ∧ lcI z' 80 14 = 0 ∧ fQ_number z = some (nI v, z') ∧ ∀ y, lc_txA y tx n → lcI y 4 2 = nI (lc_at tx n a + 1) → ∃ y', lc_kp4 y y' ∧ lcI y' 4 2 = nI a' ∧ fR_readNumber (lc_sg tx n a) y = some (nI v, y')) ∨ (∃ x, fQ_number z = some (x, z') ∧ lcI z' 80 14 = 1 ∧ ∀ y, lc_txA y tx n → lcI y 4 2 = nI (lc_at tx n a + 1) → ∃ y', lc_kp4 y y' ∧ fR_readNumber (lc_sg tx n a) y = some (-1, y'))) := by
  have hn := hz.2.1
  obtain ⟨y0, w1, w2⟩ : ∃ y0 : lc_S, lc_txA y0 tx n ∧ lcI y0 4 2 = nI (lc_at tx n a + 1) :=
    ⟨(fun c k => if c = 2 then tx k else if k = 1 then nI n else nI (lc_at tx n a + 1), fun _ _ => 0, fun _ _ => some 2), ⟨rfl, rfl, hn, fun j _ => rfl⟩, rfl⟩
  obtain ⟨y', z', k1, k2, h⟩ := lc_number ht y0 z w1 hz hb hlt w2 h13 ha hg
  refine ⟨z', k2, ?_⟩
  rcases h with ⟨v, a', q1, q2, q3, q4, q5, q6, q7, q8⟩ | ⟨q1, x, q2, q3⟩
  · refine Or.inl ⟨v, a', q1, q2, q3, q5, q6, q8, fun y hy h2 => ?_⟩
    obtain ⟨y2, z2, m1, m2, h⟩ := lc_number ht y z hy hz hb hlt h2 h13 ha hg
    rcases h with ⟨v2, a2, r1, r2, r3, r4, r5, r6, r7, r8⟩ | ⟨r1, x, r2, r3⟩
    · have e := Option.some.inj (q8.symm.trans r8)
      have e1 := (Prod.mk.inj e).1
      have e2 := (Prod.mk.inj e).2
      rw [← e2] at r5
      have ea := (nI_eq (by omega) (by omega)).mp (r5.symm.trans q5)
      exact ⟨y2, m1, by rw [← ea]; exact r4, by rw [e1]; exact r7⟩
    · have e := Option.some.inj (q8.symm.trans r2)
      rw [← (Prod.mk.inj e).2, q6] at r3
      exact absurd r3 (by decide)
  · refine Or.inr ⟨x, q2, q3, fun y hy h2 => ?_⟩
    obtain ⟨y2, z2, m1, m2, h⟩ := lc_number ht y z hy hz hb hlt h2 h13 ha hg
    rcases h with ⟨v2, a2, r1, r2, r3, r4, r5, r6, r7, r8⟩ | ⟨r1, x, r2, r3⟩
    · have e := Option.some.inj (q2.symm.trans r8)
      rw [← (Prod.mk.inj e).2, q3] at r6
      exact absurd r6 (by decide)
    · exact ⟨y2, m1, r1⟩
/-- no digit: no number -/
theorem lc_numX {tx : Nat → Int32} {n a : Nat} (z : lc_S) (hz : lc_txQ z tx n) (hb : lcI z 80 14 = 0) (h13 : lcI z 80 13 = nI a) (ha : a ≤ n) (hg : lc_ig (lc_sg tx n a) = 0) : ∃ x z', fQ_number z = some (x, z') ∧ lc_kp9 z z' ∧ lcI z' 80 14 = 1 := by
  have hn := hz.2.1
  obtain ⟨z1, e1, e2, e3, e4⟩ := lc_pkQ hz h13 (by omega)
  have key : ∀ f (v t : Int32) (z2 : lc_S), lcI z2 80 14 = 1 → lc_txQ z2 tx n → ∀ a2, lcI z2 80 13 = nI a2 → n ≤ a2 + f → a2 < 1000 → ∃ x z', fQ_number_30 (f + 1) v t z2 = some (x, z') ∧ lc_kp9 z2 z' ∧ lcI z' 80 14 = 1 := by
    have f95 : ∀ (v t : Int32) (z2 : lc_S), lcI z2 80 14 = 1 → ∃ x z', fQ_number_95 v t z2 = some (x, z') ∧ lc_kp9 z2 z' ∧ lcI z' 80 14 = 1 := fun v t z2 h => ⟨v, lcUI z2 80 14 1, by rw [fQ_number_95, if_neg (by rw [h]; decide), fQ_number_108, fQ_number_113, lc_chk_pos (Or.inr rfl)], lc_kp9.u _, by simp only [lcI_UI, lcI_UL, lcI_UR, lcL_UI, lcL_UL, lcL_UR, lcR_UI, lcR_UL, lcR_UR, false_and, and_false, true_and, and_true, and_self, ↓reduceIte, Nat.reduceEqDiff, lc_let_eq]⟩
    intro f
    induction f with
    | zero =>
      intro v t z2 h1 h2 a2 h3 h4 h5
      rw [fQ_number_30, h2.1, h3, if_pos (nI_le (by omega) (by omega))]
      exact f95 v t z2 h1
    | succ f IH =>
      intro v t z2 h1 h2 a2 h3 h4 h5
      rw [fQ_number_30, h2.1, h3]
      by_cases hl : a2 < n
      · have c1 : lc_in (nI a2) 120 := nI_in (by omega) (by decide)
        have d1 : (nI a2).toNatClampNeg = a2 := nI_clamp (by omega)
        rw [if_neg (nI_ge hl (by omega))]
        simp only [lc_chk_pos c1, d1]
        rw [lc_bnd_eq (lc_igQ _ z2)]
        by_cases hg : lc_ig (lcI z2 81 a2) = 0
        · rw [if_pos hg]; exact f95 v t z2 h1
        · rw [if_neg hg]
          by_cases h5t : (5 : Int32) ≤ t
          · rw [if_pos h5t]; exact f95 v t z2 h1
          · rw [if_neg h5t]
            simp only [h3, lc_chk_pos c1, d1, lc_let_eq, nI_1]
            obtain ⟨x, z', g1, g2, g3⟩ := IH (10 * v + lcI z2 81 a2 - 48) (t + 1) (lcUI z2 80 13 (nI (a2 + 1))) (by rw [lcI_UI, if_neg (by omega)]; exact h1) (lc_txQ9 (lc_kp8.u _).n h2) (a2 + 1) (by simp only [lcI_UI, lcI_UL, lcI_UR, lcL_UI, lcL_UL, lcL_UR, lcR_UI, lcR_UL, lcR_UR, false_and, and_false, true_and, and_true, and_self, ↓reduceIte, Nat.reduceEqDiff, lc_let_eq]) (by omega) (by omega)
            exact ⟨x, z', g1, (lc_kp8.u _).n.tr g2, g3⟩
      · rw [if_pos (nI_le (by omega) (by omega))]
        exact f95 v t z2 h1
  obtain ⟨x, z', g1, g2, g3⟩ := key 99999 0 0 (lcUI z1 80 14 1) (by simp only [lcI_UI, lcI_UL, lcI_UR, lcL_UI, lcL_UL, lcL_UR, lcR_UI, lcR_UL, lcR_UR, false_and, and_false, true_and, and_true, and_self, ↓reduceIte, Nat.reduceEqDiff, lc_let_eq]) (lc_txQ9 (e3.n.tr (lc_kp9.u _)) hz) (lc_at tx n a) (by rw [lcI_UI, if_neg (by omega)]; exact e2) (by omega) (by have := lc_at_n (tx := tx) ha; omega)
  refine ⟨x, z', ?_, (e3.n.tr (lc_kp9.u _)).tr g2, g3⟩
  rw [fQ_number, if_pos hb, lc_bnd_eq e1, lc_bnd_eq (lc_igQ _ z1), if_pos hg, fQ_number_22, fQ_number_27, lc_chk_pos (Or.inr rfl)]
  exact g1
def lc_pS (K : Int32) (p : Nat) (z : lc_S) : lc_S := lcUI (lcUI (lcUI (lcUI (lcUI z 82 p K) 83 p 0) 87 p (-1)) 88 p 0) 89 0 (nI (p + 1))
theorem lc_pQ {z : lc_S} {p : Nat} (K : Int32) (h : lcI z 89 0 = nI p) (hp : p < 600) : fQ_part K z = some (nI p, lc_pS K p z) := by
  have c1 : lc_in (nI p) 600 := nI_in hp (by decide)
  have d1 : (nI p).toNatClampNeg = p := nI_clamp (by omega)
  have d0 : (0 : Int32).toNatClampNeg = 0 := by decide
  rw [fQ_part, lc_let_eq]
  simp only [d0, h, lc_chk_pos c1, d1, nI_1, lcI_UI, show ¬ (89 : Nat) = 82 by omega, show ¬ (89 : Nat) = 83 by omega, show ¬ (89 : Nat) = 87 by omega, show ¬ (89 : Nat) = 88 by omega, false_and, ↓reduceIte]
  rfl
theorem lc_pS_kx {K : Int32} {p d m : Nat} {z : lc_S} (hp : p < 120) : lc_kx p d m z (lc_pS K p z) := ((((lc_kx.u K (by omega)).t 0 (by omega)).t (-1) (by omega)).t 0 (by omega)).t _ (by omega)
theorem lc_vQ {z : lc_S} {s : Int32} {x2 : Int32} : ∀ (L : List lc_nm) (f : Nat), L.length < f → L.length ≤ 64 → lc_nQ z L → ∃ x3, fQ_variable_14 f s x2 (nI L.length - 1) z = fQ_variable_34 x2 x3 z ∧ ((lc_fd s L = none ∧ x3 < 0) ∨ ∃ e j, lc_fd s L = some e ∧ x3 = nI j ∧ j < 64 ∧ lcI z 95 j = e.2.2.1 ∧ lcI z 96 j = e.2.2.2 ∧ (e.2.2.2 = 0 ∨ e.2.2.2 = 1))
  | _, 0, h, _, _ => absurd h (by omega)
  | [], f + 1, _, _, _ => ⟨nI ([] : List lc_nm).length - 1, by rw [fQ_variable_14, if_pos (show nI ([] : List lc_nm).length - 1 < 0 by decide)], Or.inl ⟨rfl, by decide⟩⟩
  | x :: xs, f + 1, h, hm, hL => by
    have hl : xs.length < 64 := by have : (x :: xs).length = xs.length + 1 := rfl; omega
    have hf : xs.length < f := by have : (x :: xs).length = xs.length + 1 := rfl; omega
    have c1 : lc_in (nI xs.length) 64 := nI_in hl (by decide)
    have d1 : (nI xs.length).toNatClampNeg = xs.length := nI_clamp (by omega)
    rw [show (x :: xs).length = xs.length + 1 from rfl, nI_pred, fQ_variable_14, if_neg (nI_pos (by omega)), lc_fd]
    simp only [lc_chk_pos c1, d1, hL.1]
    by_cases hx : x.1 = s
    · refine ⟨nI xs.length, by rw [if_pos hx], Or.inr ⟨x.2, xs.length, by rw [if_pos hx], rfl, hl, hL.2.1, hL.2.2.1, hL.2.2.2.1⟩⟩
    · rw [if_neg hx, if_neg hx, lc_let_eq, show nI xs.length + -1 = nI xs.length - 1 from (Int32.sub_eq_add_neg (a := nI xs.length) (b := 1)).symm]
      exact lc_vQ xs f hf (by omega) hL.2.2.2.2
