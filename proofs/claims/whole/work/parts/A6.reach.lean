/-! procedures that a run may come to: sets of four as numbers below 16 -/
theorem lc_bitI : ∀ M, M < 16 → ∀ j, j < 4 → ((nI M >>> (nI j &&& 31)) &&& 1) = if M.testBit j then 1 else 0 := by decide +kernel
theorem lc_orI : ∀ a, a < 16 → ∀ b, b < 16 → nI a ||| nI b = nI (a ||| b) := by decide +kernel
theorem lc_shlI : ∀ c, c < 4 → (1 : Int32) <<< (nI c &&& 31) = nI (2 ^ c) := by decide +kernel
theorem lc_or16 {a b : Nat} (ha : a < 16) (hb : b < 16) : a ||| b < 16 := Nat.or_lt_two_pow (n := 4) ha hb
theorem lc_bits {a b : Nat} (ha : a < 16) (hb : b < 16) (h : ∀ c, c < 4 → a.testBit c = b.testBit c) : a = b := by
  apply Nat.eq_of_testBit_eq
  intro i
  by_cases hi : i < 4
  · exact h i hi
  · have e : ∀ x, x < 16 → x.testBit i = false := fun x hx => Nat.testBit_lt_two_pow (Nat.lt_of_lt_of_le hx (show 2 ^ 4 ≤ 2 ^ i from Nat.pow_le_pow_right (by decide) (by omega)))
    rw [e a ha, e b hb]
def lc_sub (a b : Nat) : Prop := a ||| b = b
theorem lc_sub.rf {a : Nat} : lc_sub a a := Nat.or_self a
theorem lc_sub.tr {a b c : Nat} (h : lc_sub a b) (g : lc_sub b c) : lc_sub a c := by
  unfold lc_sub at *
  rw [← g, ← Nat.or_assoc, h]
theorem lc_sub.as {a b : Nat} (h : lc_sub a b) (g : lc_sub b a) : a = b := by
  unfold lc_sub at *
  rw [← g, Nat.or_comm, h]
theorem lc_sub.l {a b : Nat} : lc_sub a (a ||| b) := by unfold lc_sub; rw [← Nat.or_assoc, Nat.or_self]
theorem lc_sub.or {a b c : Nat} (h : lc_sub a c) (g : lc_sub b c) : lc_sub (a ||| b) c := by
  unfold lc_sub at *
  rw [Nat.or_assoc, g, h]
theorem lc_sub.bit {a b j : Nat} (h : lc_sub a b) (hj : a.testBit j = true) : b.testBit j = true := by
  unfold lc_sub at h
  rw [← h, Nat.testBit_or, hj]; rfl
theorem lc_sub_of {a b : Nat} (ha : a < 16) (hb : b < 16) (h : ∀ c, c < 4 → a.testBit c = true → b.testBit c = true) : lc_sub a b :=
  lc_bits (lc_or16 ha hb) hb (fun c hc => by
    rw [Nat.testBit_or]
    cases e : a.testBit c with
    | false => rw [Bool.false_or]
    | true => rw [h c hc e]; rfl)
def lc_pop (M : Nat) : Nat := (if M.testBit 0 then 1 else 0) + (if M.testBit 1 then 1 else 0) + (if M.testBit 2 then 1 else 0) + if M.testBit 3 then 1 else 0
theorem lc_pop_lt : ∀ a, a < 16 → ∀ b, b < 16 → a ||| b = b → a ≠ b → lc_pop a < lc_pop b := by decide +kernel
theorem lc_pop4 : ∀ a, a < 16 → lc_pop a ≤ 4 := by decide +kernel
theorem lc_pop1 : ∀ k, k < 4 → lc_pop (2 ^ k) = 1 := by decide +kernel
theorem lc_pow16 : ∀ k, k < 4 → 2 ^ k < 16 := by decide +kernel
/-- what is called by j joins what is reached -/
def lc_in1 (g : Nat → Nat) (M j : Nat) : Nat := if M.testBit j then M ||| g j else M
def lc_rd (g : Nat → Nat) (M : Nat) : Nat := lc_in1 g (lc_in1 g (lc_in1 g (lc_in1 g M 0) 1) 2) 3
def lc_rc (g : Nat → Nat) (k : Nat) : Nat := lc_rd g (lc_rd g (lc_rd g (lc_rd g (2 ^ k))))
theorem lc_in1_sub {g : Nat → Nat} {M j : Nat} : lc_sub M (lc_in1 g M j) := by
  unfold lc_in1
  split
  · exact lc_sub.l
  · exact lc_sub.rf
theorem lc_in1_16 {g : Nat → Nat} {M j : Nat} (hM : M < 16) (hg : g j < 16) : lc_in1 g M j < 16 := by
  unfold lc_in1
  split
  · exact lc_or16 hM hg
  · exact hM
theorem lc_rd_sub {g : Nat → Nat} {M : Nat} : lc_sub M (lc_rd g M) := lc_in1_sub.tr (lc_in1_sub.tr (lc_in1_sub.tr lc_in1_sub))
theorem lc_rd_16 {g : Nat → Nat} {M : Nat} (hM : M < 16) (hg : ∀ j, j < 4 → g j < 16) : lc_rd g M < 16 := lc_in1_16 (lc_in1_16 (lc_in1_16 (lc_in1_16 hM (hg 0 (by decide))) (hg 1 (by decide))) (hg 2 (by decide))) (hg 3 (by decide))
def lc_cld (g : Nat → Nat) (N : Nat) : Prop := ∀ j, j < 4 → N.testBit j = true → lc_sub (g j) N
theorem lc_in1_eq {g : Nat → Nat} {M j : Nat} (h : lc_in1 g M j = M) (hj : M.testBit j = true) : lc_sub (g j) M := by
  unfold lc_in1 at h
  rw [if_pos hj] at h
  unfold lc_sub
  rw [Nat.or_comm]; exact h
theorem lc_rd_cld {g : Nat → Nat} {M : Nat} (h : lc_rd g M = M) : lc_cld g M := by
  have s0 : lc_sub M (lc_in1 g M 0) := lc_in1_sub
  have s1 : lc_sub (lc_in1 g M 0) (lc_in1 g (lc_in1 g M 0) 1) := lc_in1_sub
  have s2 : lc_sub (lc_in1 g (lc_in1 g M 0) 1) (lc_in1 g (lc_in1 g (lc_in1 g M 0) 1) 2) := lc_in1_sub
  have s3 : lc_sub (lc_in1 g (lc_in1 g (lc_in1 g M 0) 1) 2) M := by
    have : lc_sub (lc_in1 g (lc_in1 g (lc_in1 g M 0) 1) 2) (lc_rd g M) := lc_in1_sub
    rw [h] at this
    exact this
  have e0 : lc_in1 g M 0 = M := (s0.as (s1.tr (s2.tr s3))).symm
  rw [e0] at s1 s2 s3
  have e1 : lc_in1 g M 1 = M := (s1.as (s2.tr s3)).symm
  rw [e1] at s2 s3
  have e2 : lc_in1 g M 2 = M := (s2.as s3).symm
  have e3 : lc_in1 g M 3 = M := by
    have := h
    unfold lc_rd at this
    rw [e0, e1, e2] at this
    exact this
  intro j hj hb
  obtain rfl | rfl | rfl | rfl : j = 0 ∨ j = 1 ∨ j = 2 ∨ j = 3 := by omega
  · exact lc_in1_eq e0 hb
  · exact lc_in1_eq e1 hb
  · exact lc_in1_eq e2 hb
  · exact lc_in1_eq e3 hb
theorem lc_rc_cld {g : Nat → Nat} {k : Nat} (hk : k < 4) (hg : ∀ j, j < 4 → g j < 16) : lc_cld g (lc_rc g k) := by
  have p0 := lc_pow16 k hk
  have p1 := lc_rd_16 p0 hg
  have p2 := lc_rd_16 p1 hg
  have p3 := lc_rd_16 p2 hg
  have p4 := lc_rd_16 p3 hg
  unfold lc_rc
  by_cases h1 : lc_rd g (2 ^ k) = 2 ^ k
  · rw [h1, h1, h1, h1]; exact lc_rd_cld h1
  · by_cases h2 : lc_rd g (lc_rd g (2 ^ k)) = lc_rd g (2 ^ k)
    · rw [h2, h2, h2]; exact lc_rd_cld h2
    · by_cases h3 : lc_rd g (lc_rd g (lc_rd g (2 ^ k))) = lc_rd g (lc_rd g (2 ^ k))
      · rw [h3, h3]; exact lc_rd_cld h3
      · by_cases h4 : lc_rd g (lc_rd g (lc_rd g (lc_rd g (2 ^ k)))) = lc_rd g (lc_rd g (lc_rd g (2 ^ k)))
        · rw [h4]; exact lc_rd_cld h4
        · exfalso
          have q1 := lc_pop_lt _ p0 _ p1 lc_rd_sub (fun e => h1 e.symm)
          have q2 := lc_pop_lt _ p1 _ p2 lc_rd_sub (fun e => h2 e.symm)
          have q3 := lc_pop_lt _ p2 _ p3 lc_rd_sub (fun e => h3 e.symm)
          have q4 := lc_pop_lt _ p3 _ p4 lc_rd_sub (fun e => h4 e.symm)
          have q0 := lc_pop1 k hk
          have q5 := lc_pop4 _ p4
          omega
theorem lc_rc_min {g : Nat → Nat} {k N : Nat} (hk : lc_sub (2 ^ k) N) (hN : lc_cld g N) : lc_sub (lc_rc g k) N := by
  have s1 : ∀ M j, j < 4 → lc_sub M N → lc_sub (lc_in1 g M j) N := fun M j hj h => by
    unfold lc_in1
    split
    · rename_i hb
      exact h.or (hN j hj (h.bit hb))
    · exact h
  have s4 : ∀ M, lc_sub M N → lc_sub (lc_rd g M) N := fun M h => s1 _ 3 (by decide) (s1 _ 2 (by decide) (s1 _ 1 (by decide) (s1 _ 0 (by decide) h)))
  exact s4 _ (s4 _ (s4 _ (s4 _ hk)))
theorem lc_rc_k {g : Nat → Nat} {k : Nat} : lc_sub (2 ^ k) (lc_rc g k) := lc_rd_sub.tr (lc_rd_sub.tr (lc_rd_sub.tr lc_rd_sub))
theorem lc_rc_16 {g : Nat → Nat} {k : Nat} (hk : k < 4) (hg : ∀ j, j < 4 → g j < 16) : lc_rc g k < 16 := lc_rd_16 (lc_rd_16 (lc_rd_16 (lc_rd_16 (lc_pow16 k hk) hg) hg) hg) hg
/-- what is known of calls: the class's bits -/
def lc_gc (y : lc_S) (ok : Nat → Nat) (g : Nat → Nat) : Prop := ∀ j, j < 4 → lcR y 3 j = some (ok j) ∧ lc_sh (ok j) = (0, 1, 0) ∧ g j < 16 ∧ (lcI y (ok j) 0 = 0 → g j = 0) ∧ (lcI y (ok j) 0 ≠ 0 → lcI y (ok j) 1 = nI (g j))
theorem lc_hasB {y : lc_S} {M j : Nat} (hM : M < 16) (hj : j < 4) : fA_hasBit (nI M) (nI j) y = some (if M.testBit j then 1 else 0, y) := by
  rw [fA_hasBit, lc_bitI M hM j hj]
  cases M.testBit j with
  | true => rfl
  | false => rfl
theorem lc_reach14 {y : lc_S} {ok g : Nat → Nat} (hg : lc_gc y ok g) (K : Int32 → Int32 → lc_S → Option (Int32 × lc_S)) (x3 : Int32) {M j f : Nat} (hM : M < 16) (hj : j < 4) : fA_reachedFrom_14 K (f + 1) (nI M) x3 (nI j) y = fA_reachedFrom_14 K f (nI (lc_in1 g M j)) x3 (nI (j + 1)) y := by
  obtain ⟨p1, p2, p3, p4, p5⟩ := hg j hj
  have c1 : lc_in (nI j) 4 := nI_in hj (by decide)
  have d1 : (nI j).toNatClampNeg = j := nI_clamp (by omega)
  rw [fA_reachedFrom_14, if_neg (show ¬ (4 : Int32) ≤ nI j from nI_ge (b := 4) hj (by decide)), lc_bnd_eq (lc_hasB hM hj)]
  unfold lc_in1
  by_cases hb : M.testBit j = true
  · rw [if_pos hb, if_pos hb, if_neg (by decide), lc_chk_pos c1, lc_bnr_eq (by rw [d1]; exact p1), lc_chk_pos p2]
    by_cases h0 : lcI y (ok j) 0 = 0
    · rw [if_pos h0, p4 h0, Nat.or_zero, fA_reachedFrom_55, lc_let_eq, nI_1]
    · rw [if_neg h0, lc_chk_pos c1, lc_bnr_eq (by rw [d1]; exact p1), lc_chk_pos p2, lc_let_eq, p5 h0, lc_orI M hM (g j) p3, fA_reachedFrom_55, lc_let_eq, nI_1]
  · rw [if_neg hb, if_neg hb, if_pos rfl, fA_reachedFrom_55, lc_let_eq, nI_1]
theorem lc_reachR {y : lc_S} {ok g : Nat → Nat} (hg : lc_gc y ok g) (K : Int32 → Int32 → lc_S → Option (Int32 × lc_S)) {M r f : Nat} (hM : M < 16) : fA_reachedFrom_14 K (f + 5) (nI M) (nI r) 0 y = K (nI (lc_rd g M)) (nI (r + 1)) y := by
  have q1 := lc_in1_16 (g := g) hM (hg 0 (by decide)).2.2.1
  have q2 := lc_in1_16 (g := g) q1 (hg 1 (by decide)).2.2.1
  have q3 := lc_in1_16 (g := g) q2 (hg 2 (by decide)).2.2.1
  have e0 : fA_reachedFrom_14 K (f + 5) (nI M) (nI r) 0 y = fA_reachedFrom_14 K (f + 4) (nI (lc_in1 g M 0)) (nI r) (nI 1) y := lc_reach14 (j := 0) (f := f + 4) hg K (nI r) hM (by decide)
  rw [e0, lc_reach14 hg K (nI r) q1 (by decide), lc_reach14 hg K (nI r) q2 (by decide), lc_reach14 hg K (nI r) q3 (by decide), fA_reachedFrom_14, if_pos (by decide), lc_let_eq, nI_1]
  rfl
theorem lc_reachA {y : lc_S} {ok g : Nat → Nat} {k : Nat} (hk : k < 4) (hg : lc_gc y ok g) : fA_reachedFrom (nI k) y = some (nI (lc_rc g k), y) := by
  have hg' : ∀ j, j < 4 → g j < 16 := fun j hj => (hg j hj).2.2.1
  have p0 := lc_pow16 k hk
  have p1 := lc_rd_16 p0 hg'
  have p2 := lc_rd_16 p1 hg'
  have p3 := lc_rd_16 p2 hg'
  obtain ⟨f, hf⟩ : ∃ f, lc_FU = f + 5 := ⟨lc_FU - 5, by unfold lc_FU; omega⟩
  have rnd : ∀ (n M r : Nat), M < 16 → r < 4 → fA_reachedFrom_6 (n + 1) (nI M) (nI r) y = fA_reachedFrom_6 n (nI (lc_rd g M)) (nI (r + 1)) y := fun n M r hM hr => by
    rw [fA_reachedFrom_6, if_neg (show ¬ (4 : Int32) ≤ nI r from nI_ge (b := 4) hr (by decide)), hf]
    exact lc_reachR hg _ hM
  rw [fA_reachedFrom, lc_let_eq, lc_shlI k hk]
  have e : fA_reachedFrom_6 lc_FU (nI (2 ^ k)) 0 y = fA_reachedFrom_6 (f + 4 + 1) (nI (2 ^ k)) (nI 0) y := by rw [hf]; rfl
  rw [e, rnd _ _ 0 p0 (by decide), rnd _ _ 1 p1 (by decide), rnd _ _ 2 p2 (by decide), rnd _ _ 3 p3 (by decide), fA_reachedFrom_6, if_pos (by decide)]
  rfl
