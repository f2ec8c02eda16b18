/-! how often a variable is used: the reference -/
def lc_cap (x : Int32) : Int32 := if x ≤ 3 then x else 3
theorem lc_cap_nI {s : Nat} (h : s < 1000) : lc_cap (nI s) = nI (min s 3) := by
  unfold lc_cap
  by_cases h3 : s ≤ 3
  · rw [if_pos (show nI s ≤ 3 from nI_le (b := 3) h3 (by decide)), Nat.min_eq_left h3]
  · rw [if_neg (show ¬ nI s ≤ 3 from nI_ge (a := 3) (by omega) (by omega)), Nat.min_eq_right (by omega)]; rfl
def lc_kM (z z' : lc_S) : Prop := (∀ c k, c ≠ 103 → c ≠ 104 → lcI z' c k = lcI z c k) ∧ (∀ c k, lcL z' c k = lcL z c k) ∧ ∀ c k, lcR z' c k = lcR z c k
theorem lc_kM.rf {y : lc_S} : lc_kM y y := ⟨fun _ _ _ _ => rfl, fun _ _ => rfl, fun _ _ => rfl⟩
theorem lc_kM.tr {x y z : lc_S} (h : lc_kM x y) (g : lc_kM y z) : lc_kM x z := ⟨fun c k a b => (g.1 c k a b).trans (h.1 c k a b), fun c k => (g.2.1 c k).trans (h.2.1 c k), fun c k => (g.2.2 c k).trans (h.2.2 c k)⟩
theorem lc_kM.u {y : lc_S} (k : Nat) (v w : Int32) : lc_kM y (lcUI (lcUI y 103 k v) 104 k w) := ⟨fun c' k' a b => by rw [lcI_UI, if_neg (by omega), lcI_UI, if_neg (by omega)], fun _ _ => rfl, fun _ _ => rfl⟩
theorem lc_kM.sz {x y : lc_S} (h : lc_kM x y) : lc_sz x y := fun c k a b => h.1 c k (by omega) (by omega)
theorem lc_271 {K : Int32 → Int32 → Int32 → Int32 → Int32 → lc_S → Option (Int32 × lc_S)} {x2 x3 x4 x5 x10 x11 : Int32} {p : Nat} {z : lc_S} (hp : p < 120) : fQ_isUsedOnce_271 K x2 x3 x4 x5 (nI p) x10 x11 z = K x2 x3 x4 x5 (nI p - 1) (lcUI (lcUI z 103 p (lc_cap x10)) 104 p (lc_cap x11)) := by
  have c1 : lc_in (nI p) 120 := nI_in hp (by decide)
  have d1 : (nI p).toNatClampNeg = p := nI_clamp (by omega)
  unfold lc_cap
  rw [fQ_isUsedOnce_271]
  by_cases h1 : x10 ≤ 3
  · rw [if_pos h1, if_pos h1, fQ_isUsedOnce_289, lc_chk_pos c1]
    by_cases h2 : x11 ≤ 3
    · rw [if_pos h2, if_pos h2, fQ_isUsedOnce_308, lc_chk_pos c1, d1, lc_let_eq, lc_m1]
    · rw [if_neg h2, if_neg h2, fQ_isUsedOnce_308, lc_chk_pos c1, d1, lc_let_eq, lc_m1]
  · rw [if_neg h1, if_neg h1, fQ_isUsedOnce_289, lc_chk_pos c1]
    by_cases h2 : x11 ≤ 3
    · rw [if_pos h2, if_pos h2, fQ_isUsedOnce_308, lc_chk_pos c1, d1, lc_let_eq, lc_m1]
    · rw [if_neg h2, if_neg h2, fQ_isUsedOnce_308, lc_chk_pos c1, d1, lc_let_eq, lc_m1]
/-- one part more: by the number of parts -/
theorem lc_mStep {z : lc_S} {base p sc : Nat} {B O S pn : Int32} (hb : base ≤ 480) (hp : p < 120) (hs : sc ≤ p) (hS : lcI z 82 (base + p) = S) (hpo : fQ_partsOf S z = some (pn, z)) (f : Nat) : fQ_isUsedOnce_20 (f + 1) B O (nI sc) (nI base) (nI p) z = fQ_isUsedOnce_84 (fQ_isUsedOnce_20 f) B O (nI sc) (nI base) (nI p) (nI (base + p)) pn (if S = 120 ∧ lcI z 87 (base + p) = B ∧ lcI z 88 (base + p) = O then 1 else 0) z := by
  have c1 : lc_in (nI (base + p)) 600 := nI_in (by omega) (by decide)
  have d1 : (nI (base + p)).toNatClampNeg = base + p := nI_clamp (by omega)
  have n1 : ¬ nI p < nI sc := nI_nlt hs (by omega)
  rw [fQ_isUsedOnce_20, if_neg n1, lc_let_eq, nI_add]
  simp only [lc_chk_pos c1, d1, lc_let_eq, hS]
  rw [lc_bnd_eq hpo]
  by_cases a1 : S = 120
  · by_cases a2 : lcI z 87 (base + p) = B
    · by_cases a3 : lcI z 88 (base + p) = O
      · rw [if_pos a1, if_pos a2, if_pos a3, if_pos ⟨a1, a2, a3⟩]
      · rw [if_pos a1, if_pos a2, if_neg a3, if_neg (fun h => a3 h.2.2)]; rfl
    · rw [if_pos a1, if_neg a2, if_neg (fun h => a2 h.2.1)]; rfl
  · rw [if_neg a1, if_neg (fun h => a1 h.1)]; rfl
theorem lc_m0 {K : Int32 → Int32 → Int32 → Int32 → Int32 → lc_S → Option (Int32 × lc_S)} {z : lc_S} {B O x4 x5 t0 q : Int32} {p : Nat} (hp : p < 120) : fQ_isUsedOnce_84 K B O x4 x5 (nI p) q 0 t0 z = K B O x4 x5 (nI p - 1) (lcUI (lcUI z 103 p (lc_cap t0)) 104 p (lc_cap t0)) := by
  rw [fQ_isUsedOnce_84, if_pos (by decide), fQ_isUsedOnce_129, if_neg (by decide), fQ_isUsedOnce_169, if_neg (by decide), lc_271 hp]
theorem lc_m1p {K : Int32 → Int32 → Int32 → Int32 → Int32 → lc_S → Option (Int32 × lc_S)} {z : lc_S} {B O x4 x5 t0 : Int32} {p q a : Nat} (hp : p < 120) (hq : q < 600) (h84 : lcI z 84 q = nI a) (ha : a < 120) : fQ_isUsedOnce_84 K B O x4 x5 (nI p) (nI q) 1 t0 z = K B O x4 x5 (nI p - 1) (lcUI (lcUI z 103 p (lc_cap (t0 + lcI z 103 a))) 104 p (lc_cap (t0 + lcI z 104 a))) := by
  have c1 : lc_in (nI q) 600 := nI_in hq (by decide)
  have d1 : (nI q).toNatClampNeg = q := nI_clamp (by omega)
  have c2 : lc_in (nI a) 120 := nI_in ha (by decide)
  have d2 : (nI a).toNatClampNeg = a := nI_clamp (by omega)
  rw [fQ_isUsedOnce_84, if_neg (by decide)]
  simp only [lc_chk_pos c1, d1, h84, lc_chk_pos c2, d2, lc_let_eq]
  rw [fQ_isUsedOnce_129, if_neg (by decide), fQ_isUsedOnce_169, if_neg (by decide), lc_271 hp]
theorem lc_m2p {K : Int32 → Int32 → Int32 → Int32 → Int32 → lc_S → Option (Int32 × lc_S)} {z : lc_S} {B O x4 x5 t0 : Int32} {p q a b : Nat} (hp : p < 120) (hq : q < 600) (h84 : lcI z 84 q = nI a) (ha : a < 120) (h85 : lcI z 85 q = nI b) (hb : b < 120) : fQ_isUsedOnce_84 K B O x4 x5 (nI p) (nI q) 2 t0 z = K B O x4 x5 (nI p - 1) (lcUI (lcUI z 103 p (lc_cap (t0 + lcI z 103 a + lcI z 103 b))) 104 p (lc_cap (t0 + lcI z 104 a + lcI z 104 b))) := by
  have c1 : lc_in (nI q) 600 := nI_in hq (by decide)
  have d1 : (nI q).toNatClampNeg = q := nI_clamp (by omega)
  have c2 : lc_in (nI a) 120 := nI_in ha (by decide)
  have d2 : (nI a).toNatClampNeg = a := nI_clamp (by omega)
  have c3 : lc_in (nI b) 120 := nI_in hb (by decide)
  have d3 : (nI b).toNatClampNeg = b := nI_clamp (by omega)
  rw [fQ_isUsedOnce_84, if_neg (by decide)]
  simp only [lc_chk_pos c1, d1, h84, lc_chk_pos c2, d2, lc_let_eq]
  rw [fQ_isUsedOnce_129, if_pos rfl]
  simp only [lc_chk_pos c1, d1, h85, lc_chk_pos c3, d3, lc_let_eq]
  rw [fQ_isUsedOnce_169, if_neg (by decide), lc_271 hp]
def lc_mn (x y : Int32) : Int32 := if y ≤ x then y else x
def lc_mx (x y : Int32) : Int32 := if x ≤ y then y else x
theorem lc_m3p {K : Int32 → Int32 → Int32 → Int32 → Int32 → lc_S → Option (Int32 × lc_S)} {z : lc_S} {B O x4 x5 t0 : Int32} {p q a b c : Nat} (hp : p < 120) (hq : q < 600) (h84 : lcI z 84 q = nI a) (ha : a < 120) (h85 : lcI z 85 q = nI b) (hb : b < 120) (h86 : lcI z 86 q = nI c) (hc : c < 120) : fQ_isUsedOnce_84 K B O x4 x5 (nI p) (nI q) 3 t0 z = K B O x4 x5 (nI p - 1) (lcUI (lcUI z 103 p (lc_cap (t0 + lcI z 103 a + lc_mn (lcI z 103 b) (lcI z 103 c)))) 104 p (lc_cap (t0 + lcI z 104 a + lc_mx (lcI z 104 b) (lcI z 104 c)))) := by
  have c1 : lc_in (nI q) 600 := nI_in hq (by decide)
  have d1 : (nI q).toNatClampNeg = q := nI_clamp (by omega)
  have c2 : lc_in (nI a) 120 := nI_in ha (by decide)
  have d2 : (nI a).toNatClampNeg = a := nI_clamp (by omega)
  have c3 : lc_in (nI b) 120 := nI_in hb (by decide)
  have d3 : (nI b).toNatClampNeg = b := nI_clamp (by omega)
  have c4 : lc_in (nI c) 120 := nI_in hc (by decide)
  have d4 : (nI c).toNatClampNeg = c := nI_clamp (by omega)
  have h229 : ∀ x11 t1 x10, fQ_isUsedOnce_229 K B O x4 x5 (nI p) x11 (nI b) (nI c) x10 t1 z = K B O x4 x5 (nI p - 1) (lcUI (lcUI z 103 p (lc_cap (x10 + t1))) 104 p (lc_cap (x11 + lc_mx (lcI z 104 b) (lcI z 104 c)))) := fun x11 t1 x10 => by
    rw [fQ_isUsedOnce_229, lc_let_eq]
    simp only [lc_chk_pos c3, lc_chk_pos c4, d3, d4]
    unfold lc_mx
    by_cases hh : lcI z 104 b ≤ lcI z 104 c
    · rw [if_pos hh, if_pos hh, fQ_isUsedOnce_268, lc_let_eq, lc_271 hp]
    · rw [if_neg hh, if_neg hh, fQ_isUsedOnce_268, lc_let_eq, lc_271 hp]
  rw [fQ_isUsedOnce_84, if_neg (by decide)]
  simp only [lc_chk_pos c1, d1, h84, lc_chk_pos c2, d2, lc_let_eq]
  rw [fQ_isUsedOnce_129, if_neg (by decide), fQ_isUsedOnce_169, if_pos rfl]
  simp only [lc_chk_pos c1, d1, h85, h86, lc_let_eq, lc_chk_pos c3, lc_chk_pos c4, d3, d4, h229]
  unfold lc_mn
  by_cases hh : lcI z 103 c ≤ lcI z 103 b
  · rw [if_pos hh, if_pos hh]
  · rw [if_neg hh, if_neg hh]
/-- what is counted, as fewest and most -/
def lc_urel (r : Option Nat) (fw ms : Nat) : Prop := (∃ u, r = some u ∧ fw = min u 3 ∧ ms = min u 3) ∨ (r = none ∧ (fw < ms ∨ fw = 3))
/-- different names, different binders -/
def lc_dis (env : List lc_en) : Prop := ∀ e ∈ env, ∀ e' ∈ env, (e.1 = e'.1 ∧ e.2.1 = e'.2.1) ↔ (e.2.2.1 = e'.2.2.1 ∧ e.2.2.2 = e'.2.2.2)
theorem lc_lk_mem {b pt : Nat} {B O : Int32} : ∀ (env : List lc_en), lc_lk B O env = some (b, pt) → (b, pt, B, O) ∈ env
  | [], h => by cases h
  | e :: es, h => by
    rw [lc_lk] at h
    by_cases c : e.2.2.1 = B ∧ e.2.2.2 = O
    · rw [if_pos c] at h
      obtain ⟨h1, h2⟩ := Prod.mk.inj (Option.some.inj h)
      rw [← h1, ← h2, ← c.1, ← c.2]
      exact List.mem_cons_self
    · rw [if_neg c] at h
      exact List.mem_cons_of_mem _ (lc_lk_mem es h)
theorem lc_eo_by {y z : lc_S} {o base : Nat} : ∀ (env : List lc_en) (L M : Nat), lc_eo y z o base env L M → ∀ e ∈ env, e.2.2.1 = -1 ∨ ∃ pb, e.2.2.1 = nI pb ∧ pb < M ∧ pb < 119
  | [], _, _, h, _, _ => absurd h id
  | [e0], L, M, h, e, he => by
    rw [lc_eo] at h
    rw [List.mem_singleton.mp he, h]
    exact Or.inl rfl
  | e0 :: e1 :: es, L, M, h, e, he => by
    rw [lc_eo] at h
    rcases h with ⟨pb, a, D, lo, hi, b0, rfl, h1, h2, h3, h4, h5, h6, h7, h8, h9, h10⟩ | ⟨pb, a, D, lo, hi, b0, rfl, rfl, h1, h2, h3, h4, h5, h6, h7, h8, h9, h10⟩
    · have hl := lc_R_lo h8
      rcases List.mem_cons.mp he with rfl | he
      · exact Or.inr ⟨pb, rfl, by omega, h1⟩
      · rcases lc_eo_by (e1 :: es) lo pb h9 e he with g | ⟨pb', g1, g2, g3⟩
        · exact Or.inl g
        · exact Or.inr ⟨pb', g1, by omega, g3⟩
    · have hl := lc_R_lo h8
      rcases List.mem_cons.mp he with rfl | he
      · exact Or.inr ⟨pb, rfl, by omega, h1⟩
      · rcases List.mem_cons.mp he with rfl | he
        · exact Or.inr ⟨pb, rfl, by omega, h1⟩
        · rcases lc_eo_by es lo pb h9 e he with g | ⟨pb', g1, g2, g3⟩
          · exact Or.inl g
          · exact Or.inr ⟨pb', g1, by omega, g3⟩
theorem lc_dis_let {y z : lc_S} {o base L p b : Nat} {env : List lc_en} (he : lc_eo y z o base env L p) (hp : p < 120) (hd : lc_dis env) (hf : ∀ e ∈ env, e.1 < b) : lc_dis ((b, 0, nI p, 0) :: env) := by
  have ne : ∀ e ∈ env, e.2.2.1 ≠ nI p := fun e h => by
    rcases lc_eo_by env L p he e h with g | ⟨pb, g1, g2, g3⟩
    · rw [g]; exact lc_nI_m1 (by omega)
    · rw [g1]; exact fun q => by have := (nI_eq (by omega) (by omega)).mp q; omega
  intro e h e' h'
  rcases List.mem_cons.mp h with rfl | h
  · rcases List.mem_cons.mp h' with rfl | h'
    · exact ⟨fun _ => ⟨rfl, rfl⟩, fun _ => ⟨rfl, rfl⟩⟩
    · refine ⟨fun q => ?_, fun q => absurd q.1.symm (ne e' h')⟩
      have := hf e' h'
      have q1 : b = e'.1 := q.1
      omega
  · rcases List.mem_cons.mp h' with rfl | h'
    · refine ⟨fun q => ?_, fun q => absurd q.1 (ne e h)⟩
      have := hf e h
      have q1 : e.1 = b := q.1
      omega
    · exact hd e h e' h'
theorem lc_dis_split {y z : lc_S} {o base L p b : Nat} {env : List lc_en} (he : lc_eo y z o base env L p) (hp : p < 120) (hd : lc_dis env) (hf : ∀ e ∈ env, e.1 < b) : lc_dis ((b, 2, nI p, 1) :: (b, 1, nI p, 0) :: env) := by
  have ne : ∀ e ∈ env, e.2.2.1 ≠ nI p := fun e h => by
    rcases lc_eo_by env L p he e h with g | ⟨pb, g1, g2, g3⟩
    · rw [g]; exact lc_nI_m1 (by omega)
    · rw [g1]; exact fun q => by have := (nI_eq (by omega) (by omega)).mp q; omega
  have new : ∀ e ∈ ((b, 2, nI p, 1) :: (b, 1, nI p, 0) :: env : List lc_en), e = (b, 2, nI p, 1) ∨ e = (b, 1, nI p, 0) ∨ e ∈ env := fun e h => by
    rcases List.mem_cons.mp h with h | h
    · exact Or.inl h
    · rcases List.mem_cons.mp h with h | h
      · exact Or.inr (Or.inl h)
      · exact Or.inr (Or.inr h)
  intro e h e' h'
  rcases new e h with rfl | rfl | h
  · rcases new e' h' with rfl | rfl | h'
    · exact ⟨fun _ => ⟨rfl, rfl⟩, fun _ => ⟨rfl, rfl⟩⟩
    · exact ⟨fun q => absurd q.2 (show ¬ (2 : Nat) = 1 by decide), fun q => absurd q.2 (show ¬ (1 : Int32) = 0 by decide)⟩
    · refine ⟨fun q => ?_, fun q => absurd q.1.symm (ne e' h')⟩
      have := hf e' h'
      have q1 : b = e'.1 := q.1
      omega
  · rcases new e' h' with rfl | rfl | h'
    · exact ⟨fun q => absurd q.2 (show ¬ (1 : Nat) = 2 by decide), fun q => absurd q.2 (show ¬ (0 : Int32) = 1 by decide)⟩
    · exact ⟨fun _ => ⟨rfl, rfl⟩, fun _ => ⟨rfl, rfl⟩⟩
    · refine ⟨fun q => ?_, fun q => absurd q.1.symm (ne e' h')⟩
      have := hf e' h'
      have q1 : b = e'.1 := q.1
      omega
  · rcases new e' h' with rfl | rfl | h'
    · refine ⟨fun q => ?_, fun q => absurd q.1 (ne e h)⟩
      have := hf e h
      have q1 : e.1 = b := q.1
      omega
    · refine ⟨fun q => ?_, fun q => absurd q.1 (ne e h)⟩
      have := hf e h
      have q1 : e.1 = b := q.1
      omega
    · exact hd e h e' h'
