/-! how often a variable is used: the reference over a body -/
theorem lc_urel_sum {r1 r2 : Option Nat} {f1 m1 f2 m2 : Nat} (h1 : lc_urel r1 f1 m1) (h2 : lc_urel r2 f2 m2) (l1 : f1 ≤ m1) (l2 : f2 ≤ m2) (k1 : m1 ≤ 3) (k2 : m2 ≤ 3) : lc_urel (r1.bind (fun e => r2.bind (fun f => some (e + f)))) (min (f1 + f2) 3) (min (m1 + m2) 3) := by
  rcases h1 with ⟨u, rfl, a1, a2⟩ | ⟨rfl, a⟩
  · rcases h2 with ⟨v, rfl, b1, b2⟩ | ⟨rfl, b⟩
    · exact Or.inl ⟨u + v, rfl, by omega, by omega⟩
    · exact Or.inr ⟨rfl, by omega⟩
  · exact Or.inr ⟨rfl, by omega⟩
theorem lc_urel_cho {r1 r2 r3 : Option Nat} {f1 m1 f2 m2 f3 m3 : Nat} (h1 : lc_urel r1 f1 m1) (h2 : lc_urel r2 f2 m2) (h3 : lc_urel r3 f3 m3) (l1 : f1 ≤ m1) (l2 : f2 ≤ m2) (l3 : f3 ≤ m3) (k1 : m1 ≤ 3) (k2 : m2 ≤ 3) (k3 : m3 ≤ 3) : lc_urel (r1.bind (fun e => r2.bind (fun f => r3.bind (fun g => if f = g then some (e + f) else none)))) (min (f1 + min f2 f3) 3) (min (m1 + max m2 m3) 3) := by
  rcases h1 with ⟨u, rfl, a1, a2⟩ | ⟨rfl, a⟩
  · rcases h2 with ⟨v, rfl, b1, b2⟩ | ⟨rfl, b⟩
    · rcases h3 with ⟨w, rfl, c1, c2⟩ | ⟨rfl, c⟩
      · by_cases hvw : v = w
        · subst hvw
          exact Or.inl ⟨u + v, by show (if v = v then _ else _) = _; rw [if_pos rfl], by omega, by omega⟩
        · exact Or.inr ⟨by show (if v = w then _ else _) = _; rw [if_neg hvw], by omega⟩
      · exact Or.inr ⟨rfl, by omega⟩
    · exact Or.inr ⟨rfl, by omega⟩
  · exact Or.inr ⟨rfl, by omega⟩
theorem lc_mn_nI {a b : Nat} (ha : a < 1000) (hb : b < 1000) : lc_mn (nI a) (nI b) = nI (min a b) := by
  unfold lc_mn
  by_cases h : b ≤ a
  · rw [if_pos (nI_le h (by omega)), Nat.min_eq_right h]
  · rw [if_neg (nI_ge (by omega) (by omega)), Nat.min_eq_left (by omega)]
theorem lc_mx_nI {a b : Nat} (ha : a < 1000) (hb : b < 1000) : lc_mx (nI a) (nI b) = nI (max a b) := by
  unfold lc_mx
  by_cases h : a ≤ b
  · rw [if_pos (nI_le h (by omega)), Nat.max_eq_right h]
  · rw [if_neg (nI_ge (by omega) (by omega)), Nat.max_eq_left (by omega)]
theorem lc_partsQ0 {S : Int32} (h : S = 48 ∨ S = 120) (z : lc_S) : fQ_partsOf S z = some (0, z) := by
  rcases h with h | h <;> subst h <;> rfl
/-- every step goes through -/
theorem lc_mTot {y0 z0 z : lc_S} {o base cnt i p sc : Nat} {B O : Int32} (hb : base ≤ 480) (hpp : lc_pp2 y0 z0 o base cnt i p) (sz : lc_sz z0 z) (hs : sc ≤ p) : ∃ z', (∀ f, fQ_isUsedOnce_20 (f + 1) B O (nI sc) (nI base) (nI p) z = fQ_isUsedOnce_20 f B O (nI sc) (nI base) (nI p - 1) z') ∧ lc_kM z z' := by
  obtain ⟨D, lo, hi, env, hR, he, hic, hhc⟩ := hpp
  obtain ⟨D, rfl⟩ : ∃ E, D = E + 1 := ⟨D - 1, by have := lc_R_D hR; omega⟩
  rw [lc_R] at hR
  obtain ⟨g1, g2, g3, g4, h⟩ := hR
  have hp : p < 120 := by omega
  have es : ∀ c, 82 ≤ c → c ≤ 91 → lcI z c (base + p) = lcI z0 c (base + p) := fun c a b => sz c _ a b
  rcases h with ⟨r1, r2, r3, r4, -⟩ | ⟨r1, r2, r3, r4, -⟩ | ⟨a, h1, r1, r2, r3, r4, h⟩
  · exact ⟨_, fun f => by rw [lc_mStep hb hp hs (by rw [es 82 (by decide) (by decide)]; exact r4) (lc_partsQ0 (Or.inl rfl) z) f, lc_m0 hp], lc_kM.u _ _ _⟩
  · exact ⟨_, fun f => by rw [lc_mStep hb hp hs (by rw [es 82 (by decide) (by decide)]; exact r4) (lc_partsQ0 (Or.inr rfl) z) f, lc_m0 hp], lc_kM.u _ _ _⟩
  · have ra := lc_R_lo r4
    have e82 : lcI z 82 (base + p) = lcI y0 (o + 2) i := by rw [es 82 (by decide) (by decide)]; exact r3
    have e84 : lcI z 84 (base + p) = nI (p + 1) := by rw [es 84 (by decide) (by decide)]; exact r2
    rcases h with ⟨k1, k2, k3, k4⟩ | ⟨k1, k2, k3, k4, -⟩ | ⟨a2, h2, k1, k2, h⟩
    · exact ⟨_, fun f => by rw [lc_mStep hb hp hs e82 (lc_partsQ1 k1 z) f, lc_m1p hp (by omega) e84 (by omega)], lc_kM.u _ _ _⟩
    · rw [k1] at e82
      exact ⟨_, fun f => by rw [lc_mStep hb hp hs e82 rfl f, lc_m1p hp (by omega) e84 (by omega)], lc_kM.u _ _ _⟩
    · have e85 : lcI z 85 (base + p) = nI h1 := by rw [es 85 (by decide) (by decide)]; exact k2
      rcases h with ⟨m1, m2, m3, m4⟩ | ⟨m1, m2, m3, b, m4, m5, m6, m7, m8⟩ | ⟨m1, m2, m3, b, m4, m5, m6, m7, m8⟩ | ⟨m1, a3, m2, m3, m4, m5, m6⟩
      · have rb := lc_R_lo m4
        exact ⟨_, fun f => by rw [lc_mStep hb hp hs e82 (lc_partsQ2 m1 z) f, lc_m2p hp (by omega) e84 (by omega) e85 (by omega)], lc_kM.u _ _ _⟩
      · have rb := lc_R_lo m8
        rw [m1] at e82
        exact ⟨_, fun f => by rw [lc_mStep hb hp hs e82 rfl f, lc_m2p hp (by omega) e84 (by omega) e85 (by omega)], lc_kM.u _ _ _⟩
      · have rb := lc_R_lo m8
        rw [m1] at e82
        exact ⟨_, fun f => by rw [lc_mStep hb hp hs e82 rfl f, lc_m2p hp (by omega) e84 (by omega) e85 (by omega)], lc_kM.u _ _ _⟩
      · have rb := lc_R_lo m5
        have rc := lc_R_lo m6
        rw [m1] at e82
        exact ⟨_, fun f => by rw [lc_mStep hb hp hs e82 rfl f, lc_m3p hp (by omega) e84 (by omega) e85 (by omega) (by rw [es 86 (by decide) (by decide)]; exact m3) (by omega)], lc_kM.u _ _ _⟩
theorem lc_mTots {y0 z0 : lc_S} {o base cnt sc : Nat} {B O : Int32} (hb : base ≤ 480) (hc : cnt ≤ 120) (hsub : ∀ p, p < cnt → ∃ i, lc_pp2 y0 z0 o base cnt i p) : ∀ (m h : Nat) (z : lc_S), h + m = cnt → sc ≤ h → lc_sz z0 z → ∃ z', (∀ f, fQ_isUsedOnce_20 (f + m) B O (nI sc) (nI base) (nI cnt - 1) z = fQ_isUsedOnce_20 f B O (nI sc) (nI base) (nI h - 1) z') ∧ lc_kM z z'
  | 0, h, z, hm, hs, sz => by
    have : h = cnt := by omega
    subst this
    exact ⟨z, fun f => rfl, lc_kM.rf⟩
  | m + 1, h, z, hm, hs, sz => by
    obtain ⟨z1, e1, k1⟩ := lc_mTots (sc := sc) (B := B) (O := O) hb hc hsub m (h + 1) z (by omega) (by omega) sz
    obtain ⟨i, hpp⟩ := hsub h (by omega)
    obtain ⟨z2, e2, k2⟩ := lc_mTot (sc := sc) (B := B) (O := O) hb hpp (fun c k a b => (k1.sz c k a b).trans (sz c k a b)) hs
    exact ⟨z2, fun f => by rw [show f + (m + 1) = f + 1 + m by omega, e1, nI_pred, e2], k1.tr k2⟩
/-- what the reference's loop over the parts p .. hi - 1 comes to -/
def lc_mR (z : lc_S) (base sc p hi : Nat) (B O : Int32) (r : Option Nat) : Prop := ∃ z' fw ms, (∀ f, fQ_isUsedOnce_20 (f + (hi - p)) B O (nI sc) (nI base) (nI hi - 1) z = fQ_isUsedOnce_20 f B O (nI sc) (nI base) (nI p - 1) z') ∧ lcI z' 103 p = nI fw ∧ lcI z' 104 p = nI ms ∧ fw ≤ ms ∧ ms ≤ 3 ∧ lc_urel r fw ms ∧ (∀ j, hi ≤ j → lcI z' 103 j = lcI z 103 j ∧ lcI z' 104 j = lcI z 104 j) ∧ lc_kM z z'
theorem lc_mEnd {z z1 z2 : lc_S} {base sc p hi fw ms : Nat} {B O X Y : Int32} {r : Option Nat} (hlt : p < hi) (e1 : ∀ f, fQ_isUsedOnce_20 (f + (hi - (p + 1))) B O (nI sc) (nI base) (nI hi - 1) z = fQ_isUsedOnce_20 f B O (nI sc) (nI base) (nI p) z1) (e2 : ∀ f, fQ_isUsedOnce_20 (f + 1) B O (nI sc) (nI base) (nI p) z1 = fQ_isUsedOnce_20 f B O (nI sc) (nI base) (nI p - 1) z2) (ez : z2 = lcUI (lcUI z1 103 p X) 104 p Y) (hX : X = nI fw) (hY : Y = nI ms) (hl : fw ≤ ms) (h3 : ms ≤ 3) (hr : lc_urel r fw ms) (hk : ∀ j, hi ≤ j → lcI z1 103 j = lcI z 103 j ∧ lcI z1 104 j = lcI z 104 j) (km : lc_kM z z1) : lc_mR z base sc p hi B O r := by
  refine ⟨z2, fw, ms, fun f => ?_, ?_, ?_, hl, h3, hr, fun j hj => ?_, km.tr (by rw [ez]; exact lc_kM.u _ _ _)⟩
  · rw [show f + (hi - p) = f + 1 + (hi - (p + 1)) by omega, e1, e2]
  · rw [ez]; simp only [lcI_UI, lcI_UL, lcI_UR, lcL_UI, lcL_UL, lcL_UR, lcR_UI, lcR_UL, lcR_UR, false_and, and_false, true_and, and_true, and_self, ↓reduceIte, Nat.reduceEqDiff, lc_let_eq]; exact hX
  · rw [ez]; simp only [lcI_UI, lcI_UL, lcI_UR, lcL_UI, lcL_UL, lcL_UR, lcR_UI, lcR_UL, lcR_UR, false_and, and_false, true_and, and_true, and_self, ↓reduceIte, Nat.reduceEqDiff, lc_let_eq]; exact hY
  · rw [ez, lcI_UI, if_neg (by omega), lcI_UI, if_neg (by omega), lcI_UI, if_neg (by omega), lcI_UI, if_neg (by omega)]; exact hk j hj
theorem lc_usQ {y0 z0 : lc_S} {o base b pt sc : Nat} {B O : Int32} (hb : base ≤ 480) (hb24 : b < 24) (hp3 : pt < 3) : ∀ (D lo i p hi : Nat) (env : List lc_en) (z : lc_S), lc_R y0 z0 o base D lo i p hi env → lc_eo y0 z0 o base env lo p → lc_dis env → (b, pt, B, O) ∈ env → sc ≤ p → lc_sz z0 z → lc_mR z base sc p hi B O (lc_us y0 o b pt D i)
  | 0, _, _, _, _, _, _, h, _, _, _, _, _ => absurd h id
  | D + 1, lo, i, p, hi, env, z, h, he, hd, hmem, hs, sz => by
    rw [lc_R] at h
    obtain ⟨g1, g2, g3, g4, h⟩ := h
    have hp : p < 120 := by omega
    have esz : ∀ {z1 : lc_S}, lc_kM z z1 → ∀ c, 82 ≤ c → c ≤ 91 → lcI z1 c (base + p) = lcI z0 c (base + p) := fun k c a b => (k.sz c _ a b).trans (sz c _ a b)
    rcases h with ⟨r1, r2, r3, r4, -⟩ | ⟨r1, r2, r3, r4, r5, r6, bb, pp, r7, r8, r9⟩ | ⟨a, h1, r1, r2, r3, r4, h⟩
    · refine lc_mEnd (z1 := z) (z2 := lcUI (lcUI z 103 p (lc_cap 0)) 104 p (lc_cap 0)) (fw := 0) (ms := 0) (by omega) (fun f => by rw [r2, show p + 1 - (p + 1) = 0 by omega, nI_pred]; rfl) (fun f => ?_) rfl rfl rfl (by omega) (by omega) (Or.inl ⟨0, by rw [lc_us, if_pos r3], rfl, rfl⟩) (fun _ _ => ⟨rfl, rfl⟩) lc_kM.rf
      rw [lc_mStep hb hp hs (by rw [esz lc_kM.rf 82 (by decide) (by decide)]; exact r4) (lc_partsQ0 (Or.inl rfl) z) f, lc_m0 hp, if_neg (fun h => absurd h.1 (by decide))]
    · have hm := lc_lk_mem env r7
      have hdis := hd _ hm _ hmem
      obtain ⟨b1, b2⟩ := lc_eo_lk3 he r7
      have e87 := esz lc_kM.rf 87 (by decide) (by decide)
      have e88 := esz lc_kM.rf 88 (by decide) (by decide)
      have eu : lc_us y0 o b pt (D + 1) i = if lcI y0 (o + 7) i = nI b ∧ lcI y0 (o + 6) i = nI pt then some 1 else some 0 := by rw [lc_us, if_neg (by rw [r3]; decide), if_pos r3]
      by_cases hm2 : bb = b ∧ pp = pt
      · obtain ⟨q1, q2⟩ := hdis.mp hm2
        refine lc_mEnd (z1 := z) (z2 := lcUI (lcUI z 103 p (lc_cap 1)) 104 p (lc_cap 1)) (fw := 1) (ms := 1) (by omega) (fun f => by rw [r2, show p + 1 - (p + 1) = 0 by omega, nI_pred]; rfl) (fun f => ?_) rfl rfl rfl (by omega) (by omega) (Or.inl ⟨1, by rw [eu, if_pos ⟨by rw [r8, hm2.1], by rw [r9, hm2.2]⟩], rfl, rfl⟩) (fun _ _ => ⟨rfl, rfl⟩) lc_kM.rf
        rw [lc_mStep hb hp hs (by rw [esz lc_kM.rf 82 (by decide) (by decide)]; exact r4) (lc_partsQ0 (Or.inr rfl) z) f, lc_m0 hp, if_pos ⟨rfl, by rw [e87]; exact q1, by rw [e88]; exact q2⟩]
      · refine lc_mEnd (z1 := z) (z2 := lcUI (lcUI z 103 p (lc_cap 0)) 104 p (lc_cap 0)) (fw := 0) (ms := 0) (by omega) (fun f => by rw [r2, show p + 1 - (p + 1) = 0 by omega, nI_pred]; rfl) (fun f => ?_) rfl rfl rfl (by omega) (by omega) (Or.inl ⟨0, by rw [eu, if_neg (fun q => hm2 ⟨(nI_eq (by omega) (by omega)).mp (r8.symm.trans q.1), (nI_eq (by omega) (by omega)).mp (r9.symm.trans q.2)⟩)], rfl, rfl⟩) (fun _ _ => ⟨rfl, rfl⟩) lc_kM.rf
        rw [lc_mStep hb hp hs (by rw [esz lc_kM.rf 82 (by decide) (by decide)]; exact r4) (lc_partsQ0 (Or.inr rfl) z) f, lc_m0 hp, if_neg (fun q => hm2 (hdis.mpr ⟨by rw [← e87]; exact q.2.1, by rw [← e88]; exact q.2.2⟩))]
    · have ra := lc_R_lo r4
      have hkinds : lcI y0 (o + 2) i ≠ 35 ∧ lcI y0 (o + 2) i ≠ 118 ∧ lcI y0 (o + 2) i ≠ 120 := by
        rcases h with ⟨g, -⟩ | ⟨g, -⟩ | ⟨a2, h2, -, -, ⟨g, -⟩ | ⟨g, -⟩ | ⟨g, -⟩ | ⟨g, -⟩⟩
        · rcases g with g | g | g <;> rw [g] <;> decide
        · rw [g]; decide
        · rcases g with g | g | g | g | g | g <;> rw [g] <;> decide
        · rw [g]; decide
        · rw [g]; decide
        · rw [g]; decide
      obtain ⟨n35, n118, n120⟩ := hkinds
      have first : ∀ z : lc_S, lc_sz z0 z → lc_mR z base sc (p + 1) h1 B O (lc_us y0 o b pt D a) := fun z sz => lc_usQ hb hb24 hp3 D lo a (p + 1) h1 env z r4 (lc_eo_mono (Nat.le_refl _) (by omega) env he) hd hmem (by omega) sz
      have oneCase : ∀ S : Int32, lcI y0 (o + 2) i = S → S ≠ 120 → (∀ z, fQ_partsOf S z = some (1, z)) → lcI y0 (o + 4) i = -1 → hi = h1 → lc_mR z base sc p hi B O (lc_us y0 o b pt (D + 1) i) := fun S hS nS hpo h4 hhi => by
        clear h
        rw [lc_us_one n35 n118 r1 (by omega) h4]
        obtain ⟨z1, fw, ms, e1, e2, e3, e4, e5, e6, e7, e8⟩ := first z sz
        refine lc_mEnd (z1 := z1) (fw := fw) (ms := ms) (by omega) (fun f => by rw [hhi, e1, nI_pred]) (fun f => by rw [lc_mStep hb hp hs (by rw [esz e8 82 (by decide) (by decide), r3]; exact hS) (hpo z1) f, lc_m1p hp (by omega) (by rw [esz e8 84 (by decide) (by decide)]; exact r2) (by omega), if_neg (fun q => nS q.1)]) rfl ?_ ?_ e4 e5 e6 (fun j hj => e7 j (by omega)) e8
        · rw [e2, Int32.zero_add, lc_cap_nI (by omega), Nat.min_eq_left (by omega)]
        · rw [e3, Int32.zero_add, lc_cap_nI (by omega), Nat.min_eq_left (by omega)]
      have twoCase : ∀ (S : Int32) (a2 h2 : Nat) (env' : List lc_en), lcI y0 (o + 2) i = S → S ≠ 120 → S ≠ 63 → (∀ z, fQ_partsOf S z = some (2, z)) → lcI y0 (o + 4) i = nI a2 → lcI z0 85 (base + p) = nI h1 → hi = h2 → lc_R y0 z0 o base D (a + 1) a2 h1 h2 env' → lc_eo y0 z0 o base env' (a + 1) h1 → lc_dis env' → (b, pt, B, O) ∈ env' → lc_mR z base sc p hi B O (lc_us y0 o b pt (D + 1) i) := fun S a2 h2 env' hS nS n63 hpo h4 h85 hhi hR2 he2 hd2 hm2 => by
        clear h
        have rb := lc_R_lo hR2
        rw [lc_us_two n35 n118 (by rw [hS]; exact n63) r1 (by omega) h4 (by omega)]
        obtain ⟨z1, fw1, ms1, e1, e2, e3, e4, e5, e6, e7, e8⟩ := lc_usQ (sc := sc) hb hb24 hp3 D (a + 1) a2 h1 h2 env' z hR2 he2 hd2 hm2 (by omega) sz
        obtain ⟨z2, fw2, ms2, f1, f2, f3, f4, f5, f6, f7, f8⟩ := first z1 (fun c k a b => (e8.sz c k a b).trans (sz c k a b))
        have k12 := e8.tr f8
        have q1 := f7 h1 (Nat.le_refl _)
        refine lc_mEnd (z1 := z2) (fw := min (fw2 + fw1) 3) (ms := min (ms2 + ms1) 3) (by omega) (fun f => by rw [show f + (hi - (p + 1)) = f + (h1 - (p + 1)) + (h2 - h1) by omega, hhi, e1, f1, nI_pred]) (fun f => by rw [lc_mStep hb hp hs (by rw [esz k12 82 (by decide) (by decide), r3]; exact hS) (hpo z2) f, lc_m2p hp (by omega) (by rw [esz k12 84 (by decide) (by decide)]; exact r2) (by omega) (by rw [esz k12 85 (by decide) (by decide)]; exact h85) (by omega), if_neg (fun q => nS q.1)]) rfl ?_ ?_ (by omega) (by omega) (lc_urel_sum f6 e6 f4 e4 f5 e5) (fun j hj => ⟨(f7 j (by omega)).1.trans (e7 j (by omega)).1, (f7 j (by omega)).2.trans (e7 j (by omega)).2⟩) k12
        · rw [f2, q1.1, e2, Int32.zero_add, nI_add, lc_cap_nI (by omega)]
        · rw [f3, q1.2, e3, Int32.zero_add, nI_add, lc_cap_nI (by omega)]
      rcases h with ⟨k1', k2', k3', k4'⟩ | ⟨k1', k2', k3', k4', -⟩ | ⟨a2, h2, q1, q2, ⟨m1, m2, m3, m4⟩ | ⟨m1, m2, m3, bb, m4, m5, m6, m7, m8⟩ | ⟨m1, m2, m3, bb, m4, m5, m6, m7, m8⟩ | ⟨m1, a3, m2, m3, m4, m5, m6⟩⟩
      · exact oneCase _ rfl n120 (fun z => lc_partsQ1 k1' z) k4' k3'
      · exact oneCase 64 k1' (by decide) (fun z => rfl) k4' k3'
      · exact twoCase _ a2 h2 _ rfl n120 (by rcases m1 with g | g | g | g | g | g <;> rw [g] <;> decide) (fun z => lc_partsQ2 m1 z) q1 q2 m3 m4 (lc_eo_mono (by omega) (by omega) env he) hd hmem
      · exact twoCase 58 a2 h2 _ m1 (by decide) (by decide) (fun z => rfl) q1 q2 m3 m8 (lc_eo_let he r4 m4 m5 m7 r2 (by rw [r3]; exact m1) (by omega) (Nat.le_refl _)) (lc_dis_let he hp hd m5) (List.mem_cons_of_mem _ hmem)
      · exact twoCase 47 a2 h2 _ m1 (by decide) (by decide) (fun z => rfl) q1 q2 m3 m8 (lc_eo_split he r4 m4 m5 m7 r2 (by rw [r3]; exact m1) (by omega) (Nat.le_refl _)) (lc_dis_split he hp hd m5) (List.mem_cons_of_mem _ (List.mem_cons_of_mem _ hmem))
      · have rb := lc_R_lo m5
        have rc := lc_R_lo m6
        rw [lc_us_cho m1 r1 (by omega) q1 (by omega) m2 (by omega)]
        obtain ⟨z1, fw1, ms1, e1, e2, e3, e4, e5, e6, e7, e8⟩ := lc_usQ (sc := sc) hb hb24 hp3 D (a2 + 1) a3 h2 hi env z m6 (lc_eo_mono (by omega) (by omega) env he) hd hmem (by omega) sz
        obtain ⟨z2, fw2, ms2, f1, f2, f3, f4, f5, f6, f7, f8⟩ := lc_usQ (sc := sc) hb hb24 hp3 D (a + 1) a2 h1 h2 env z1 m5 (lc_eo_mono (by omega) (by omega) env he) hd hmem (by omega) (fun c k a b => (e8.sz c k a b).trans (sz c k a b))
        have k12 := e8.tr f8
        obtain ⟨z3, fw3, ms3, w1, w2, w3, w4, w5, w6, w7, w8⟩ := first z2 (fun c k a b => (k12.sz c k a b).trans (sz c k a b))
        have k123 := k12.tr w8
        have t1 := w7 h1 (Nat.le_refl _)
        have t2 := w7 h2 (by omega)
        have t3 := f7 h2 (Nat.le_refl _)
        refine lc_mEnd (z1 := z3) (fw := min (fw3 + min fw2 fw1) 3) (ms := min (ms3 + max ms2 ms1) 3) (by omega) (fun f => by rw [show f + (hi - (p + 1)) = f + (h1 - (p + 1)) + (h2 - h1) + (hi - h2) by omega, e1, f1, w1, nI_pred]) (fun f => by rw [lc_mStep hb hp hs (by rw [esz k123 82 (by decide) (by decide), r3]; exact m1) (show fQ_partsOf 63 z3 = some (3, z3) from rfl) f, lc_m3p hp (by omega) (by rw [esz k123 84 (by decide) (by decide)]; exact r2) (by omega) (by rw [esz k123 85 (by decide) (by decide)]; exact q2) (by omega) (by rw [esz k123 86 (by decide) (by decide)]; exact m3) (by omega), if_neg (fun q => absurd q.1 (by decide))]) rfl ?_ ?_ (by omega) (by omega) (lc_urel_cho w6 f6 e6 w4 f4 e4 w5 f5 e5) (fun j hj => ⟨(w7 j (by omega)).1.trans ((f7 j (by omega)).1.trans (e7 j hj).1), (w7 j (by omega)).2.trans ((f7 j (by omega)).2.trans (e7 j hj).2)⟩) k123
        · rw [w2, t1.1, f2, t2.1, t3.1, e2, Int32.zero_add, lc_mn_nI (by omega) (by omega), nI_add, lc_cap_nI (by omega)]
        · rw [w3, t1.2, f3, t2.2, t3.2, e3, Int32.zero_add, lc_mx_nI (by omega) (by omega), nI_add, lc_cap_nI (by omega)]
/-- what the reference's isUsedOnce answers -/
theorem lc_onceQ {y0 z0 z : lc_S} {o k cnt b pt D lo i p hi : Nat} {B O : Int32} {env : List lc_en} (hk : k < 4) (hc : cnt ≤ 120) (hb24 : b < 24) (hp3 : pt < 3) (hsub : ∀ p, p < cnt → ∃ i, lc_pp2 y0 z0 o (120 * (k + 1)) cnt i p) (hR : lc_R y0 z0 o (120 * (k + 1)) D lo i p hi env) (he : lc_eo y0 z0 o (120 * (k + 1)) env lo p) (hd : lc_dis env) (hmem : (b, pt, B, O) ∈ env) (hhc : hi ≤ cnt) (sz : lc_sz z0 z) (h89 : lcI z 89 (k + 1) = nI cnt) : ∃ x z', fQ_isUsedOnce (nI k) B O (nI p) z = some (x, z') ∧ lc_kM z z' ∧ (x = 0 ∨ x = 1) ∧ (x = 1 ↔ lc_us y0 o b pt D i = some 1) := by
  have rl := lc_R_lo hR
  have c1 : lc_in (nI (k + 1)) 5 := nI_in (by omega) (by decide)
  have d1 : (nI (k + 1)).toNatClampNeg = k + 1 := nI_clamp (by omega)
  have hbs : (120 : Int32) * nI (k + 1) = nI (120 * (k + 1)) := by rw [show (120 : Int32) = nI 120 from rfl, pk_mul]
  have st : fQ_isUsedOnce (nI k) B O (nI p) z = fQ_isUsedOnce_20 lc_FU B O (nI p) (nI (120 * (k + 1))) (nI cnt - 1) z := by
    rw [fQ_isUsedOnce, nI_1, lc_let_eq, lc_chk_pos c1, d1, h89, lc_let_eq, hbs]
  obtain ⟨z1, e1, k1⟩ := lc_mTots (sc := p) (B := B) (O := O) (by omega) hc hsub (cnt - hi) hi z (by omega) (by omega) sz
  obtain ⟨z2, fw, ms, f1, f2, f3, f4, f5, f6, f7, f8⟩ := lc_usQ (base := 120 * (k + 1)) (sc := p) (by omega) hb24 hp3 D lo i p hi env z1 hR he hd hmem (Nat.le_refl _) (fun c k a b => (k1.sz c k a b).trans (sz c k a b))
  obtain ⟨f, hf⟩ : ∃ f, lc_FU = f + 1 + (hi - p) + (cnt - hi) := ⟨lc_FU - 1 - (cnt - p), by unfold lc_FU; omega⟩
  have c2 : lc_in (nI p) 120 := nI_in (by omega) (by decide)
  have d2 : (nI p).toNatClampNeg = p := nI_clamp (by omega)
  have hlt : nI p - 1 < nI p := by
    cases p with
    | zero => decide
    | succ q => rw [nI_pred]; exact nI_lt (by omega) (by omega)
  have fin : fQ_isUsedOnce_20 lc_FU B O (nI p) (nI (120 * (k + 1))) (nI cnt - 1) z = if nI fw = 1 then (if nI ms = 1 then some (1, z2) else some (0, z2)) else some (0, z2) := by
    rw [hf, e1, f1, fQ_isUsedOnce_20, if_pos hlt]
    simp only [lc_chk_pos c2, d2, f2, f3]
    rfl
  have ef : (nI fw = 1) = (fw = 1) := lc_eqn (b := 1) (by omega) (by decide)
  have em : (nI ms = 1) = (ms = 1) := lc_eqn (b := 1) (by omega) (by decide)
  simp only [ef, em] at fin
  by_cases h1 : fw = 1 ∧ ms = 1
  · refine ⟨1, z2, by rw [st, fin, if_pos h1.1, if_pos h1.2], k1.tr f8, Or.inr rfl, ⟨fun _ => ?_, fun _ => rfl⟩⟩
    rcases f6 with ⟨u, g1, g2, g3⟩ | ⟨g1, g2⟩
    · rw [g1]; congr 1; omega
    · omega
  · refine ⟨0, z2, ?_, k1.tr f8, Or.inl rfl, ⟨fun h => absurd h (by decide), fun h => ?_⟩⟩
    · rw [st, fin]
      by_cases h2 : fw = 1
      · rw [if_pos h2, if_neg (fun h => h1 ⟨h2, h⟩)]
      · rw [if_neg h2]
    · exfalso
      rcases f6 with ⟨u, g1, g2, g3⟩ | ⟨g1, g2⟩
      · rw [g1] at h
        have := Option.some.inj h
        exact h1 ⟨by omega, by omega⟩
      · rw [g1] at h; cases h
