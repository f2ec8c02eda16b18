/-! reading a form: one child -/
def lc_fo (z : lc_S) (p d t : Nat) (K V : Int32) : Prop := lcI z 92 d = nI p ∧ lcI z 93 d = nI t ∧ lcI z 82 p = K ∧ lcI z 83 p = V
def lc_chR (tx : Nat → Int32) (n f D d ak pk p t o nb : Nat) (K V : Int32) (Lk : List lc_nm) (uk : Int32) (zk zn : lc_S) : Prop := lc_kx p d Lk.length zk zn ∧ lc_fo zn p d (t + 1) K V ∧ lcI zn (84 + t) p = nI pk ∧ (∀ c q, 82 ≤ c → c ≤ 88 → q < pk → ¬ (c = 84 + t ∧ q = p) → lcI zn c q = lcI zk c q) ∧ ∃ a' hi B s u', ak + 5 * B + 1 ≤ a' ∧ pk < hi ∧ hi + ak ≤ pk + a' ∧ s ≤ 2 * (a' - ak) ∧ lc_cQ tx n zn a' hi (d + 1) Lk u' ∧ (∀ F, fQ_read_119 (F + (s + 1)) (-1) zk = lc_bnd (if t = 0 ∧ (K = 58 ∨ K = 47) then fQ_attach_101 (nI p) K zn else fQ_attach_140 (nI p) K zn) (fun r z => fQ_read_119 F r z)) ∧
  ∀ y i0 G, lc_acA tx n y o ak i0 nb Lk G uk → lc_clQ zk pk G → ∃ y', lc_ky o i0 nb Lk.length y y' ∧ ((24 < nb + B ∧ fR_readExpression f (nI (d + 1)) y = some (-1, y')) ∨ (nb + B ≤ 24 ∧ ∃ i G', fR_readExpression f (nI (d + 1)) y = some (nI i, y') ∧ i0 ≤ i ∧ i + 1 + ak ≤ i0 + a' ∧ lc_acA tx n y' o a' (i + 1) (nb + B) Lk G' u' ∧ lc_clQ zn hi G' ∧ lc_Rb y' zn o 0 (nb + B) D i0 i pk hi (lc_ev Lk)))
theorem lc_ch {tx : Nat → Int32} {n f D d ak pk p t o nb : Nat} {K V : Int32} {Lk : List lc_nm} {uk : Int32} {zk z' : lc_S} (hd : d ≤ 16) (hp : p < pk) (hc : lc_cQ tx n zk ak pk (d + 1) Lk uk) (hf : lc_fo zk p d t K V) (ht : t < 3) (g : lc_xG tx n f D (d + 1) ak pk o nb Lk uk zk z') : ∃ zn, lc_chR tx n f D d ak pk p t o nb K V Lk uk zk zn := by
  obtain ⟨k, a', hi, B, s, u', q1, q2, q3, q4, q5, q6, q7⟩ := g
  obtain ⟨f1, f2, f3, f4⟩ := hf
  have hn := hc.1.2.1
  have hpk := hc.2.2.2.1
  have hak := hc.2.2.1
  obtain ⟨c1, c2, c3, c4, c5, c6, c7, c8, c9, c10, c11, c12, c13, c14⟩ := id q5
  have g1 : lcI z' 92 d = nI p := by rw [k.1 _ _ (by omega) (by omega) (by omega) (by omega) (by omega)]; exact f1
  have g2 : lcI z' 93 d = nI t := by rw [k.1 _ _ (by omega) (by omega) (by omega) (by omega) (by omega)]; exact f2
  have g3 : lcI z' 82 p = K := by rw [k.1 _ _ (by omega) (by omega) (by omega) (by omega) (by omega)]; exact f3
  have g4 : lcI z' 83 p = V := by rw [k.1 _ _ (by omega) (by omega) (by omega) (by omega) (by omega)]; exact f4
  obtain ⟨zn, ezn⟩ : ∃ x, x = lcUI (lcUI z' (84 + t) p (nI pk)) 93 d (nI (t + 1)) := ⟨_, rfl⟩
  have on : ∀ c q, ¬ (c = 84 + t ∧ q = p) → ¬ (c = 93 ∧ q = d) → lcI zn c q = lcI z' c q := fun c q w1 w2 => by rw [ezn, lcI_UI, if_neg w2, lcI_UI, if_neg w1]
  have kn' : lc_kx p d Lk.length z' zn := by rw [ezn]; exact (lc_kx.u _ (by omega)).t _ (by omega)
  have kn : lc_kx p d Lk.length zk zn := lc_kx.tr (p' := p) (d' := d) (m' := Lk.length) ⟨fun c j a1 a2 a3 a4 a5 => k.1 c j a1 (by omega) a3 (by omega) a5, k.2.1, k.2.2⟩ kn' (Nat.le_refl _) (Nat.le_refl _) (Nat.le_refl _)
  refine ⟨zn, kn, ⟨?_, ?_, ?_, ?_⟩, ?_, fun c q w1 w2 w3 w4 => ?_, a', hi, B, s, u', q1, q2, q3, q4, ?_, fun F => ?_, fun y i0 G hy hG => ?_⟩
  · rw [on _ _ (by omega) (by omega)]; exact g1
  · rw [ezn, lcI_UI, if_pos ⟨rfl, rfl⟩]
  · rw [on _ _ (by omega) (by omega)]; exact g3
  · rw [on _ _ (by omega) (by omega)]; exact g4
  · rw [ezn, lcI_UI, if_neg (by omega), lcI_UI, if_pos ⟨rfl, rfl⟩]
  · rw [on _ _ w4 (by omega), k.1 _ _ (by omega) (by omega) (by omega) (by omega) (by omega)]
  · exact ⟨⟨by rw [on _ _ (by omega) (by omega)]; exact c1.1, hn, fun j hj => by rw [on _ _ (by omega) (by omega)]; exact c1.2.2 j hj⟩, by rw [on _ _ (by omega) (by omega)]; exact c2, c3, c4, by rw [on _ _ (by omega) (by omega)]; exact c5, by rw [on _ _ (by omega) (by omega)]; exact c6, by rw [on _ _ (by omega) (by omega)]; exact c7, by rw [on _ _ (by omega) (by omega)]; exact c8, lc_nQ_eq Lk (fun c j u v w => on c j (by omega) (by omega)) c9, c10, c11, lc_b8_eq (fun j => on _ _ (by omega) (by omega)) c12, by rw [on _ _ (by omega) (by omega)]; exact c13, c14⟩
  · have e := lc_att (q := pk) c6 (by omega) g1 (by omega) g2 ht g3
    rw [← ezn] at e
    have : fQ_read_119 (F + 1) (nI pk) z' = lc_bnd (fQ_attach (nI pk) z') (fun r z => fQ_read_119 F r z) := by
      rw [fQ_read_119, if_pos c5, if_neg (nI_pos (by omega)), c6, if_neg (nI_nle (by omega) (by omega)), fQ_read_137, if_pos (nI_pos' (by omega))]
      rfl
    rw [show F + (s + 1) = F + 1 + s by omega, q6, this, e]
  · obtain ⟨y', w1, w2⟩ := q7 y i0 G hy hG
    refine ⟨y', w1, ?_⟩
    rcases w2 with w2 | ⟨w3, i, G', w4, w5, w6, w7, w8, w9⟩
    · exact Or.inl w2
    · refine Or.inr ⟨w3, i, G', w4, w5, w6, w7, lc_clQ_eq (fun q _ => ⟨on _ _ (by omega) (by omega), on _ _ (by omega) (by omega)⟩) w8, ?_⟩
      exact lc_Rb_eq (Nat.le_refl _) (fun b _ => rfl) _ _ _ _ _ _ (fun c k u v _ _ => rfl) (fun c j u v w _ => on _ _ (by omega) (by omega)) w9
/-- a child that is bad -/
theorem lc_pB {tx : Nat → Int32} {n f d a ak pk p s0 o nb : Nat} {L Lk : List lc_nm} {uk : Int32} {z zk z' : lc_S} (hk : lc_kx p d L.length z zk) (hL : L.length ≤ Lk.length) (hp : p ≤ pk) (ha : a ≤ ak) (hn : ak ≤ n) (hs : s0 ≤ 2 * (ak - a)) (path : ∀ F, fQ_read_119 (F + s0) (-1) z = fQ_read_119 F (-1) zk) (g : lc_xB tx n f (d + 1) ak pk o nb Lk uk zk z') : lc_oX p d L z z' ∧ ∃ s, s ≤ 2 * (n - a) + 2 ∧ ∀ F, fQ_read_119 (F + s) (-1) z = fQ_read_157 z' := by
  obtain ⟨⟨b1, b2, b3⟩, ⟨s, b4, b5⟩, b6⟩ := g
  exact ⟨⟨hk.tr b1 hp (by omega) hL, b2, b3⟩, s + s0, by omega, fun F => by rw [show F + (s + s0) = F + s + s0 by omega, path, b5]⟩
/-- the class: a form is put behind its parts -/
theorem lc_acA.aF {tx : Nat → Int32} {n : Nat} {y y' : lc_S} {o a i nb : Nat} {L : List lc_nm} {G : Nat} {u : Int32} (ho : lc_sh o = (0, 1, 0)) (h : lc_acA tx n y o a i nb L G u) (h11 : lcI y' o 11 = nI (i + 1)) (hi : i + 1 ≤ a) (hf : ∀ c k, ¬ (c = o ∧ k = 11) → ¬ (o + 2 ≤ c ∧ c ≤ o + 7 ∧ k = i) → lcI y' c k = lcI y c k) (hR : ∀ c k, lcR y' c k = lcR y c k) : lc_acA tx n y' o a (i + 1) nb L G u := by
  have ho' := lc_o ho
  obtain ⟨h1, h3, h4, h5, h6, h7, h8, h9, h10, h11', h12, h13, h14, h15⟩ := h
  exact ⟨⟨by rw [hR]; exact h1.1, by rw [hf _ _ (by omega) (by omega)]; exact h1.2.1, h1.2.2.1, fun j hj => by rw [hf _ _ (by omega) (by omega)]; exact h1.2.2.2 j hj⟩, by rw [hR]; exact h3, by rw [hf _ _ (by omega) (by omega)]; exact h4, h11, hi, by rw [hf _ _ (by omega) (by omega)]; exact h7, h8, by rw [hf _ _ (by omega) (by omega)]; exact h9, lc_nA_eq L (fun c k u v w => hf c k (by omega) (by omega)) h10, h11', by rw [hf _ _ (by omega) (by omega)]; exact h12, h13, by rw [hf _ _ (by omega) (by omega)]; exact h14, h15⟩
theorem lc_ky.aF {o i nb m : Nat} {y y' : lc_S} (ho : lc_sh o = (0, 1, 0)) (hf : ∀ c k, ¬ (c = o ∧ k = 11) → ¬ (o + 2 ≤ c ∧ c ≤ o + 7 ∧ k = i) → lcI y' c k = lcI y c k) (hL : ∀ c k, lcL y' c k = lcL y c k) (hR : ∀ c k, lcR y' c k = lcR y c k) : lc_ky o i nb m y y' := ⟨fun c k a1 a2 a3 a4 a5 => hf c k (by omega) (by omega), hL, hR, lc_n8_eq (hf _ _ (by have := lc_o ho; omega) (by have := lc_o ho; omega))⟩
theorem lc_bnd_ret {X : Option (Int32 × lc_S)} : lc_bnd X (fun r z => some (r, z)) = X := by
  cases X with
  | none => rfl
  | some x => rfl
theorem lc_rf1 {rc : Int32 → lc_S → Option (Int32 × lc_S)} {K x : Int32} {y : lc_S} (h : lc_one K) : fR_readForm rc K x y = fR_readOne rc K x y := by
  rcases h with h | h | h <;> subst h <;> rw [fR_readForm] <;> simp (decide := true) only [↓reduceIte, fR_readForm_116, lc_bnd_ret]
theorem lc_rf2 {rc : Int32 → lc_S → Option (Int32 × lc_S)} {K x : Int32} {y : lc_S} (h : lc_two K) : fR_readForm rc K x y = fR_readTwo rc K x y := by
  rcases h with h | h | h | h | h | h <;> subst h <;> rw [fR_readForm] <;> simp (decide := true) only [↓reduceIte, fR_readForm_123, lc_bnd_ret]
theorem lc_rf3 {rc : Int32 → lc_S → Option (Int32 × lc_S)} {x : Int32} {y : lc_S} : fR_readForm rc 63 x y = fR_readThree rc 63 x y := by
  rw [fR_readForm]; simp (decide := true) only [↓reduceIte, lc_bnd_ret]
theorem lc_rf4 {rc : Int32 → lc_S → Option (Int32 × lc_S)} {x : Int32} {y : lc_S} : fR_readForm rc 58 x y = fR_readLet rc x y := by
  rw [fR_readForm]; simp (decide := true) only [↓reduceIte, lc_bnd_ret]
theorem lc_rf5 {rc : Int32 → lc_S → Option (Int32 × lc_S)} {x : Int32} {y : lc_S} : fR_readForm rc 47 x y = fR_readSplit rc x y := by
  rw [fR_readForm]; simp (decide := true) only [↓reduceIte, lc_bnd_ret]
theorem lc_rf6 {rc : Int32 → lc_S → Option (Int32 × lc_S)} {x : Int32} {y : lc_S} : fR_readForm rc 64 x y = fR_readCall rc x y := by
  rw [fR_readForm]; simp (decide := true) only [↓reduceIte, lc_bnd_ret]
theorem lc_rf0 {rc : Int32 → lc_S → Option (Int32 × lc_S)} {K x : Int32} {y : lc_S} (h : lc_ar K = 0) : fR_readForm rc K x y = some (-1, y) := by
  have h' : ∀ c : Int32, lc_ar c ≠ 0 → K ≠ c := fun c hc e => hc (by rw [← e]; exact h)
  rw [fR_readForm, if_neg (h' 42 (by decide)), if_neg (h' 43 (by decide)), if_neg (h' 44 (by decide)), if_neg (h' 45 (by decide)), if_neg (h' 47 (by decide)), if_neg (h' 58 (by decide)), if_neg (h' 60 (by decide)), if_neg (h' 63 (by decide)), if_neg (h' 64 (by decide)), if_neg (h' 100 (by decide)), if_neg (h' 103 (by decide)), if_neg (h' 110 (by decide)), if_neg (h' 112 (by decide))]
