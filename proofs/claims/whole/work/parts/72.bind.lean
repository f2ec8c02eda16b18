/-! steps by kinds: names are bound, a part is begun behind the first one -/
theorem lc_CH_24 {y z : lc_S} {P d : Nat} : ∀ (env : List lc_en) (N : Nat) (nm : Int32), lc_CH y z P d env N nm → ∀ e ∈ env, e.1 < 24
  | [], _, _, _, e, he => by cases he
  | e0 :: es, N, nm, h, e, he => by
    obtain ⟨j, k, w, h1, h2, h3, h4, h5, h6, h7, h8, h9⟩ := h
    rcases List.mem_cons.mp he with rfl | he
    · exact h3
    · exact lc_CH_24 es j _ h9 e he
theorem lc_T_push {y z y2 z2 : lc_S} {t b N N2 P st o k D i p lo hi o' k' D' d' lo' i' p' hi' : Nat} {nm : Int32} {env' : List lc_en} {dd : Nat → Nat} {ee : Nat → List lc_en} {W V : Nat → Prop} (h : lc_TP y z t b N P st dd ee o k D i p 1) (hR : lc_R y z o (120 * (k + 1)) D lo i p hi (ee t)) (hK : ¬ lc_two (lcI y (o + 2) i))
    (yI : ∀ c k, lcI y2 c k = lcI y c k) (yL : ∀ c k, c ≠ 30 → lcL y2 c k = lcL y c k) (yW : ∀ a, ¬ W a → lcL y2 30 a = lcL y 30 a) (yR : ∀ c k, c ≠ 29 → lcR y2 c k = lcR y c k) (yV : ∀ d, ¬ V d → lcR y2 29 d = lcR y 29 d)
    (zI : ∀ c k, ¬ (c = 80 ∧ k = 40) → ¬ (111 ≤ c ∧ c ≤ 114 ∧ N ≤ k) → lcI z2 c k = lcI z c k) (zL : ∀ c k, ¬ (c = 113 ∧ N ≤ k) → lcL z2 c k = lcL z c k) (zN : lcI z2 80 40 = nI N2) (n1 : N ≤ N2) (n2 : N2 ≤ N + 2)
    (hW : ∀ j, j < t + 1 → ∀ e ∈ ee j, ¬ W (24 * dd j + e.1)) (hV : ∀ j, j < t + 1 → ¬ V (dd j))
    (hm : ∀ j, j < t + 1 → dd j ≤ d' ∧ (dd j = d' → ∀ e ∈ ee j, e ∈ env')) (hr : lcR y2 29 d' = some o') (ho : lc_sh o' = (0, 1, 0)) (hk : k' < 4) (hd : 0 < d') (hd' : d' ≤ 24) (hD : t + 1 + D' ≤ 17 * d') (hR' : lc_R y z o' (120 * (k' + 1)) D' lo' i' p' hi' env') (hc : lc_CH y2 z2 P d' env' N2 nm) :
    ∃ y' z', fM_begin (nI i') (nI d') y2 = some ((), y') ∧ fQ_enter (nI (120 * (k' + 1))) (nI p') nm (nI d') z2 = some ((), z') ∧ lc_O y' z' st := by
  have hE := lc_T_Es h (by decide) hR (fun _ h2 => absurd h2 hK)
  have hcc := lc_T_c1 h (by decide)
  obtain ⟨⟨b1, b2, b3, b4, b5, b6, b7, b8, b9, b10, b11⟩, a2, a3, a4, a5, a6, a7, a8, a9, a10, a11, a12, a13, a14, a15, a16, a17, a18, a19⟩ := h
  have sy : lc_sy y y2 := fun c k _ _ => yI c k
  have sz : lc_sz z z2 := fun c k h h' => zI c k (by omega) (by omega)
  refine lc_beginT (t := t + 1) (b := b) (N := N2) (P := P) (dd := dd) (ee := ee) ⟨?_, ?_, ?_, ?_, b5, ?_, ?_, zN, ?_, ?_, lc_PR_eq sy sz (fun k => yR _ _ (by decide)) b11⟩ ?_ ?_ ?_ hm hr ho hk hd hd' hD (lc_R_eq (lc_o ho) sy sz _ _ _ _ _ _ hR') hc
  · rw [yI]; exact b1
  · rw [zI _ _ (by omega) (by omega)]; exact b2
  · rw [yI]; exact b3
  · rw [zI _ _ (by omega) (by omega)]; exact b4
  · rw [yI]; exact b6
  · rw [zI _ _ (by omega) (by omega)]; exact b7
  · rw [yR _ _ (by decide)]; exact b9
  · exact lc_M2_eq (fun c k _ _ => yI c k) (fun c k h => yL c k (by omega)) (fun c k h h' => zI c k (by omega) (by omega)) (zI _ _ (by omega) (by omega)) (zI _ _ (by omega) (by omega)) (zI _ _ (by omega) (by omega)) (fun c k h => zL c k (by omega)) b10
  · exact lc_Es_eq (W := W) (V := V) ⟨sy, fun j hj => ⟨yI _ _, yI _ _, yI _ _, yL _ _ (by decide)⟩, fun q _ => ⟨yL _ _ (by decide), yL _ _ (by decide)⟩, yW, yV⟩ ⟨sz, fun j hj => ⟨zI _ _ (by omega) (by omega), zI _ _ (by omega) (by omega), zI _ _ (by omega) (by omega), zI _ _ (by omega) (by omega), zI _ _ (by omega) (by omega), zL _ _ (by omega)⟩, fun j hj => ⟨zI _ _ (by omega) (by omega), zI _ _ (by omega) (by omega), zL _ _ (by omega), zI _ _ (by omega) (by omega)⟩⟩ (Nat.le_refl _) n1 hW hV hE
  · rw [lc_c1_eq (y := y) (t + 1) (fun j _ => yI _ _)]
    have := hcc.2.1 rfl
    omega
  · rw [lc_c3_eq (y := y) (t + 1) (fun j _ => yI _ _)]
    exact hcc.2.2
theorem lc_T_keep {y z : lc_S} {t b N P st o k D i p s : Nat} {dd : Nat → Nat} {ee : Nat → List lc_en} (u v : Int64) (h : lc_TP y z t b N P st dd ee o k D i p s) : lc_TP (lcUL y 34 t u) (lcUL z 110 t v) t b N P st dd ee o k D i p s := by
  obtain ⟨⟨b1, b2, b3, b4, b5, b6, b7, b8, b9, b10, b11⟩, a2, a3, a4, a5, a6, a7, a8, a9, a10, a11, a12, a13, a14, a15, a16, a17, a18, a19⟩ := h
  have sy : lc_sy y (lcUL y 34 t u) := fun c k _ _ => rfl
  have sz : lc_sz z (lcUL z 110 t v) := fun c k _ _ => rfl
  refine ⟨⟨b1, b2, b3, b4, b5, b6, b7, b8, b9, ?_, lc_PR_eq sy sz (fun k => rfl) b11⟩, ?_, ?_, ?_, a5, a6, a7, a8, a9, a10, a11, a12, a13, a14, a15, a16, a17, a18, ?_⟩
  · exact lc_M2_eq (fun c k _ _ => rfl) (fun c k h => by rw [lcL_UL, if_neg (by omega)]) (fun c k _ _ => rfl) rfl rfl rfl (fun c k h => by rw [lcL_UL, if_neg (by omega)]) b10
  · refine lc_Es_eq (y := y) (z := z) (W := fun _ => False) (V := fun _ => False) ⟨sy, fun j hj => ⟨rfl, rfl, rfl, ?_⟩, fun q _ => ⟨?_, ?_⟩, fun a _ => ?_, fun d _ => rfl⟩ ⟨sz, fun j hj => ⟨rfl, rfl, rfl, rfl, rfl, ?_⟩, fun j hj => ⟨rfl, rfl, ?_, rfl⟩⟩ (Nat.le_refl _) (Nat.le_refl _) (fun _ _ _ _ h => h) (fun _ _ h => h) a2 <;> rw [lcL_UL, if_neg (by omega)]
  · rw [lc_c1_eq (y := y) (y' := lcUL y 34 t u) t (fun j _ => rfl)]; exact a3
  · rw [lc_c3_eq (y := y) (y' := lcUL y 34 t u) t (fun j _ => rfl)]; exact a4
  · exact lc_CH_eq (y := y) (z := z) (y' := lcUL y 34 t u) (z' := lcUL z 110 t v) (fun q _ => ⟨by rw [lcL_UL, if_neg (by omega)], by rw [lcL_UL, if_neg (by omega)]⟩) (Nat.le_refl _) (ee t) N _ (fun e he => by rw [lcL_UL, if_neg (by omega)]) (fun j hj => ⟨rfl, rfl, by rw [lcL_UL, if_neg (by omega)], rfl⟩) N (Nat.le_refl _) a19
theorem lc_R_ul {y z : lc_S} {o base D lo i p hi : Nat} {env : List lc_en} (c k c' k' : Nat) (u v : Int64) (ho : 35 ≤ o ∧ o ≤ 71) (h : lc_R y z o base D lo i p hi env) : lc_R (lcUL y c k u) (lcUL z c' k' v) o base D lo i p hi env :=
  lc_R_eq (y := y) (z := z) (y' := lcUL y c k u) (z' := lcUL z c' k' v) ho (fun _ _ _ _ => rfl) (fun _ _ _ _ => rfl) _ _ _ _ _ _ h
/-- the class goes on from a first part -/
theorem lc_goOnA {y : lc_S} {t i d o : Nat} (ht : lcI y 19 11 = nI (t + 1)) (ht' : t < 408) (hi : i < 120) (hd : d ≤ 24) (hr : lcR y 29 d = some o) (ho : lc_sh o = (0, 1, 0)) :
    fM_goOn (nI i) (nI d) y = if lcI y (o + 2) i = 47 then fM_split (nI i) (nI d) y else if lcI y (o + 2) i = 58 then lc_bnd (fM_bind (nI d) (lcI y (o + 7) i) y) (fun _ y' => fM_begin (lcI y' (o + 4) i) (nI d) y') else if lcI y (o + 2) i = 63 then fM_choose (nI i) (nI d) y else if lcI y (o + 2) i = 64 then fM_enter (lcI y (o + 6) i) (nI d + 1) y else fM_begin (lcI y (o + 4) i) (nI d) (lcUL y 34 t (lcL y 19 4)) := by
  have c1 : lc_in (nI t) 408 := nI_in ht' (by decide)
  have c2 : lc_in (nI d) 25 := nI_in (by omega) (by decide)
  have c3 : lc_in (nI i) 120 := nI_in hi (by decide)
  have d1 : (nI t).toNatClampNeg = t := nI_clamp (by omega)
  have d2 : (nI d).toNatClampNeg = d := nI_clamp (by omega)
  have d3 : (nI i).toNatClampNeg = i := nI_clamp (by omega)
  have hb : lc_bnr (some o) = fun f : Nat → Option (Unit × lc_S) => f o := rfl
  simp only [fM_goOn, ht, nI_pred, lc_chk_pos c1, d1, lc_chk_pos c2, lc_chk_pos c3, d2, d3, hr, hb, lc_chk_pos ho, lc_bnd_id, lcI_UI, lcI_UL, lcI_UR, lcL_UI, lcL_UL, lcL_UR, lcR_UI, lcR_UL, lcR_UR, false_and, and_false, true_and, and_true, and_self, ↓reduceIte, Nat.reduceEqDiff, lc_let_eq]
theorem lc_sTwo1 {y z : lc_S} {t b N P st o k D i p lo hi a2 h1 h2 lo2 : Nat} {dd : Nat → Nat} {ee : Nat → List lc_en} (h : lc_TP y z t b N P st dd ee o k (D + 1) i p 1) (ht' : t < 408) (hi' : i < 120) (hR : lc_R y z o (120 * (k + 1)) (D + 1) lo i p hi (ee t)) (hV : lc_V y z P) (hK : lc_two (lcI y (o + 2) i)) (hS : lcI z 82 (120 * (k + 1) + p) = lcI y (o + 2) i) (h4 : lcI y (o + 4) i = nI a2) (h85 : lcI z 85 (120 * (k + 1) + p) = nI h1) (hR' : lc_R y z o (120 * (k + 1)) D lo2 a2 h1 h2 (ee t)) : lc_GO y z t i (dd t) o (120 * (k + 1) + p) (120 * (k + 1)) 1 st := by
  obtain ⟨k', w', v1, v2, v3⟩ := hV
  have hT := lc_T_keep (lcL y 19 4) (lcL z 80 47) h
  have ho := lc_o h.2.2.2.2.2.2.2.2.1
  obtain ⟨y', z', e1, e2, e3⟩ := lc_T_begin (lo := lo) (hi := hi) hT (by decide) (lc_R_ul _ _ _ _ _ _ ho hR) (fun _ _ => ⟨k', w', v1, by rw [lcL_UL, if_pos ⟨rfl, rfl⟩]; exact v2, by rw [lcL_UL, if_pos ⟨rfl, rfl⟩]; exact v3⟩) (lc_R_ul _ _ _ _ _ _ ho hR')
  obtain ⟨⟨b1, b2, b3, b4, b5, b6, b7, b8, b9, b10, b11⟩, a2, a3, a4, a5, a6, a7, a8, a9, a10, a11, a12, a13, a14, a15, a16, a17, a18, a19⟩ := h
  have n1 : lcI y (o + 2) i ≠ 35 ∧ lcI y (o + 2) i ≠ 118 ∧ ¬ lc_one (lcI y (o + 2) i) ∧ lcI y (o + 2) i ≠ 47 ∧ lcI y (o + 2) i ≠ 58 ∧ lcI y (o + 2) i ≠ 63 ∧ lcI y (o + 2) i ≠ 64 ∧ lcI y (o + 2) i ≠ 48 ∧ lcI y (o + 2) i ≠ 120 := by
    rcases hK with h | h | h | h | h | h <;> rw [h] <;> decide
  obtain ⟨n1, n2, n3, n4, n5, n6, n7, n8, n9⟩ := n1
  refine ⟨y', z', ?_, ?_, e3⟩
  · rw [lc_goA, if_neg n1, if_neg n2, if_neg (by decide), if_pos rfl, if_neg n3, lc_goOnA b1 ht' hi' a7 a10 a9, if_neg n4, if_neg n5, if_neg n6, if_neg n7, h4]; exact e1
  · rw [lc_goQ, hS, if_neg n8, if_neg n9, if_neg (by decide), if_neg (by rintro (h | h | h) <;> contradiction), lc_bnd_eq (lc_partsQ2 hK z), if_pos rfl, if_pos rfl, a16, h85, a17]; exact e2
