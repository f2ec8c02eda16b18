/-! a turn of define -/
theorem lc_JJr {z z' : lc_S} {oS : Nat} (h : lc_JJ z) (hS : lcR z 1 3 = some oS) (hF : ∀ c k, ¬ (c = 1 ∧ k = 1) → c ≠ 4 → ¬ (5 ≤ c ∧ c ≤ 7) → ¬ (oS ≤ c ∧ c ≤ oS + 8) → ¬ (c = 80 ∧ (k = 0 ∨ k = 1 ∨ k = 13 ∨ k = 14 ∨ k = 15 ∨ k = 16 ∨ k = 19 ∨ k = 23)) → ¬ (82 ≤ c ∧ c ≤ 88 ∧ k < 120) → ¬ (c = 89 ∧ k = 0) → ¬ ((c = 90 ∨ c = 91) ∧ k < 120) → ¬ (92 ≤ c ∧ c ≤ 97) → c ≠ 119 → lcI z' c k = lcI z c k) (hL : ∀ c k, c ≠ 0 → lcL z' c k = lcL z c k) (hR : ∀ c k, c ≠ 4 → lcR z' c k = lcR z c k) (h11 : lcI z' 1 1 = 0) (h81 : lcI z' 80 1 = 0) (h8 : lc_b8 z') : lc_JJ z' := by
  obtain ⟨hdr, hm, hv, h3, -, ⟨os, s1, s2, s3, s4⟩, hP⟩ := id h
  have eS : oS = os 4 := Option.some.inj (hS.symm.trans s2)
  have hS35 := lc_o (s3 4 (by omega))
  have km : lc_km z z' := fun c k g => ⟨hF c k (by omega) (by omega) (by omega) (by omega) (by omega) (by omega) (by omega) (by omega) (by omega) (by omega), hL c k (by omega)⟩
  refine ⟨⟨0, by omega, by rw [h11]; rfl, by rw [h81]; rfl, fun j hj => absurd hj (by omega)⟩, lc_mem_km km hm, lc_vl_km km hv, lc_t3_eq (fun c j a b => hF c j (by omega) (by omega) (by omega) (by omega) (by omega) (by omega) (by omega) (by omega) (by omega) (by omega)) h3, h8, ⟨os, fun k hk => by rw [hR _ _ (by omega)]; exact s1 k hk, by rw [hR _ _ (by omega)]; exact s2, s3, s4⟩, fun j hj => ?_⟩
  refine lc_P1_eq (hP j hj) (hR _ _ (by omega)) (fun o ho hsh c k b1 b2 => ?_) (fun c q b1 b2 b3 b4 b5 => ?_) ?_
  · have eo : o = os j := Option.some.inj (ho.symm.trans (s1 j hj))
    have := lc_o9 (s3 j (by omega)) (s3 4 (by omega)) (s4 j 4 (by omega) (by omega) (by omega))
    have := lc_o hsh
    exact hF _ _ (by omega) (by omega) (by omega) (by omega) (by omega) (by omega) (by omega) (by omega) (by omega) (by omega)
  · exact hF _ _ (by omega) (by omega) (by omega) (by omega) (by omega) (by omega) (by omega) (by omega) (by omega) (by omega)
  · exact hF _ _ (by omega) (by omega) (by omega) (by omega) (by omega) (by omega) (by omega) (by omega) (by omega) (by omega)
theorem lc_defQ {b : Int32} {y z6 : lc_S} (h : fQ_read (lcUI y 80 0 0) = some ((), z6)) : fQ_define b y = if lcI z6 80 14 = 0 then (if b < 0 then some (0, lcUI (lcUI z6 80 1 0) 80 0 1) else if b ≤ 3 then (if lcI z6 80 15 = 0 then fQ_define_58 lc_FU b (120 * (b + 1)) 0 (lcUI z6 80 1 0) else some (0, lcUI (lcUI z6 80 1 0) 80 0 2)) else some (0, lcUI (lcUI z6 80 1 0) 80 0 1)) else some (0, lcUI (lcUI z6 80 1 0) 80 0 1) := by
  have e1 : lcI (lcUI z6 80 1 0) 80 14 = lcI z6 80 14 := by rw [lcI_UI, if_neg (by omega)]
  have e2 : lcI (lcUI z6 80 1 0) 80 15 = lcI z6 80 15 := by rw [lcI_UI, if_neg (by omega)]
  have e30 : ∀ w : lc_S, fQ_define_30 w = some (0, lcUI w 80 0 1) := fun w => rfl
  rw [fQ_define, lc_bnd_eq h, e1, e2]
  simp only [e30, lc_let_eq]
  rfl
theorem lc_defineT (z : lc_S) (b : Int32) (h : lc_JJ z) : ∃ z', lc_tX (fA_define b) (fQ_define b) (fun k => k = 0 ∨ k = 1 ∨ k = 2) z z' ∧ lc_JJ z' := by
  obtain ⟨⟨d, d1, d2, d3, d4⟩, hm, hv, h3, h8, ⟨os, s1, s2, s3, s4⟩, hP⟩ := id h
  obtain ⟨oS, eS⟩ : ∃ oS, oS = os 4 := ⟨_, rfl⟩
  have hS : lcR z 1 3 = some oS := by rw [eS]; exact s2
  have hoS : lc_sh oS = (0, 1, 0) := by rw [eS]; exact s3 4 (by omega)
  have hoS' := lc_o hoS
  have ht : lc_tk (fun j => lcI z 81 j) d := fun j hj => by
    obtain ⟨_, v, a, b, c⟩ := d4 j hj
    exact ⟨v, a, b, c⟩
  obtain ⟨zA, ezA⟩ : ∃ x, x = lcUI z 1 1 0 := ⟨_, rfl⟩
  have oA : ∀ c k, ¬ (c = 1 ∧ k = 1) → lcI zA c k = lcI z c k := fun c k g => by rw [ezA, lcI_UI, if_neg g]
  have A11 : lcI zA 1 1 = 0 := by rw [ezA, lcI_UI, if_pos ⟨rfl, rfl⟩]
  have LA : ∀ c k, lcL zA c k = lcL z c k := fun c k => by rw [ezA]; rfl
  have RA : ∀ c k, lcR zA c k = lcR z c k := fun c k => by rw [ezA]; rfl
  have hyA : ∀ j, j < d → lcI zA 2 j = (fun j => lcI z 81 j) j := fun j hj => by rw [oA _ _ (by omega)]; exact (d4 j hj).1
  -- both readers, from any state of the reference that has the text
  have RD : ∀ yE : lc_S, (∀ c k, 80 ≤ c → lcI yE c k = lcI z c k) → ∃ y' z6, lc_kz oS zA y' ∧ lc_kw (lcUI yE 80 0 0) z6 ∧ lc_b8 z6 ∧ fQ_read (lcUI yE 80 0 0) = some ((), z6) ∧ ((fR_reads 2 (nI d) oS zA = some (0, y') ∧ lcI z6 80 14 = 1) ∨ (fR_reads 2 (nI d) oS zA = some (1, y') ∧ lcI z6 80 14 = 0 ∧ lc_rdd y' z6 oS)) := fun yE hE => by
    have hI : ∀ c k, 80 ≤ c → ¬ (c = 80 ∧ k = 0) → lcI (lcUI yE 80 0 0) c k = lcI z c k := fun c k g1 g2 => by rw [lcI_UI, if_neg g2, hE c k g1]
    exact lc_reads ht hoS zA (lcUI yE 80 0 0) d1 hyA ⟨by rw [hI _ _ (by omega) (by omega)]; exact d3, d1, fun j hj => hI _ _ (by omega) (by omega)⟩ (lc_b8_eq (fun j => hI _ _ (by omega) (by omega)) h8)
  have clsA : fA_define b z = lc_bnd (fA_isProcedureNumber b zA) (fun r11 z11 => if r11 = 0 then (fA_define_36 z11) else (lc_bnr (lcR z11 1 3) (fun q27 => lc_bnd (fR_reads 2 (nI d) q27 z11) (fun r30 z30 => if r30 = 0 then (fA_define_36 z30) else (lc_bnd (fR_metUnboundVariable z30) (fun r48 z48 => if r48 = 0 then (lc_chk (lc_in b 4) (lc_bnr (lcR z48 3 b.toNatClampNeg) (fun q67 => lc_bnr (lcR z48 1 3) (fun q75 => lc_chk (lc_in b 4) (lc_chk (lc_sh q75 = (0, 1, 0)) (lc_chk (lc_in b 4) (lc_bnr (lcR (lcUR (lcUR z48 3 b.toNatClampNeg (some q75)) 1 3 (some q67)) 3 b.toNatClampNeg) (fun q89 => lc_chk (lc_sh q89 = (0, 1, 0)) (lc_chk (lc_in b 4) (lc_bnr (lcR (lcUI (lcUR (lcUR z48 3 b.toNatClampNeg (some q75)) 1 3 (some q67)) q89 0 1) 3 b.toNatClampNeg) (fun q99 => lc_chk (lc_sh q99 = (0, 1, 0)) (some ((0, lcI (lcUI (lcUR (lcUR z48 3 b.toNatClampNeg (some q75)) 1 3 (some q67)) q89 0 1) q99 11), lcUI (lcUR (lcUR z48 3 b.toNatClampNeg (some q75)) 1 3 (some q67)) q89 0 1))))))))))))) else (some ((2, 0), z48)))))))) := by
    rw [fA_define, lc_let_eq, d2, ← ezA]
  -- a refusal leaves all else as it was
  have REF : ∀ (yE z6 : lc_S) (kk : Nat) (v : Int32), (kk = 1 ∨ kk = 2) → lc_kz oS zA yE → lc_kw (lcUI yE 80 0 0) z6 → lc_b8 z6 → lcI z6 80 14 = lcI z6 80 14 → v = lc_code kk → fA_define b z = some ((kk, 0), yE) → fQ_define b yE = some (0, lcUI (lcUI z6 80 1 0) 80 0 v) → ∃ z', lc_tX (fA_define b) (fQ_define b) (fun k => k = 0 ∨ k = 1 ∨ k = 2) z z' ∧ lc_JJ z' := fun yE z6 kk v hk k1 k2 hb8 _ hvv hA hQ => by
    have hk0 : kk ≠ 0 := by rcases hk with e | e <;> omega
    refine ⟨lcUI (lcUI z6 80 1 0) 80 0 v, ⟨kk, 0, yE, 0, lcUI (lcUI z6 80 1 0) 80 0 v, hA, by omega, ?_, ?_, fun e => absurd e hk0⟩, ?_⟩
    · unfold lc_out
      rw [if_neg hk0]; exact hQ
    · rw [fQ_thrown, hvv, lcI_UI, if_pos ⟨rfl, rfl⟩]
    · refine lc_JJr h hS (fun c k g1 g2 g3 g4 g5 g6 g7 g8 g9 g10 => ?_) (fun c k g => ?_) (fun c k g => ?_) ?_ ?_ (lc_b8_o (by decide) (lc_b8_o (by decide) hb8))
      · rw [lcI_UI, if_neg (by omega), lcI_UI, if_neg (by omega), k2.1 c k (by omega) g6 g7 g8 g9 g10, lcI_UI, if_neg (by omega), k1.1 c k g2 g3 g4, oA c k g1]
      · show lcL z6 c k = _
        rw [k2.2.1]
        show lcL yE c k = _
        rw [k1.2.1, LA]
      · show lcR z6 c k = _
        rw [k2.2.2]
        show lcR yE c k = _
        rw [k1.2.2 c k g, RA]
      · rw [lcI_UI, if_neg (by omega), lcI_UI, if_neg (by omega), k2.1 _ _ (by omega) (by omega) (by omega) (by omega) (by omega) (by omega), lcI_UI, if_neg (by omega), k1.1 _ _ (by omega) (by omega) (by omega), A11]
      · rw [lcI_UI, if_neg (by omega), lcI_UI, if_pos ⟨rfl, rfl⟩]
  have kzr : lc_kz oS zA zA := ⟨fun _ _ _ _ _ => rfl, fun _ _ => rfl, fun _ _ _ => rfl⟩
  have outr : (b < 0 ∨ nI 4 ≤ b) → ∃ z', lc_tX (fA_define b) (fQ_define b) (fun k => k = 0 ∨ k = 1 ∨ k = 2) z z' ∧ lc_JJ z' := fun hb => by
    obtain ⟨y', z6, k1, k2, k3, k4, k5⟩ := RD zA (fun c k g => oA c k (by omega))
    refine REF zA z6 1 1 (Or.inl rfl) kzr k2 k3 rfl rfl ?_ ?_
    · have hip : fA_isProcedureNumber b zA = some (0, zA) := by
        rw [fA_isProcedureNumber]
        by_cases hb0 : b < 0
        · rw [if_pos hb0]; rfl
        · rw [if_neg hb0, if_pos (show (4 : Int32) ≤ b from hb.resolve_left hb0)]; rfl
      rw [clsA, lc_bnd_eq hip, if_pos rfl]; rfl
    · rw [lc_defQ k4]
      by_cases hb0 : b < 0
      · rw [if_pos hb0]; split <;> rfl
      · have hb4 : nI 4 ≤ b := hb.resolve_left hb0
        have hb3 : ¬ b ≤ 3 := fun e => absurd (Int32.le_trans hb4 e) (by decide)
        rw [if_neg hb0, if_neg hb3]; split <;> rfl
  rcases pk_ix b (n := 4) (by decide) with hb | hb | ⟨k, hk, rfl⟩
  · exact outr (Or.inl hb)
  · exact outr (Or.inr hb)
  · have c1 : lc_in (nI k) 4 := nI_in hk (by decide)
    have e1 : (nI k).toNatClampNeg = k := nI_clamp (by omega)
    obtain ⟨y', z_, k1, -, -, -, k5⟩ := RD zA (fun c k g => oA c k (by omega))
    have hIy : ∀ c k, 80 ≤ c → lcI y' c k = lcI z c k := fun c k g => by rw [k1.1 c k (by omega) (by omega) (by omega), oA c k (by omega)]
    rw [lc_bnd_eq (lc_ipn1 hk), if_neg (by decide), lc_bnr_eq (show lcR zA 1 3 = some oS by rw [RA]; exact hS)] at clsA
    have nb0 : ¬ nI k < 0 := nI_pos (by omega)
    have nb3 : nI k ≤ 3 := nI_le (b := 3) (by omega) (by decide)
    rcases k5 with ⟨q1, -⟩ | ⟨q1, -, q3⟩
    · -- not a text of a procedure
      obtain ⟨y2, z6, -, m2, m3, m4, m5⟩ := RD y' hIy
      rcases m5 with ⟨-, n2⟩ | ⟨n1, -, -⟩
      · refine REF y' z6 1 1 (Or.inl rfl) k1 m2 m3 rfl rfl (by rw [clsA, lc_bnd_eq q1, if_pos rfl]; rfl) ?_
        rw [lc_defQ m4, if_neg (by rw [n2]; decide)]
      · exact absurd (Prod.mk.inj (Option.some.inj (q1.symm.trans n1))).1 (by decide)
    · obtain ⟨u, hi, τ, σ, e, f, r1, r2, G, w0, w1, -, w3, w4, w5, -⟩ := q3
      have hmu : fR_metUnboundVariable y' = some (u, y') := by rw [fR_metUnboundVariable, w1, lc_chk_pos w0]
      rw [lc_bnd_eq q1, if_neg (by decide), lc_bnd_eq hmu] at clsA
      rcases w0 with w0 | w0
      · -- a text of a procedure
        have hok := s1 k hk
        have rok : lcR y' 3 k = some (os k) := by rw [k1.2.2 _ _ (by omega), RA]; exact hok
        have roS : lcR y' 1 3 = some oS := by rw [k1.2.2 _ _ (by omega), RA]; exact hS
        obtain ⟨yS, eyS⟩ : ∃ x, x = lcUR (lcUR y' 3 k (some oS)) 1 3 (some (os k)) := ⟨_, rfl⟩
        obtain ⟨yE, eyE⟩ : ∃ x, x = lcUI yS oS 0 1 := ⟨_, rfl⟩
        have rS3 : lcR yS 3 k = some oS := by rw [eyS, lcR_UR, if_neg (by omega), lcR_UR, if_pos ⟨rfl, rfl⟩]
        have rE : ∀ c j, ¬ (c = 3 ∧ j = k) → ¬ (c = 1 ∧ j = 3) → lcR yE c j = lcR y' c j := fun c j g1 g2 => by rw [eyE, lcR_UI, eyS, lcR_UR, if_neg g2, lcR_UR, if_neg g1]
        have rE3 : lcR yE 3 k = some oS := by rw [eyE, lcR_UI]; exact rS3
        have rE1 : lcR yE 1 3 = some (os k) := by rw [eyE, lcR_UI, eyS, lcR_UR, if_pos ⟨rfl, rfl⟩]
        have iE : ∀ c j, ¬ (c = oS ∧ j = 0) → lcI yE c j = lcI y' c j := fun c j g => by rw [eyE, lcI_UI, if_neg g, eyS]; rfl
        have hA : fA_define (nI k) z = some ((0, nI hi), yE) := by
          rw [clsA, if_pos w0]
          simp only [lc_chk_pos c1, e1]
          rw [lc_bnr_eq rok, lc_bnr_eq roS, lc_chk_pos hoS, ← eyS, lc_bnr_eq rS3, lc_chk_pos hoS, ← eyE, lc_bnr_eq rE3, lc_chk_pos hoS, iE _ _ (by omega), w5]
        obtain ⟨yO, eyO⟩ : ∃ x, x = lc_out 0 (nI hi) yE := ⟨_, rfl⟩
        have iO : ∀ c j, lcI yO c j = lcI yE c j := fun c j => by rw [eyO, lc_out_I]
        obtain ⟨y2, z6, -, m2, m3, m4, m5⟩ := RD yO (fun c j g => by rw [iO, iE _ _ (by omega), hIy c j g])
        rcases m5 with ⟨n1, -⟩ | ⟨n1, n2, n3⟩
        · exact absurd (Prod.mk.inj (Option.some.inj (q1.symm.trans n1))).1 (by decide)
        · have ey2 : y' = y2 := (Prod.mk.inj (Option.some.inj (q1.symm.trans n1))).2
          rw [← ey2] at n3
          obtain ⟨u', hi', τ', σ', e', f', r1', r2', G', v0, v1, v2, v3, v4, v5, v6, ⟨nb, v7, v8⟩, v9, v10, v11, v12, v13, v14, v15, v16, v17, v18, v19, v20, v21, v22, v23, v24, v25, v26⟩ := n3
          have eu : u' = 0 := by rw [← v1, w1, w0]
          have ehi : hi' = hi := (nI_eq (by omega) (by omega)).mp (v5.symm.trans w5)
          rw [ehi] at v3 v4 v5 v6 v8 v26
          obtain ⟨z6', ez6'⟩ : ∃ x, x = lcUI z6 80 1 0 := ⟨_, rfl⟩
          have i6 : ∀ c j, ¬ (c = 80 ∧ j = 1) → lcI z6' c j = lcI z6 c j := fun c j g => by rw [ez6', lcI_UI, if_neg g]
          obtain ⟨z7, p1, p2, p3, p4, p5⟩ := lc_cpD hk 120 0 lc_FU z6' (by omega) (by unfold lc_FU; omega) (lc_b8_eq (fun j => i6 _ _ (by omega)) m3)
          have h7 : lcI z7 89 0 = nI hi := by rw [p3 _ _ (by omega), i6 _ _ (by omega)]; exact v6
          rw [h7] at p1
          have hQ : fQ_define (nI k) yO = some (nI hi, lcUI z7 89 (k + 1) (nI hi)) := by
            rw [lc_defQ m4, if_pos n2, if_neg nb0, if_pos nb3, if_pos (by rw [v2]; exact eu), ← ez6', nI_1, show (120 : Int32) = nI 120 from rfl, pk_mul]
            exact p1
          obtain ⟨zF, ezF⟩ : ∃ x, x = lcUI z7 89 (k + 1) (nI hi) := ⟨_, rfl⟩
          rw [← ezF] at hQ
          -- what has become of the cells
          have F7 : ∀ c j, ¬ (c = 89 ∧ j = k + 1) → lcI zF c j = lcI z7 c j := fun c j g => by rw [ezF, lcI_UI, if_neg g]
          have FO : ∀ c j, ¬ (c = 80 ∧ (j = 0 ∨ j = 1 ∨ j = 13 ∨ j = 14 ∨ j = 15 ∨ j = 16 ∨ j = 19 ∨ j = 23)) → ¬ (82 ≤ c ∧ c ≤ 91 ∧ c ≠ 89 ∧ (j < 120 ∨ (120 * (k + 1) ≤ j ∧ j < 120 * (k + 1) + 120))) → ¬ (c = 89 ∧ (j = 0 ∨ j = k + 1)) → ¬ (92 ≤ c ∧ c ≤ 97) → c ≠ 119 → lcI zF c j = lcI yE c j := fun c j g1 g2 g3 g4 g5 => by
            rw [F7 c j (by omega), p3 c j (by omega), i6 c j (by omega), m2.1 c j (by omega) (by omega) (by omega) (by omega) g4 g5, lcI_UI, if_neg (by omega), iO]
          have FA : ∀ c j, c < 80 → ¬ (c = oS ∧ j = 0) → lcI zF c j = lcI y' c j := fun c j g1 g2 => by rw [FO c j (by omega) (by omega) (by omega) (by omega) (by omega), iE c j g2]
          have FZ : ∀ c j, ¬ (c = 1 ∧ j = 1) → c ≠ 4 → ¬ (5 ≤ c ∧ c ≤ 7) → ¬ (oS ≤ c ∧ c ≤ oS + 8) → ¬ (c = 80 ∧ (j = 0 ∨ j = 1 ∨ j = 13 ∨ j = 14 ∨ j = 15 ∨ j = 16 ∨ j = 19 ∨ j = 23)) → ¬ (82 ≤ c ∧ c ≤ 91 ∧ c ≠ 89 ∧ (j < 120 ∨ (120 * (k + 1) ≤ j ∧ j < 120 * (k + 1) + 120))) → ¬ (c = 89 ∧ (j = 0 ∨ j = k + 1)) → ¬ (92 ≤ c ∧ c ≤ 97) → c ≠ 119 → lcI zF c j = lcI z c j := fun c j g1 g2 g3 g4 g5 g6 g7 g8 g9 => by
            rw [FO c j g5 g6 g7 g8 g9, iE c j (by omega), k1.1 c j g2 g3 g4, oA c j g1]
          have FR : ∀ c j, lcR zF c j = lcR yE c j := fun c j => by
            rw [ezF]
            show lcR z7 c j = _
            rw [p5, ez6']
            show lcR z6 c j = _
            rw [m2.2.2]
            show lcR yO c j = _
            rw [eyO]
            exact (lc_out_fr 0 (nI hi) yE).2.2 c j
          have FL : ∀ c j, lcL zF c j = lcL yO c j := fun c j => by
            rw [ezF]
            show lcL z7 c j = _
            rw [p4, ez6']
            show lcL z6 c j = _
            rw [m2.2.1]
            rfl
          have FL' : ∀ c j, c ≠ 0 → lcL zF c j = lcL z c j := fun c j g => by
            rw [FL, eyO, (lc_out_fr 0 (nI hi) yE).2.1 c j g, eyE]
            show lcL yS c j = _
            rw [eyS]
            show lcL y' c j = _
            rw [k1.2.1, LA]
          have FC : ∀ c q, (82 ≤ c ∧ c ≤ 88 ∨ c = 90 ∨ c = 91) → q < 120 → lcI zF c (120 * (k + 1) + q) = lcI z6 c q := fun c q g1 g2 => by
            rw [F7 _ _ (by omega), p2 c q g1 (by omega) g2, i6 _ _ (by omega)]
          have km : lc_km z zF := fun c j g => ⟨FZ c j (by omega) (by omega) (by omega) (by omega) (by omega) (by omega) (by omega) (by omega) (by omega), FL' c j (by omega)⟩
          refine ⟨zF, ⟨0, nI hi, yE, nI hi, zF, hA, Or.inl rfl, by rw [← eyO]; exact hQ, ?_, fun _ => ?_⟩, ?_⟩
          · rw [fQ_thrown]
            have : lcI zF 80 0 = 0 := by rw [F7 _ _ (by omega), p3 _ _ (by omega), i6 _ _ (by omega), m2.1 _ _ (by omega) (by omega) (by omega) (by omega) (by omega) (by omega), lcI_UI, if_pos ⟨rfl, rfl⟩]
            rw [this]; rfl
          · rw [FL, eyO]
            unfold lc_out
            rw [if_pos rfl, lcL_UL, if_pos ⟨rfl, rfl⟩]
          · refine ⟨⟨0, by omega, ?_, ?_, fun j hj => absurd hj (by omega)⟩, lc_mem_km km hm, lc_vl_km km hv, lc_t3_eq (fun c j a b => FZ c j (by omega) (by omega) (by omega) (by omega) (by omega) (by omega) (by omega) (by omega) (by omega)) h3, fun j hj => ?_, ?_, fun j hj => ?_⟩
            · rw [FA _ _ (by omega) (by omega), k1.1 _ _ (by omega) (by omega) (by omega), A11]; rfl
            · rw [F7 _ _ (by omega), p3 _ _ (by omega), ez6', lcI_UI, if_pos ⟨rfl, rfl⟩]; rfl
            · rw [F7 _ _ (by omega), p3 _ _ (by omega), i6 _ _ (by omega)]; exact m3 j hj
            · obtain ⟨os', t1, t2, t3⟩ : ∃ os' : Nat → Nat, os' k = os 4 ∧ os' 4 = os k ∧ ∀ j, j ≠ k → j ≠ 4 → os' j = os j := ⟨fun j => if j = k then os 4 else if j = 4 then os k else os j, if_pos rfl, (if_neg (by omega)).trans (if_pos rfl), fun j a b => (if_neg a).trans (if_neg b)⟩
              refine ⟨os', fun j hj => ?_, ?_, fun j hj => ?_, fun i j hi' hj hij => ?_⟩
              · rw [FR]
                by_cases g : j = k
                · rw [g, rE3, t1, eS]
                · rw [rE _ _ (by omega) (by omega), k1.2.2 _ _ (by omega), RA, t3 j g (by omega)]; exact s1 j hj
              · rw [FR, rE1, t2]
              · by_cases g : j = k
                · rw [g, t1]; exact s3 4 (by omega)
                · by_cases g2 : j = 4
                  · rw [g2, t2]; exact s3 k (by omega)
                  · rw [t3 j g g2]; exact s3 j hj
              · by_cases g1 : i = k
                · by_cases g2 : j = 4
                  · rw [g1, g2, t1, t2]; exact s4 4 k (by omega) (by omega) (by omega)
                  · rw [g1, t1, t3 j (by omega) g2]; exact s4 4 j (by omega) (by omega) (by omega)
                · by_cases g2 : i = 4
                  · by_cases g3 : j = k
                    · rw [g2, g3, t1, t2]; exact s4 k 4 (by omega) (by omega) (by omega)
                    · rw [g2, t2, t3 j g3 (by omega)]; exact s4 k j (by omega) (by omega) (by omega)
                  · rw [t3 i g1 g2]
                    by_cases g3 : j = k
                    · rw [g3, t1]; exact s4 i 4 (by omega) (by omega) (by omega)
                    · by_cases g4 : j = 4
                      · rw [g4, t2]; exact s4 i k (by omega) (by omega) (by omega)
                      · rw [t3 j g3 g4]; exact s4 i j hi' hj hij
            · by_cases g : j = k
              · subst g
                have h0 : lcI zF oS 0 = 1 := by rw [FO _ _ (by omega) (by omega) (by omega) (by omega) (by omega), eyE, lcI_UI, if_pos ⟨rfl, rfl⟩]
                have hne : lcI zF oS 0 ≠ 0 := by rw [h0]; decide
                have h89 : lcI zF 89 (j + 1) = nI hi := by rw [ezF, lcI_UI, if_pos ⟨rfl, rfl⟩]
                refine ⟨oS, τ', σ', G', by rw [FR]; exact rE3, hoS, Or.inr ⟨hne, hi, v3, v4, by rw [FA _ _ (by omega) (by omega)]; exact v5, h89, ?_⟩, fun _ => ⟨v9, v10, ⟨e', f', v11, v12, by rw [FA _ _ (by omega) (by omega)]; exact v13, by rw [FA _ _ (by omega) (by omega)]; exact v14, lc_pf_eq τ' 0 e' (fun q _ _ => FA _ _ (by omega) (by omega)) v15, lc_pf_eq σ' e' f' (fun q _ _ => FA _ _ (by omega) (by omega)) v16⟩, ⟨r1', v17, lc_xf_eq τ' 0 r1' (fun q _ _ => FC _ _ (by omega) (by omega)) v18, by rw [FC _ _ (by omega) (by omega)]; exact v19⟩, ⟨r2', v20, lc_xf_eq σ' 0 r2' (fun q _ _ => FC _ _ (by omega) (by omega)) v21, by rw [FC _ _ (by omega) (by omega)]; exact v22⟩⟩, v24, fun e0 => absurd e0 hne, fun _ => ⟨by rw [FA _ _ (by omega) (by omega)]; exact v23, by rw [FA _ _ (by omega) (by omega)]; exact v25, fun n hn hn' c hc => ?_⟩⟩
                · exact lc_Rb_R v7 _ _ _ _ _ _ (lc_Rb_eq (Nat.le_refl _) (fun b _ => FA _ _ (by omega) (by omega)) _ _ _ _ _ _ (fun c q _ _ _ _ => FA _ _ (by omega) (by omega)) (fun c q b1 b2 b3 b4 => by rw [Nat.zero_add]; exact FC _ _ (by omega) (by omega)) v8)
                · have en : n = hi := (nI_eq (by omega) (by omega)).mp (hn.symm.trans h89)
                  rw [en]
                  refine (v26 c hc).trans ⟨fun ⟨q, b1, b2, b3⟩ => ⟨q, b1, ?_, ?_⟩, fun ⟨q, b1, b2, b3⟩ => ⟨q, b1, ?_, ?_⟩⟩
                  · rw [FC _ _ (by omega) (by omega)]; exact b2
                  · rw [FC _ _ (by omega) (by omega)]; exact b3
                  · rw [← FC _ _ (by omega) (by omega)]; exact b2
                  · rw [← FC _ _ (by omega) (by omega)]; exact b3
              · refine lc_P1_eq (hP j hj) ?_ (fun o ho hsh c q b1 b2 => ?_) (fun c q b1 b2 b3 b4 b5 => ?_) ?_
                · rw [FR, rE _ _ (by omega) (by omega), k1.2.2 _ _ (by omega), RA]
                · have eo : o = os j := Option.some.inj (ho.symm.trans (s1 j hj))
                  have := lc_o9 (s3 j (by omega)) (s3 4 (by omega)) (s4 j 4 (by omega) (by omega) (by omega))
                  have := lc_o hsh
                  exact FZ _ _ (by omega) (by omega) (by omega) (by omega) (by omega) (by omega) (by omega) (by omega) (by omega)
                · exact FZ _ _ (by omega) (by omega) (by omega) (by omega) (by omega) (by omega) (by omega) (by omega) (by omega)
                · exact FZ _ _ (by omega) (by omega) (by omega) (by omega) (by omega) (by omega) (by omega) (by omega) (by omega)
      · -- a variable is not bound
        obtain ⟨y2, z6, -, m2, m3, m4, m5⟩ := RD y' hIy
        rcases m5 with ⟨n1, -⟩ | ⟨n1, n2, n3⟩
        · exact absurd (Prod.mk.inj (Option.some.inj (q1.symm.trans n1))).1 (by decide)
        · have ey2 : y' = y2 := (Prod.mk.inj (Option.some.inj (q1.symm.trans n1))).2
          rw [← ey2] at n3
          obtain ⟨u', hi', τ', σ', e', f', r1', r2', G', v0, v1, v2, -⟩ := n3
          have eu : u' = 1 := by rw [← v1, w1, w0]
          refine REF y' z6 2 2 (Or.inr rfl) k1 m2 m3 rfl rfl (by rw [clsA, if_neg (by rw [w0]; decide)]) ?_
          rw [lc_defQ m4, if_pos n2, if_neg nb0, if_pos nb3, if_neg (by rw [v2, eu]; decide)]
