/-! values of a run: kind 1 number, 2 cell, 3 pair, and a word -/
def lc_w (x : Int32) : Nat := x.toBitVec.toNat
theorem lc_w_lt (x : Int32) : lc_w x < 4294967296 := x.toBitVec.isLt
theorem lc_nI_w (x : Int32) : nI (lc_w x) = x := Int32.toBitVec_inj.mp (by show BitVec.ofNat 32 _ = _; unfold lc_w; simp)
theorem lc_nI_mod (k w : Nat) : nI (k * 4294967296 + w) = nI w := Int32.toBitVec_inj.mp (by
  show BitVec.ofNat 32 _ = BitVec.ofNat 32 _
  apply BitVec.eq_of_toNat_eq
  rw [BitVec.toNat_ofNat, BitVec.toNat_ofNat]
  omega)
theorem lc_w_nI {w : Nat} (h : w < 4294967296) : lc_w (nI w) = w := by
  show (BitVec.ofNat 32 w).toNat = w
  rw [BitVec.toNat_ofNat, Nat.mod_eq_of_lt h]
def lc_cv (k w : Nat) : Int64 := lN (k * 4294967296 + w)
def lc_mv (k w : Nat) : Int64 := lN ((k - 1) * 4294967296 + w)
theorem lc_low (x : Int32) : x.toInt64 &&& 4294967295 = lN (lc_w x) := by
  apply uN_inj
  rw [uN_lo]
  have h1 : uN x.toInt64 % 4294967296 = lc_w x := by
    show (x.toBitVec.signExtend 64).toNat % 4294967296 = x.toBitVec.toNat
    rw [BitVec.toNat_signExtend]
    have := x.toBitVec.isLt
    rw [BitVec.toNat_setWidth]
    split <;> omega
  rw [h1]
  show _ = (lN (lc_w x)).toBitVec.toNat
  rw [wb_tn (by have := lc_w_lt x; omega)]
theorem lc_of {k : Nat} (hk : k < 4) (x : Int32) (z : lc_S) : fV_of (nI k) x z = some (lc_cv k (lc_w x), z) := by
  have hw := lc_w_lt x
  rw [fV_of, lc_low, nI_l (by omega), show (32 : Int32) = nI 32 from rfl, wb_shl k (by decide), show (2 : Nat) ^ 32 = 4294967296 from rfl, g_or (k := 32) rfl hw (by omega)]
  rfl
theorem lc_hi32 {k w : Nat} (hk : k < 4) (hw : w < 4294967296) : lc_cv k w >>> ((32 : Int32).toInt64 &&& 63) = lN k := by
  unfold lc_cv
  rw [pf_shr (d := 32) (by decide) (by omega), show (k * 4294967296 + w) / 2 ^ 32 = k by omega]
theorem lc_lo32 (k w : Nat) : (lc_cv k w).toInt32 = nI w := by
  unfold lc_cv
  rw [lN_i, lc_nI_mod]
theorem lc_cmz {a b : Nat} (ha : a < 2 ^ 31) (hb : b < 2 ^ 31) : lg_cmp (lN a) (lN b) = 0 ↔ a = b := by
  rw [lc_cm ha hb]
  by_cases h : b < a
  · rw [if_pos h]; exact ⟨fun h => absurd h (by decide), fun h => by omega⟩
  · rw [if_neg h]
    by_cases h1 : a = b
    · rw [if_pos h1]; exact ⟨fun _ => h1, fun _ => rfl⟩
    · rw [if_neg h1]; exact ⟨fun h => absurd h (by decide), fun h => absurd h h1⟩
theorem lc_isN {k w : Nat} (hk : k < 4) (hw : w < 4294967296) (z : lc_S) : fV_isNumber (lc_cv k w) z = some (if k = 1 then 1 else 0, z) := by
  rw [fV_isNumber, lc_hi32 hk hw, show (1 : Int64) = lN 1 from rfl]
  by_cases h : k = 1
  · rw [if_pos ((lc_cmz (by omega) (by decide)).mpr h), if_pos h]
  · rw [if_neg (fun h' => h ((lc_cmz (by omega) (by decide)).mp h')), if_neg h]
theorem lc_isC {k w : Nat} (hk : k < 4) (hw : w < 4294967296) (z : lc_S) : fV_isCell (lc_cv k w) z = some (if k = 2 then 1 else 0, z) := by
  rw [fV_isCell, lc_hi32 hk hw, show (2 : Int64) = lN 2 from rfl]
  by_cases h : k = 2
  · rw [if_pos ((lc_cmz (by omega) (by decide)).mpr h), if_pos h]
  · rw [if_neg (fun h' => h ((lc_cmz (by omega) (by decide)).mp h')), if_neg h]
theorem lc_isP {k w : Nat} (hk : k < 4) (hw : w < 4294967296) (z : lc_S) : fV_isPair (lc_cv k w) z = some (if k = 3 then 1 else 0, z) := by
  rw [fV_isPair, lc_hi32 hk hw, show (3 : Int64) = lN 3 from rfl]
  by_cases h : k = 3
  · rw [if_pos ((lc_cmz (by omega) (by decide)).mpr h), if_pos h]
  · rw [if_neg (fun h' => h ((lc_cmz (by omega) (by decide)).mp h')), if_neg h]
theorem lc_kd {k w : Nat} (hk : k < 4) (hw : w < 4294967296) (z : lc_S) : fV_kindOf (lc_cv k w) z = some (nI k, z) := by
  rw [fV_kindOf, lc_hi32 hk hw, lN_i]
theorem lc_wo (k w : Nat) (z : lc_S) : fV_wordOf (lc_cv k w) z = some (nI w, z) := by
  rw [fV_wordOf, lc_lo32]
/-! the reference's -/
theorem lc_plain (x : Int32) (z : lc_S) : fQ_plain x.toInt64 z = some (lc_mv 1 (lc_w x), z) := by
  rw [fQ_plain, lc_low]
  unfold lc_mv
  simp
theorem lc_mhi {k w : Nat} (hk : k < 4) (hw : w < 4294967296) : lc_mv k w >>> ((32 : Int32).toInt64 &&& 63) = lN (k - 1) := by
  unfold lc_mv
  rw [pf_shr (d := 32) (by decide) (by omega), show ((k - 1) * 4294967296 + w) / 2 ^ 32 = k - 1 by omega]
theorem lc_mlo (k w : Nat) : (lc_mv k w).toInt32 = nI w := by
  unfold lc_mv
  rw [lN_i, lc_nI_mod]
theorem lc_isNQ {k w : Nat} (h0 : 0 < k) (hk : k < 4) (hw : w < 4294967296) (z : lc_S) : fQ_isNumber (lc_mv k w) z = some (if k = 1 then 1 else 0, z) := by
  rw [fQ_isNumber, lc_mhi hk hw, show (0 : Int64) = lN 0 from rfl]
  by_cases h : k = 1
  · rw [if_pos ((lc_cmz (by omega) (by decide)).mpr (by omega)), if_pos h]
  · rw [if_neg (fun h' => h (by have := (lc_cmz (by omega) (by decide)).mp h'; omega)), if_neg h]
theorem lc_cmn {a b : Nat} (ha : a < 2 ^ 63) (hb : b < 2 ^ 63) : lg_cmp (lN a) (lN b) < 0 ↔ a < b := by
  unfold lg_cmp
  by_cases h : lN a > lN b
  · rw [if_pos h]
    have := (pk_lLT hb ha).mp h
    exact ⟨fun h => absurd h (by decide), fun h => by omega⟩
  · rw [if_neg h]
    have h2 : ¬ b < a := fun h' => h ((pk_lLT hb ha).mpr h')
    by_cases h1 : lN a = lN b
    · rw [if_pos h1]
      have := (pk_lEQ ha hb).mp h1
      exact ⟨fun h => absurd h (by decide), fun h => by omega⟩
    · rw [if_neg h1]
      have : a ≠ b := fun h' => h1 (by rw [h'])
      exact ⟨fun _ => by omega, fun _ => by decide⟩
theorem lc_cmge {x y : Int64} : 0 ≤ lg_cmp x y ↔ ¬ lg_cmp x y < 0 := by
  unfold lg_cmp
  by_cases h : x > y
  · rw [if_pos h]; decide
  · rw [if_neg h]
    by_cases h1 : x = y
    · rw [if_pos h1]; decide
    · rw [if_neg h1]; decide
/-- below PAIR: no pair -/
theorem lc_ltP {k w : Nat} (h0 : 0 < k) (hk : k < 4) (hw : w < 4294967296) : lg_cmp (lc_mv k w) 8589934592 < 0 ↔ k < 3 := by
  unfold lc_mv
  rw [show (8589934592 : Int64) = lN 8589934592 from rfl, lc_cmn (by omega) (by decide)]
  omega
theorem lc_ltC {k w : Nat} (h0 : 0 < k) (hk : k < 4) (hw : w < 4294967296) : lg_cmp (lc_mv k w) 4294967296 < 0 ↔ k < 2 := by
  unfold lc_mv
  rw [show (4294967296 : Int64) = lN 4294967296 from rfl, lc_cmn (by omega) (by decide)]
  omega
theorem lc_isCQ {k w : Nat} (h0 : 0 < k) (hk : k < 4) (hw : w < 4294967296) (z : lc_S) : fQ_isCell (lc_mv k w) z = some (if k = 2 then 1 else 0, z) := by
  rw [fQ_isCell]
  by_cases h : k < 2
  · rw [if_pos ((lc_ltC h0 hk hw).mpr h), if_neg (by omega)]; rfl
  · rw [if_neg (fun h' => h ((lc_ltC h0 hk hw).mp h'))]
    by_cases h1 : k < 3
    · rw [if_neg (fun h' => lc_cmge.mp h' ((lc_ltP h0 hk hw).mpr h1)), if_pos (by omega)]
    · rw [if_pos (lc_cmge.mpr (fun h' => h1 ((lc_ltP h0 hk hw).mp h'))), if_neg (by omega)]; rfl
