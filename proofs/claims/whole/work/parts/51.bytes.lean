/-! the bytes of a long -/
def lc_by (x : Int64) (i : Nat) : Nat := uN x / 2 ^ (8 * i) % 256
theorem lc_by_lt (x : Int64) (i : Nat) : lc_by x i < 256 := Nat.mod_lt _ (by decide)
theorem lc_8i (i : Nat) : (8 : Int32) * nI i = nI (8 * i) := by rw [show (8 : Int32) = nI 8 from rfl, pk_mul]
theorem lc_lNuN (x : Int64) : x = lN (uN x) := by
  apply uN_inj
  show uN x = (lN (uN x)).toBitVec.toNat
  rw [lN_nat (uN_lt x)]
theorem lc_shr (x : Int64) {i : Nat} (hi : i < 8) : (x.toUInt64 >>> ((8 * nI i).toInt64.toUInt64 &&& Int64.toUInt64 63)).toInt64 = lN (uN x / 2 ^ (8 * i)) := by
  rw [lc_8i]
  have h := uN_sk x (k := 8 * i) (by omega)
  rw [← h]
  exact lc_lNuN _
theorem lc_byQ (x : Int64) {i : Nat} (hi : i < 8) : (x.toUInt64 >>> ((8 * nI i).toInt64.toUInt64 &&& Int64.toUInt64 63)).toInt64 &&& 255 = lN (lc_by x i) := by
  rw [lc_shr x hi, show (255 : Int64) = lN (2 ^ 8 - 1) from rfl, wb_mask (Nat.lt_of_le_of_lt (Nat.div_le_self _ _) (uN_lt x)) (by decide)]
  rfl
theorem lc_byA (x : Int64) {i : Nat} (hi : i < 8) (z : lc_S) : fA_byteOf x (nI i) z = some (nI (lc_by x i), z) := by
  rw [fA_byteOf, lc_shr x hi, lN_i, show (255 : Int32) = nI (2 ^ 8 - 1) from rfl]
  congr 2
  rw [pk_and (nI (uN x / 2 ^ (8 * i))) 8 (by decide)]
  unfold lc_by
  congr 1
  show (Int32.ofNat (uN x / 2 ^ (8 * i))).toBitVec.toNat % 2 ^ 8 = _
  have : (Int32.ofNat (uN x / 2 ^ (8 * i))).toBitVec.toNat = uN x / 2 ^ (8 * i) % 2 ^ 32 := by
    show (BitVec.ofNat 32 (uN x / 2 ^ (8 * i))).toNat = _
    rw [BitVec.toNat_ofNat]
  rw [this, Nat.mod_mod_of_dvd _ (by decide)]
