/-! bytes as the class makes them -/
theorem uB_i8 (x : Int32) : uB x.toInt8.toInt32 = uB x := by
  unfold uB
  show (BitVec.signExtend 32 (BitVec.signExtend 8 x.toBitVec)).toNat % 256 = _
  have h1 : (BitVec.signExtend 8 x.toBitVec).toNat = x.toBitVec.toNat % 256 := by
    rw [BitVec.signExtend_eq_setWidth_of_le _ (by decide), BitVec.toNat_setWidth]
  rw [BitVec.toNat_signExtend, BitVec.toNat_setWidth, h1]
  split <;> omega
theorem uB_xor (a v : Int32) : uB (a ^^^ v) = uB a ^^^ (v.toBitVec.toNat % 256) := by
  unfold uB
  rw [Int32.toBitVec_xor, BitVec.toNat_xor]
  exact Nat.xor_mod_two_pow (n := 8)
theorem uB_l (y : Int64) : uB y.toInt32 = uN y % 256 := by
  unfold uB
  show (BitVec.signExtend 32 y.toBitVec).toNat % 256 = y.toBitVec.toNat % 256
  rw [BitVec.signExtend_eq_setWidth_of_le _ (by decide), BitVec.toNat_setWidth]
  omega
theorem uB_nI {g : Nat} (h : g < 256) : uB (nI g) = g := by
  unfold uB
  rw [pk_tn (by omega)]
  omega
theorem uB_sx {g : Nat} (h : g < 256) (v : Int32) : uB (sB g ^^^ v).toInt8.toInt32 = g ^^^ (v.toBitVec.toNat % 256) := by
  rw [uB_i8, uB_xor]
  unfold sB
  rw [uB_i8, uB_nI h]
theorem uB_sk (x : Int64) {i : Nat} (hi : i < 8) : uB ((x.toUInt64 >>> ((nI 8 * nI i).toInt64.toUInt64 &&& Int64.toUInt64 63)).toInt64.toInt32.toInt8.toInt32) = uN x / 256 ^ i % 256 := by
  have e : nI 8 * nI i = nI (8 * i) := by
    have hc : i = 0 ∨ i = 1 ∨ i = 2 ∨ i = 3 ∨ i = 4 ∨ i = 5 ∨ i = 6 ∨ i = 7 := by omega
    rcases hc with rfl | rfl | rfl | rfl | rfl | rfl | rfl | rfl <;> decide
  rw [uB_i8, uB_l, e, uN_sk x (by omega), Nat.pow_mul]
