theorem le10 : (nI 1 ≤ 0) = False := eq_false (by decide)
theorem le20 : (nI 2 ≤ 0) = False := eq_false (by decide)
theorem le30 : (nI 3 ≤ 0) = False := eq_false (by decide)
theorem le00 : (nI 0 ≤ 0) = True := eq_true (by decide)
theorem mG_eq (w : mS) : (¬ w.2.2.2.1 = 0 ∧ w.2.2.2.2.1 = 0) = mG w := rfl
theorem shr32 (x : Int64) : (x >>> ((nI 32).toInt64 &&& 63)).toInt = x.toInt / 4294967296 := by
  have h : (((nI 32).toInt64 &&& 63).toBitVec.smod 64).toNat = 32 := by decide
  have e : (x >>> ((nI 32).toInt64 &&& 63)).toInt = x.toInt >>> 32 := by
    show (BitVec.sshiftRight x.toBitVec (((nI 32).toInt64 &&& 63).toBitVec.smod 64).toNat).toInt = _
    rw [h]
    exact BitVec.toInt_sshiftRight ..
  rw [e, Int.shiftRight_eq_div_pow]
  rfl
theorem uN_hi (x : Int64) : uN (x >>> ((nI 32).toInt64 &&& 63) &&& lN 4294967295) = uN x / 4294967296 := by
  have e1 := uN_lo (x >>> ((nI 32).toInt64 &&& 63))
  have e2 : lN 4294967295 = (4294967295 : Int64) := rfl
  have h1 := uN_lt x
  have h2 := uN_lt (x >>> ((nI 32).toInt64 &&& 63))
  have h3 := uN_int x
  have h4 := uN_int (x >>> ((nI 32).toInt64 &&& 63))
  have h5 := shr32 x
  rw [e2, e1]
  generalize uN (x >>> ((nI 32).toInt64 &&& 63)) = p at h2 h4 ⊢
  rw [h5] at h4
  generalize x.toInt = z at h3 h4
  split at h3 <;> split at h4 <;> omega
theorem uN_low (x : Int64) : uN (x &&& lN 4294967295) = uN x % 4294967296 := uN_lo x
