/-! a byte is added; a row of bytes is added, highest first -/
def bAdd (b : bF) (x : Nat) : bF := bSz (bPut b (bn b) x) (bn b + 1)
def fd (b : bF) (v : Nat) : Nat → bF
  | 0 => b
  | m + 1 => fd (bAdd b (v / 256 ^ m % 256)) v m
theorem bn_add {b : bF} {x : Nat} (h : bn b < 640) : bn (bAdd b x) = bn b + 1 := bn_sz (by omega)
theorem bn_fd : ∀ (m : Nat) (b : bF) (v : Nat), bn b + m ≤ 640 → bn (fd b v m) = bn b + m
  | 0, _, _, _ => rfl
  | m + 1, b, v, h => by
    show bn (fd (bAdd b (v / 256 ^ m % 256)) v m) = _
    rw [bn_fd m _ v (by rw [bn_add (by omega)]; omega), bn_add (by omega)]
    omega
/-- the byte number i of a long, as the reference takes it -/
theorem lshr_byte (x : Int64) {i : Nat} (hi : i < 8) : (x >>> ((nI 8 * nI i).toInt64 &&& 63) &&& lN 255).toInt32 = nI (uN x / 256 ^ i % 256) := by
  have h : ((((nI 8 * nI i).toInt64 &&& 63)).toBitVec.smod 64).toNat = 8 * i := by
    have hc : i = 0 ∨ i = 1 ∨ i = 2 ∨ i = 3 ∨ i = 4 ∨ i = 5 ∨ i = 6 ∨ i = 7 := by omega
    rcases hc with rfl | rfl | rfl | rfl | rfl | rfl | rfl | rfl <;> decide
  have e : (x >>> ((nI 8 * nI i).toInt64 &&& 63)).toInt = x.toInt >>> (8 * i) := by
    show (BitVec.sshiftRight x.toBitVec (((nI 8 * nI i).toInt64 &&& 63).toBitVec.smod 64).toNat).toInt = _
    rw [h]
    exact BitVec.toInt_sshiftRight ..
  rw [Int.shiftRight_eq_div_pow] at e
  have a1 : uN (x >>> ((nI 8 * nI i).toInt64 &&& 63) &&& lN 255) = uN (x >>> ((nI 8 * nI i).toInt64 &&& 63)) % 256 := by
    rw [uN_and, uN_lN (by decide)]
    exact Nat.and_two_pow_sub_one_eq_mod _ 8
  have h1 := uN_lt x
  have h2 := uN_lt (x >>> ((nI 8 * nI i).toInt64 &&& 63))
  have h3 := uN_int x
  have h4 := uN_int (x >>> ((nI 8 * nI i).toInt64 &&& 63))
  have a2 : uN (x >>> ((nI 8 * nI i).toInt64 &&& 63)) % 256 = uN x / 256 ^ i % 256 := by
    rw [e] at h4
    generalize uN (x >>> ((nI 8 * nI i).toInt64 &&& 63)) = p at h2 h4 ⊢
    generalize x.toInt = z at h3 h4
    have hc : i = 0 ∨ i = 1 ∨ i = 2 ∨ i = 3 ∨ i = 4 ∨ i = 5 ∨ i = 6 ∨ i = 7 := by omega
    rcases hc with rfl | rfl | rfl | rfl | rfl | rfl | rfl | rfl <;> (split at h3 <;> split at h4 <;> omega)
  have a3 : x >>> ((nI 8 * nI i).toInt64 &&& 63) &&& lN 255 = lN (uN x / 256 ^ i % 256) := by
    rw [← lN_uN (x >>> ((nI 8 * nI i).toInt64 &&& 63) &&& lN 255), a1, a2]
  rw [a3, lN_i]
theorem nI_xor {a : Nat} (h : a < 256) (v : Int32) : nI a ^^^ (v &&& nI 255) = nI (a ^^^ (v.toBitVec.toNat % 256)) := by
  rw [pk_and v 8 (by decide)]
  apply Int32.toBitVec_inj.mp
  apply BitVec.eq_of_toNat_eq
  have hv : v.toBitVec.toNat % 2 ^ 8 < 256 := Nat.mod_lt _ (by decide)
  have hx : a ^^^ (v.toBitVec.toNat % 256) < 2 ^ 8 := Nat.xor_lt_two_pow h hv
  rw [Int32.toBitVec_xor, BitVec.toNat_xor, pk_tn (by omega), pk_tn (by omega), pk_tn (by omega)]
theorem xor_lt {a : Nat} (h : a < 256) (n : Nat) : a ^^^ (n % 256) < 256 := Nat.xor_lt_two_pow (n := 8) h (Nat.mod_lt _ (by decide))
noncomputable def cFeed (b : bF) (z : Int32) : Nat := cif (z < nI 1 ∨ nI 8 < z) 1 (cif (bn b + z.toNatClampNeg ≤ 640) 0 2)
theorem cFeed_lt {b : bF} {z : Int32} : cFeed b z < 4 := by
  unfold cFeed cif
  split
  · decide
  · split <;> decide
theorem z_in {z : Int32} (h1 : ¬ z < nI 1) (h2 : z ≤ nI 8) : ∃ N, 1 ≤ N ∧ N ≤ 8 ∧ z = nI N ∧ z.toNatClampNeg = N := by
  have h0 : ¬ z < 0 := fun q => h1 (Int32.lt_iff_toInt_lt.mpr (by
    have := Int32.lt_iff_toInt_lt.mp q
    have e1 : (nI 1).toInt = 1 := by decide
    have e0 : (0 : Int32).toInt = 0 := by decide
    omega))
  obtain ⟨j, hj, rfl⟩ := nI_of h0
  rw [nI_ltI hj (by decide)] at h1
  rw [nI_leI hj (by decide)] at h2
  exact ⟨j, by omega, h2, rfl, nI_clamp hj⟩
theorem cFeed_0 {b : bF} {z : Int32} (h : cFeed b z = 0) : ∃ N, 1 ≤ N ∧ N ≤ 8 ∧ z = nI N ∧ z.toNatClampNeg = N ∧ bn b + N ≤ 640 := by
  unfold cFeed at h
  by_cases h1 : z < nI 1 ∨ nI 8 < z
  · rw [cif_t h1] at h; cases h
  · rw [cif_f h1] at h
    have h2 : ¬ z < nI 1 := fun q => h1 (Or.inl q)
    have h3 : z ≤ nI 8 := Int32.not_lt.mp fun q => h1 (Or.inr q)
    obtain ⟨N, a, c, d, e⟩ := z_in h2 h3
    by_cases h4 : bn b + z.toNatClampNeg ≤ 640
    · exact ⟨N, a, c, d, e, by omega⟩
    · rw [cif_f h4] at h; cases h
