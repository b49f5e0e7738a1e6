/-! Numbers: truth values as ints, unsigned longs (uN: pasted from the kit's BITS.to-paste), rows of bytes read lowest first. -/
def uN (x : Int64) : Nat := x.toUInt64.toNat
theorem uN_lt (x : Int64) : uN x < 18446744073709551616 := x.toUInt64.toNat_lt
theorem uN_inj {x y : Int64} (h : uN x = uN y) : x = y := congrArg UInt64.toInt64 (UInt64.toNat_inj.mp h)
theorem uN_add (x y : Int64) : uN (x + y) = (uN x + uN y) % 18446744073709551616 := by
  show (x.toUInt64 + y.toUInt64).toNat = _
  exact UInt64.toNat_add _ _
theorem uN_mul (x y : Int64) : uN (x * y) = (uN x * uN y) % 18446744073709551616 := by
  show (x.toUInt64 * y.toUInt64).toNat = _
  exact UInt64.toNat_mul _ _
theorem uN_shl (x : Int64) : uN (x <<< ((1 : Int32).toInt64 &&& 63)) = (2 * uN x) % 18446744073709551616 := by
  have h : (((1 : Int32).toInt64 &&& 63).toBitVec.smod 64).toNat = 1 := by decide
  show (x.toBitVec <<< (((1 : Int32).toInt64 &&& 63).toBitVec.smod 64).toNat).toNat = _
  rw [h, BitVec.toNat_shiftLeft, Nat.shiftLeft_eq, Nat.mul_comm]
  rfl
theorem uN_shr (x : Int64) (s : UInt64) : uN (x.toUInt64 >>> s).toInt64 = uN x / 2 ^ (s.toNat % 64) := by
  show (x.toUInt64 >>> s).toNat = _
  rw [UInt64.toNat_shiftRight, Nat.shiftRight_eq_div_pow]
  rfl
theorem uN_s32 (x : Int64) : uN (x.toUInt64 >>> ((32 : Int32).toInt64.toUInt64 &&& Int64.toUInt64 63)).toInt64 = uN x / 4294967296 := by
  have h : ((32 : Int32).toInt64.toUInt64 &&& Int64.toUInt64 63).toNat % 64 = 32 := by decide
  rw [uN_shr, h]
theorem uN_s63 (x : Int64) : uN (x.toUInt64 >>> ((63 : Int32).toInt64.toUInt64 &&& Int64.toUInt64 63)).toInt64 = uN x / 9223372036854775808 := by
  have h : ((63 : Int32).toInt64.toUInt64 &&& Int64.toUInt64 63).toNat % 64 = 63 := by decide
  rw [uN_shr, h]
theorem uN_lo (x : Int64) : uN (x &&& 4294967295) = uN x % 4294967296 := by
  show (x.toUInt64 &&& Int64.toUInt64 4294967295).toNat = _
  rw [UInt64.toNat_and]
  exact Nat.and_two_pow_sub_one_eq_mod _ 32
theorem uN_bit (x : Int64) : (x &&& 1) = 0 ↔ uN x % 2 = 0 := by
  have h : uN (x &&& 1) = uN x % 2 := by
    show (x.toUInt64 &&& Int64.toUInt64 1).toNat = _
    rw [UInt64.toNat_and]
    exact Nat.and_two_pow_sub_one_eq_mod _ 1
  rw [← h]
  exact ⟨fun z => by rw [z]; rfl, fun z => uN_inj (z.trans rfl)⟩
theorem uN_or {x y : Int64} (hy : uN y < 2) : uN ((x <<< ((1 : Int32).toInt64 &&& 63)) ||| y) = (2 * uN x) % 18446744073709551616 + uN y := by
  have h1 : uN ((x <<< ((1 : Int32).toInt64 &&& 63)) ||| y) = uN (x <<< ((1 : Int32).toInt64 &&& 63)) ||| uN y := UInt64.toNat_or _ _
  have h2 : (2 * uN x) % 18446744073709551616 = 2 ^ 1 * (uN x % 9223372036854775808) := by omega
  rw [h1, uN_shl, h2]
  exact (Nat.two_pow_add_eq_or_of_lt (i := 1) hy _).symm
theorem nat_xor {a : Nat} (h : a < 18446744073709551616) : a ^^^ 2 ^ 63 = (a + 9223372036854775808) % 18446744073709551616 := by
  have h1 : (a ^^^ 2 ^ 63) % 2 ^ 63 = a % 2 ^ 63 := by rw [Nat.xor_mod_two_pow, Nat.mod_self, Nat.xor_zero]
  have h2 : (a ^^^ 2 ^ 63) / 2 ^ 63 = (a / 2 ^ 63) ^^^ 1 := by rw [Nat.xor_div_two_pow, Nat.div_self (Nat.two_pow_pos 63)]
  have h3 : a / 2 ^ 63 = 0 ∨ a / 2 ^ 63 = 1 := by omega
  generalize a ^^^ 2 ^ 63 = t at h1 h2
  rcases h3 with h3 | h3
  · rw [h3] at h2
    have h2 : t / 2 ^ 63 = 1 := h2
    omega
  · rw [h3] at h2
    have h2 : t / 2 ^ 63 = 0 := h2
    omega
theorem uN_xor (x : Int64) : uN (x ^^^ (-9223372036854775808)) = (uN x + 9223372036854775808) % 18446744073709551616 := by
  rw [← nat_xor (uN_lt x)]
  exact UInt64.toNat_xor _ _
theorem uN_int (x : Int64) : x.toInt = if 2 * uN x < 18446744073709551616 then (uN x : Int) else (uN x : Int) - 18446744073709551616 := BitVec.toInt_eq_toNat_cond _
theorem uN_le (x y : Int64) : (x ^^^ (-9223372036854775808)) ≤ (y ^^^ (-9223372036854775808)) ↔ uN x ≤ uN y := by
  have hx := uN_lt x
  have hy := uN_lt y
  rw [Int64.le_iff_toInt_le, uN_int, uN_int, uN_xor, uN_xor]
  omega
theorem uN_sk (x : Int64) {k : Nat} (hk : k < 64) : uN (x.toUInt64 >>> ((nI k).toInt64.toUInt64 &&& Int64.toUInt64 63)).toInt64 = uN x / 2 ^ k := by
  have h : ((nI k).toInt64.toUInt64 &&& Int64.toUInt64 63).toNat % 64 = k := by
    rw [nI_l (by omega), UInt64.toNat_and]
    have e : (lN k).toUInt64.toNat = k % 2 ^ 64 := rfl
    have e2 : (Int64.toUInt64 63).toNat = 2 ^ 6 - 1 := by decide
    rw [e, e2, Nat.and_two_pow_sub_one_eq_mod]
    omega
  rw [uN_shr, h]
theorem uN_lN {n : Nat} (h : n < 18446744073709551616) : uN (lN n) = n := by
  show (UInt64.ofNat n).toNat = n
  rw [UInt64.toNat_ofNat']
  exact Nat.mod_eq_of_lt h
theorem uN_lNm (n : Nat) : uN (lN n) = n % 18446744073709551616 := by
  show (UInt64.ofNat n).toNat = _
  rw [UInt64.toNat_ofNat']
theorem lN_uN (x : Int64) : lN (uN x) = x := uN_inj (uN_lN (uN_lt x))
theorem uN_sub (x y : Int64) : uN (x - y) = (uN x + (18446744073709551616 - uN y)) % 18446744073709551616 := by
  show (x.toUInt64 - y.toUInt64).toNat = _
  rw [UInt64.toNat_sub]
  show ((2 ^ 64 - y.toUInt64.toNat) + x.toUInt64.toNat) % 2 ^ 64 = (x.toUInt64.toNat + (18446744073709551616 - y.toUInt64.toNat)) % 18446744073709551616
  rw [Nat.add_comm]
theorem uN_and (x y : Int64) : uN (x &&& y) = uN x &&& uN y := UInt64.toNat_and _ _
theorem uN_lt2 (x y : Int64) : (x ^^^ (-9223372036854775808)) < (y ^^^ (-9223372036854775808)) ↔ uN x < uN y := by
  have hx := uN_lt x
  have hy := uN_lt y
  rw [Int64.lt_iff_toInt_lt, uN_int, uN_int, uN_xor, uN_xor]
  omega
theorem uN_eq0 (x : Int64) : x = 0 ↔ uN x = 0 := ⟨fun h => by rw [h]; rfl, fun h => uN_inj (h.trans rfl)⟩
theorem uN_pos (x : Int64) : 0 ≤ x ↔ uN x < 9223372036854775808 := by
  have hx := uN_lt x
  rw [Int64.le_iff_toInt_le, show (0 : Int64).toInt = 0 from rfl, uN_int x]
  split <;> omega
noncomputable def bI (P : Prop) : Int32 := @ite Int32 P (Classical.propDecidable P) (nI 1) (nI 0)
theorem bI_t {P : Prop} (h : P) : bI P = nI 1 := if_pos h
theorem bI_f {P : Prop} (h : ¬ P) : bI P = nI 0 := if_neg h
theorem bI_z {P : Prop} : bI P = 0 ↔ ¬ P := by
  by_cases h : P
  · rw [bI_t h]
    exact ⟨fun q => absurd q (by decide), fun q => absurd h q⟩
  · rw [bI_f h]
    exact ⟨fun _ => h, fun _ => rfl⟩
theorem bI_0 {P : Prop} : nI 0 = bI P ↔ ¬ P := ⟨fun h => bI_z.mp (h.symm.trans rfl), fun h => (bI_f h).symm⟩
theorem bI_1 {P : Prop} : nI 1 = bI P ↔ P := ⟨fun h => Classical.byContradiction fun q => absurd (h.trans (bI_f q)) (by decide), fun h => (bI_t h).symm⟩
theorem bI_iff {P Q : Prop} (h : P ↔ Q) : bI P = bI Q := by rw [propext h]
theorem bI_nar (P : Prop) : narrow .boolean (.int (bI P)) = .int (bI P) := by
  by_cases h : P
  · rw [bI_t h]; rfl
  · rw [bI_f h]; rfl
theorem rt_z (P : Prop) : tr_rt (some .boolean) (some (.int (bI P))) := ⟨_, rfl, bI_nar P⟩
theorem rt_i (x : Int32) : tr_rt (some .int) (some (.int x)) := ⟨_, rfl, rfl⟩
theorem rt_l (x : Int64) : tr_rt (some .long) (some (.long x)) := rfl
theorem rt_v : tr_rt none none := rfl
/-- the least number below c with P, or c -/
noncomputable def fi (P : Nat → Prop) : Nat → Nat
  | 0 => 0
  | c + 1 => @ite Nat (fi P c < c ∨ P c) (Classical.propDecidable _) (fi P c) (c + 1)
theorem fi_le (P : Nat → Prop) : ∀ c, fi P c ≤ c
  | 0 => Nat.le_refl _
  | c + 1 => by
    unfold fi
    by_cases h : fi P c < c ∨ P c
    · rw [if_pos h]; exact Nat.le_succ_of_le (fi_le P c)
    · rw [if_neg h]; exact Nat.le_refl _
theorem fi_no (P : Nat → Prop) : ∀ c i, i < fi P c → ¬ P i
  | 0, i, h => absurd h (Nat.not_lt_zero _)
  | c + 1, i, h => by
    have hl := fi_le P c
    unfold fi at h
    by_cases q : fi P c < c ∨ P c
    · rw [if_pos q] at h; exact fi_no P c i h
    · rw [if_neg q] at h
      have q1 : fi P c = c := by omega
      by_cases e : i = c
      · subst e; exact fun z => q (Or.inr z)
      · exact fi_no P c i (by omega)
theorem fi_yes (P : Nat → Prop) : ∀ c, fi P c < c → P (fi P c)
  | 0, h => absurd h (Nat.not_lt_zero _)
  | c + 1, h => by
    have hl := fi_le P c
    unfold fi at h ⊢
    by_cases q : fi P c < c ∨ P c
    · rw [if_pos q] at h ⊢
      by_cases e : fi P c < c
      · exact fi_yes P c e
      · have e1 : fi P c = c := by omega
        rw [e1]
        rcases q with q | q
        · exact absurd q e
        · exact q
    · rw [if_neg q] at h; omega
theorem fi_eq {P : Nat → Prop} {c k : Nat} (h1 : ∀ i, i < k → ¬ P i) (h2 : k < c → P k) (h3 : k ≤ c) : fi P c = k := by
  have a := fi_le P c
  by_cases q : fi P c < k
  · exact absurd (fi_yes P c (by omega)) (h1 _ q)
  · by_cases q2 : k < fi P c
    · exact absurd (h2 (by omega)) (fi_no P c k q2)
    · omega
theorem fi_cg {P Q : Nat → Prop} {c : Nat} (h : ∀ i, i < c → (P i ↔ Q i)) : fi P c = fi Q c := by
  have a := fi_le Q c
  refine fi_eq (fun i hi z => fi_no Q c i hi ((h i (by omega)).mp z)) (fun hk => (h _ hk).mpr (fi_yes Q c hk)) a
theorem fi_all {P : Nat → Prop} {c : Nat} (h : fi P c = c) : ∀ i, i < c → ¬ P i := fun i hi => fi_no P c i (by omega)
/-- the number found, or -1 -/
noncomputable def oI (P : Nat → Prop) (c : Nat) : Int32 := if fi P c < c then nI (fi P c) else (-1)
theorem oI_some {P : Nat → Prop} {c k : Nat} (h1 : ∀ i, i < k → ¬ P i) (h2 : P k) (h3 : k < c) : oI P c = nI k := by
  unfold oI
  rw [fi_eq (k := k) h1 (fun _ => h2) (by omega), if_pos h3]
theorem oI_none {P : Nat → Prop} {c : Nat} (h1 : ∀ i, i < c → ¬ P i) : oI P c = (-1) := by
  unfold oI
  rw [fi_eq (k := c) h1 (fun h => absurd h (Nat.lt_irrefl _)) (Nat.le_refl _), if_neg (Nat.lt_irrefl _)]
theorem oI_cg {P Q : Nat → Prop} {c : Nat} (h : ∀ i, i < c → (P i ↔ Q i)) : oI P c = oI Q c := by
  unfold oI
  rw [fi_cg h]
/-- k bytes from place a on, lowest first -/
def le (g : Nat → Nat) : Nat → Nat → Nat
  | _, 0 => 0
  | a, k + 1 => g a + 256 * le g (a + 1) k
theorem le_lt {g : Nat → Nat} (hg : ∀ i, g i < 256) : ∀ (k a : Nat), le g a k < 256 ^ k
  | 0, _ => Nat.one_pos
  | k + 1, a => by
    have h1 := le_lt hg k (a + 1)
    have h2 := hg a
    unfold le
    rw [Nat.pow_succ]
    omega
/-- a file: how many bytes, and the bytes -/
abbrev bF : Type := { q : Nat × (Nat → Nat) // q.1 ≤ 640 ∧ ∀ i, q.2 i < 256 }
def bn (b : bF) : Nat := b.1.1
def bg (b : bF) : Nat → Nat := b.1.2
theorem bn_le (b : bF) : bn b ≤ 640 := b.2.1
theorem bg_lt (b : bF) (i : Nat) : bg b i < 256 := b.2.2 i
abbrev bl (b : bF) (a k : Nat) : Nat := le (bg b) a k
theorem bl_lt (b : bF) (a k : Nat) : bl b a k < 256 ^ k := le_lt (bg_lt b) k a
/-- what the class's Row.number answers -/
def nu (b : bF) (a k : Nat) : Nat := if a + k ≤ bn b then bl b a k else 0
def nm (b : bF) (x : Int32) (k : Nat) : Nat := if x < 0 then 0 else nu b x.toNatClampNeg k
theorem nm_nI {b : bF} {a k : Nat} (h : a < 2 ^ 31) : nm b (nI a) k = nu b a k := by
  unfold nm
  rw [if_neg (nI_pos h), nI_clamp h]
theorem nu_lt (b : bF) (a k : Nat) : nu b a k < 256 ^ k := by
  unfold nu
  split
  · exact bl_lt b a k
  · exact Nat.pow_pos (by decide)
theorem nm_lt (b : bF) (x : Int32) (k : Nat) : nm b x k < 256 ^ k := by
  unfold nm
  split
  · exact Nat.pow_pos (by decide)
  · exact nu_lt b _ k
theorem nu_in {b : bF} {a k : Nat} (h : a + k ≤ bn b) : nu b a k = bl b a k := if_pos h
theorem nu_1 (b : bF) (a : Nat) : nu b a 1 < 256 := nu_lt b a 1
theorem nu_2 (b : bF) (a : Nat) : nu b a 2 < 65536 := nu_lt b a 2
theorem nu_4 (b : bF) (a : Nat) : nu b a 4 < 4294967296 := nu_lt b a 4
theorem nu_8 (b : bF) (a : Nat) : nu b a 8 < 18446744073709551616 := nu_lt b a 8
theorem nm_1 (b : bF) (x : Int32) : nm b x 1 < 256 := nm_lt b x 1
theorem nm_2 (b : bF) (x : Int32) : nm b x 2 < 65536 := nm_lt b x 2
theorem nm_4 (b : bF) (x : Int32) : nm b x 4 < 4294967296 := nm_lt b x 4
theorem nm_8 (b : bF) (x : Int32) : nm b x 8 < 18446744073709551616 := nm_lt b x 8
/-- a byte as Java holds it -/
def sB (v : Nat) : Int32 := (nI v).toInt8.toInt32
theorem sB_and {v : Nat} (h : v < 256) : sB v &&& nI 255 = nI v := sc_k8 v h
theorem lN_sh8 {v b : Nat} (hv : v < 2 ^ 56) (hb : b < 256) : (lN v <<< ((nI 8).toInt64 &&& 63)) ||| lN b = lN (b + 256 * v) := by
  apply uN_inj
  have h : (((nI 8).toInt64 &&& 63).toBitVec.smod 64).toNat = 8 := by decide
  have h1 : uN (lN v <<< ((nI 8).toInt64 &&& 63)) = 2 ^ 8 * v := by
    show ((lN v).toBitVec <<< (((nI 8).toInt64 &&& 63).toBitVec.smod 64).toNat).toNat = _
    rw [h, BitVec.toNat_shiftLeft, Nat.shiftLeft_eq]
    have e : (lN v).toBitVec.toNat = v := uN_lN (n := v) (by omega)
    rw [e]
    omega
  have h2 : uN ((lN v <<< ((nI 8).toInt64 &&& 63)) ||| lN b) = uN (lN v <<< ((nI 8).toInt64 &&& 63)) ||| uN (lN b) := UInt64.toNat_or _ _
  rw [h2, h1, uN_lN (by omega), uN_lN (by omega), ← Nat.two_pow_add_eq_or_of_lt (i := 8) (by omega)]
  omega
theorem nI_add0 (x : Int32) : x + nI 0 = x := by
  show x + 0 = x
  simp
