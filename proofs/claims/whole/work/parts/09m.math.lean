/-! numbers behind the class's rules -/
theorem uN_z (x : Int64) : x = lN 0 ↔ uN x = 0 := uN_eq0 x
theorem uN_neg (x : Int64) : uN (-x) = (18446744073709551616 - uN x) % 18446744073709551616 := UInt64.toNat_neg x.toUInt64
theorem rx_i1 : (nI 1 = 0) = False := eq_false (by decide)
theorem rx_i0 : (nI 0 = 0) = True := eq_true rfl
theorem nI_z {a : Nat} (h : a < 2 ^ 31) : nI a = 0 ↔ a = 0 := nI_eq (b := 0) h (by decide)
theorem rem8 (x : Int64) : x - x / lN 8 * lN 8 = lN 0 ↔ uN x % 8 = 0 := by
  have hx := uN_lt x
  have hq := uN_lt (x / lN 8)
  have e8 : uN (lN 8) = 8 := by decide
  have t8 : (lN 8).toInt = 8 := by decide
  have ti := Int64.toInt_div_of_ne_right x (lN 8) (by decide)
  have ix := uN_int x
  have iq := uN_int (x / lN 8)
  generalize x / lN 8 = q at hq ti iq ⊢
  rw [uN_z, uN_sub, uN_mul, e8]
  refine ⟨fun h => by omega, fun h => ?_⟩
  have hd : (8 : Int) ∣ x.toInt := by
    rw [ix]
    split <;> omega
  rw [t8] at ti
  have h2 := Int.tdiv_mul_cancel hd
  rw [← ti] at h2
  rw [iq, ix] at h2
  split at h2 <;> split at h2 <;> omega
theorem pw_iff (x : Int64) : x &&& (x - lN 1) = lN 0 ↔ pw (uN x) := by
  have h := uN_lt x
  rw [uN_z, uN_and]
  by_cases h0 : uN x = 0
  · rw [h0]
    exact ⟨fun _ => Or.inl rfl, fun _ => Nat.zero_and _⟩
  · have e : uN (x - lN 1) = uN x - 1 := by
      rw [uN_sub, uN_lN (by decide)]
      omega
    rw [e, Nat.and_sub_one_eq_zero_iff_isPowerOfTwo h0]
    exact ⟨Or.inr, fun q => q.resolve_left h0⟩
theorem al_0 {x : Int64} {al : Nat} (h : pw al) (h0 : ¬ al = 0) (hb : al < 18446744073709551616) : x &&& (lN al - lN 1) = lN 0 ↔ uN x % al = 0 := by
  obtain ⟨k, rfl⟩ := h.resolve_left h0
  have e : uN (lN (2 ^ k) - lN 1) = 2 ^ k - 1 := by
    rw [uN_sub, uN_lN hb, uN_lN (by decide)]
    have h1 := Nat.two_pow_pos k
    generalize 2 ^ k = z at h1 hb ⊢
    omega
  rw [uN_z, uN_and, e, Nat.and_two_pow_sub_one_eq_mod]
theorem al_m {al a b M : Nat} (hd : al ∣ M) (hb : b ≤ M) : (a + (M - b)) % M % al = 0 ↔ a % al = b % al := by
  rw [Nat.mod_mod_of_dvd _ hd]
  obtain ⟨c, rfl⟩ := hd
  have e1 : (((a + (al * c - b)) % al : Nat) : Int) = ((a : Int) - b) % al := by
    have e2 : ((a + (al * c - b) : Nat) : Int) = (a : Int) - b + al * c := by
      rw [Int.natCast_add, Int.ofNat_sub hb, Int.natCast_mul]
      omega
    rw [Int.natCast_emod, e2, Int.add_mul_emod_self_left]
  have e3 : (a % al = b % al) ↔ ((a : Int) % al = (b : Int) % al) := by
    rw [← Int.natCast_emod, ← Int.natCast_emod]
    exact ⟨fun h => by rw [h], fun h => by exact_mod_cast h⟩
  rw [e3, Int.emod_eq_emod_iff_emod_sub_eq_zero, ← e1]
  omega
theorem al_2 {ad pl al : Nat} (h : pw al) (h0 : ¬ al = 0) (hb : al < 18446744073709551616) (ha : ad < 18446744073709551616) (hp : pl < 18446744073709551616) : (lN ad - lN pl) &&& (lN al - lN 1) = lN 0 ↔ ad % al = pl % al := by
  rw [al_0 h h0 hb, uN_sub, uN_lN ha, uN_lN hp]
  obtain ⟨k, rfl⟩ := h.resolve_left h0
  have hk : k ≤ 64 := by
    by_cases q : k ≤ 64
    · exact q
    · have := Nat.pow_le_pow_right (n := 2) (by decide) (show 64 ≤ k by omega)
      omega
  exact al_m (M := 18446744073709551616) (Nat.pow_dvd_pow 2 hk) (by omega)
theorem ov_m {p l q k : Nat} (h1 : l = 0 ∨ p + l ≤ 1000) (h2 : k = 0 ∨ q + k ≤ 1000) (hl : l ≤ 1000000000) (hk : k ≤ 1000000000) : (¬ lN l = lN 0 ∧ ¬ lN k = lN 0 ∧ lN p < lN q + lN k ∧ lN q < lN p + lN l) ↔ ovl p l q k := by
  unfold ovl
  rw [pk_lEQ (by omega) (by omega), pk_lEQ (by omega) (by omega), lN_add, lN_add]
  by_cases a : l = 0
  · exact ⟨fun h => absurd a h.1, fun h => absurd a h.1⟩
  · by_cases b : k = 0
    · exact ⟨fun h => absurd b h.2.1, fun h => absurd b h.2.1⟩
    · rw [pk_lLT (by omega) (by omega), pk_lLT (by omega) (by omega)]
theorem ov_t {p c X Y : Nat} (h1 : c = 0 ∨ p + c ≤ 1000) (h2 : X + Y ≤ 1000) (hc : c ≤ 1000000000) : (¬ (nI c).toInt64 = lN 0 ∧ ¬ lN Y = lN 0 ∧ (nI p).toInt64 < lN X + lN Y ∧ lN X < (nI p).toInt64 + (nI c).toInt64) ↔ ovl p c X Y := by
  rw [nI_l (n := c) (by omega)]
  by_cases a : c = 0
  · subst a
    exact ⟨fun h => absurd rfl h.1, fun h => absurd rfl h.1⟩
  · rw [nI_l (n := p) (by omega)]
    exact ov_m h1 (Or.inr h2) hc (by omega)
theorem uN_ex (x : Int64) : ∃ X, X = uN x ∧ x = lN X := ⟨uN x, rfl, (lN_uN x).symm⟩
