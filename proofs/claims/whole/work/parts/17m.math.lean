theorem c3_lt (a b : Nat) : c3 a b < 0 ↔ a < b := by
  unfold c3
  by_cases h : a < b
  · rw [if_pos h]
    exact ⟨fun _ => h, fun _ => by decide⟩
  · rw [if_neg h]
    refine ⟨fun q => ?_, fun q => absurd q h⟩
    split at q
    · exact absurd q (by decide)
    · exact absurd q (by decide)
theorem c3_ge (a b : Nat) : 0 ≤ c3 a b ↔ b ≤ a := by
  rw [← Int32.not_lt, c3_lt]
  omega
theorem nI_lt1 {a : Nat} (h : a < 2 ^ 31) : nI 1 < nI a ↔ ¬ a ≤ 1 := by
  rw [nI_ltI (by decide) h]
  omega
/-- a sum of two numbers of eight bytes, by halves -/
theorem sum_h (p q r s : Nat) : (p + q) + 4294967296 * (r + s) = (r + s + (p + q) / 4294967296) * 4294967296 + (p + q) % 4294967296 := by omega
theorem lRem2 {a : Nat} (ha : a < 2 ^ 62) : lN a - lN (a / 4294967296) * lN 4294967296 = lN (a % 4294967296) := by
  rw [lN_mul, lN_sub (by omega)]
  congr 1
  omega
theorem bl4_odd (b : bF) (a : Nat) : bl b a 4 % 2 = bg b a % 2 := by
  have h := bl_2 b a
  have h2 := bl_4 b a
  omega
