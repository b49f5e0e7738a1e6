/-! bits of a number of eight bytes -/
def pc (v : Nat) : Nat → Nat
  | 0 => 0
  | n + 1 => pc v n + v / 2 ^ n % 2
theorem pc_s (v : Nat) : ∀ n, pc v (n + 1) = v % 2 + pc (v / 2) n
  | 0 => by
    show 0 + v / 2 ^ 0 % 2 = v % 2 + 0
    rw [Nat.pow_zero, Nat.div_one]
    omega
  | n + 1 => by
    have h := pc_s v n
    show pc v (n + 1) + v / 2 ^ (n + 1) % 2 = v % 2 + (pc (v / 2) n + v / 2 / 2 ^ n % 2)
    rw [h, Nat.div_div_eq_div_mul, Nat.pow_succ, Nat.mul_comm 2 (2 ^ n)]
    omega
theorem pc_0 : ∀ (n v : Nat), v < 2 ^ n → (pc v n = 0 ↔ v = 0)
  | 0, v, h => by
    have : v = 0 := by
      rw [Nat.pow_zero] at h
      omega
    exact ⟨fun _ => this, fun _ => rfl⟩
  | n + 1, v, h => by
    have h1 := pc_0 n (v / 2) (by rw [Nat.pow_succ] at h; omega)
    rw [pc_s]
    omega
theorem pc_1 : ∀ (n v : Nat), v < 2 ^ n → (pc v n ≤ 1 ↔ pw v)
  | 0, v, h => by
    have : v = 0 := by
      rw [Nat.pow_zero] at h
      omega
    exact ⟨fun _ => Or.inl this, fun _ => Nat.zero_le _⟩
  | n + 1, v, h => by
    have h2 : v / 2 < 2 ^ n := by rw [Nat.pow_succ] at h; omega
    have h0 := pc_0 n (v / 2) h2
    have h1 := pc_1 n (v / 2) h2
    rw [pc_s]
    by_cases e : v % 2 = 1
    · refine ⟨fun q => Or.inr ⟨0, ?_⟩, fun q => ?_⟩
      · rw [Nat.pow_zero]
        omega
      · rcases q with q | ⟨k, q⟩
        · omega
        · cases k with
          | zero => rw [Nat.pow_zero] at q; omega
          | succ k => rw [Nat.pow_succ] at q; omega
    · have e2 : v % 2 = 0 := by omega
      rw [e2, Nat.zero_add, h1]
      refine ⟨fun q => ?_, fun q => ?_⟩
      · rcases q with q | ⟨k, q⟩
        · exact Or.inl (by omega)
        · exact Or.inr ⟨k + 1, by rw [Nat.pow_succ]; omega⟩
      · rcases q with q | ⟨k, q⟩
        · exact Or.inl (by omega)
        · cases k with
          | zero => rw [Nat.pow_zero] at q; omega
          | succ k => exact Or.inr ⟨k, by rw [Nat.pow_succ] at q; omega⟩
theorem bl_div (b : bF) (a i m : Nat) : bl b a (i + m) / 256 ^ i = bl b (a + i) m := by
  rw [bl_add, Nat.add_mul_div_left _ _ (Nat.pow_pos (by decide)), Nat.div_eq_of_lt (bl_lt b a i), Nat.zero_add]
theorem byte_bit (g X j : Nat) (hj : j < 8) : (g + 256 * X) / 2 ^ j % 2 = g / 2 ^ j % 2 := by
  have h : j = 0 ∨ j = 1 ∨ j = 2 ∨ j = 3 ∨ j = 4 ∨ j = 5 ∨ j = 6 ∨ j = 7 := by omega
  rcases h with rfl | rfl | rfl | rfl | rfl | rfl | rfl | rfl <;> omega
theorem bit_eq (b : bF) (a k : Nat) (hk : k < 64) : bit b a k = bl b a 8 / 2 ^ k % 2 := by
  unfold bit
  obtain ⟨m, hm⟩ : ∃ m, 8 = k / 8 + (m + 1) := ⟨8 - k / 8 - 1, by omega⟩
  have e1 : 2 ^ k = 256 ^ (k / 8) * 2 ^ (k % 8) := by
    rw [show (256 : Nat) = 2 ^ 8 from rfl, ← Nat.pow_mul, ← Nat.pow_add]
    congr 1
    omega
  have e2 : bl b a 8 / 256 ^ (k / 8) = bl b (a + k / 8) (m + 1) := by
    have h := bl_div b a (k / 8) (m + 1)
    rw [← hm] at h
    exact h
  rw [e1, ← Nat.div_div_eq_div_mul, e2]
  show _ = (bg b (a + k / 8) + 256 * bl b (a + k / 8 + 1) m) / 2 ^ (k % 8) % 2
  rw [byte_bit _ _ _ (by omega)]
theorem pcn_pc (b : bF) (a : Nat) : ∀ n, n ≤ 64 → pcn b a n = pc (bl b a 8) n
  | 0, _ => rfl
  | n + 1, h => by
    show pcn b a n + bit b a n = pc (bl b a 8) n + bl b a 8 / 2 ^ n % 2
    rw [pcn_pc b a n (by omega), bit_eq b a n (by omega)]
theorem pcn_0 (b : bF) (a : Nat) : pcn b a 64 = 0 ↔ bl b a 8 = 0 := by rw [pcn_pc b a 64 (by omega), pc_0 64 _ (bl_q8 b a)]
theorem pcn_1 (b : bF) (a : Nat) : pcn b a 64 ≤ 1 ↔ pw (bl b a 8) := by rw [pcn_pc b a 64 (by omega), pc_1 64 _ (bl_q8 b a)]
theorem bit_01 (b : bF) (a k : Nat) : bit b a k < 2 := Nat.mod_lt _ (by decide)
theorem pcn_le (b : bF) (a : Nat) : ∀ n, pcn b a n ≤ n
  | 0 => Nat.le_refl _
  | n + 1 => by
    have := pcn_le b a n
    have := bit_01 b a n
    show pcn b a n + bit b a n ≤ n + 1
    omega
theorem sh_r {n r : Nat} (hn : n < 2 ^ 31) (hr : r < 8) : nI n >>> (nI r &&& 31) = nI (n / 2 ^ r) := by
  refine pk_shrN hn _ r ?_
  have h : r = 0 ∨ r = 1 ∨ r = 2 ∨ r = 3 ∨ r = 4 ∨ r = 5 ∨ r = 6 ∨ r = 7 := by omega
  rcases h with rfl | rfl | rfl | rfl | rfl | rfl | rfl | rfl <;> decide
/-- a bit as the reference reads it -/
theorem bit_v (b : bF) (a j : Nat) (hj : j < 64) : nI (bg b (a + j / 8)) >>> (nI (j % 8) &&& 31) &&& nI 1 = nI (bit b a j) := by
  have h := bg_lt b (a + j / 8)
  rw [sh_r (by omega) (by omega), pk_andN (Nat.lt_of_le_of_lt (Nat.div_le_self _ _) (by omega)) 1 (by decide)]
  rfl
theorem low_eq (x y m : Nat) : (∀ k, k < m → x / 2 ^ k % 2 = y / 2 ^ k % 2) ↔ x % 2 ^ m = y % 2 ^ m := by
  refine ⟨fun h => ?_, fun h k hk => ?_⟩
  · apply Nat.eq_of_testBit_eq
    intro i
    rw [Nat.testBit_mod_two_pow, Nat.testBit_mod_two_pow]
    by_cases q : i < m
    · rw [Nat.testBit_eq_decide_div_mod_eq, Nat.testBit_eq_decide_div_mod_eq, h i q]
    · simp [q]
  · have e : Nat.testBit (x % 2 ^ m) k = Nat.testBit (y % 2 ^ m) k := by rw [h]
    rw [Nat.testBit_mod_two_pow, Nat.testBit_mod_two_pow, Nat.testBit_eq_decide_div_mod_eq, Nat.testBit_eq_decide_div_mod_eq] at e
    simp only [hk, decide_true, Bool.true_and, decide_eq_decide] at e
    have a1 : x / 2 ^ k % 2 < 2 := Nat.mod_lt _ (by decide)
    have a2 : y / 2 ^ k % 2 < 2 := Nat.mod_lt _ (by decide)
    generalize x / 2 ^ k % 2 = p at e a1 ⊢
    generalize y / 2 ^ k % 2 = q at e a2 ⊢
    have e2 : (p = 1) ↔ (q = 1) := e
    by_cases c : p = 1
    · have := e2.mp c
      omega
    · have : ¬ q = 1 := fun z => c (e2.mpr z)
      omega
theorem pow_bit (m k : Nat) : (2 ^ m) / 2 ^ k % 2 = 1 ↔ k = m := by
  have h := Nat.testBit_two_pow (n := m) (m := k)
  rw [Nat.testBit_eq_decide_div_mod_eq] at h
  simp only [decide_eq_decide] at h
  rw [h]
  exact ⟨fun q => q.symm, fun q => q.symm⟩
theorem rem_8 (j : Nat) : nI j - nI (j / 8) * nI 8 = nI (j % 8) := by
  rw [pk_mul, pk_sub (by omega)]
  congr 1
  omega
theorem pcn_s (b : bF) (a j : Nat) : nI (pcn b a j) + nI (bit b a j) = nI (pcn b a (j + 1)) := nI_add _ _
