/-! what the rules before leave: places are in the file -/
theorem gC_lt (b : bF) : gC b < 65536 := bl_lt b 56 2
theorem sC_lt (b : bF) : sC b < 65536 := bl_lt b 60 2
theorem t6_gC {b : bF} (h : t6 b) : nu b 56 2 = gC b := nu_in (by have := h.1; omega)
theorem t6_sC {b : bF} (h : t6 b) : nu b 60 2 = sC b := nu_in (by have := h.1; omega)
theorem t6_nX {b : bF} (h : t6 b) : nu b 62 2 = nX b := nu_in (by have := h.1; omega)
theorem t6_gS {b : bF} (h : t6 b) (k : Nat) : gS b (nI k) = nI (gA b k) := by
  unfold gS gA
  rw [nu_in (by have := h.1; omega), pk_mul, nI_add]
theorem t6_sS {b : bF} (h : t6 b) (k : Nat) : sS b (nI k) = nI (sA b k) := by
  unfold sS sA
  rw [nu_in (by have := h.1; omega), pk_mul, nI_add]
theorem t6_gA {b : bF} (h : t6 b) {k : Nat} (hk : k < gC b) : gA b k + 56 ≤ bn b := by
  have h1 := h.2.1
  unfold gA
  omega
theorem t6_sA {b : bF} (h : t6 b) {k : Nat} (hk : k < sC b) : sA b k + 64 ≤ bn b := by
  have h1 := h.2.2
  unfold sA
  omega
theorem t6_g11 {b : bF} (h : t6 b) : gC b ≤ 11 := by
  have h1 := h.2.1
  have h2 := bn_le b
  omega
theorem t6_s10 {b : bF} (h : t6 b) : sC b ≤ 10 := by
  have h1 := h.2.2
  have h2 := bn_le b
  omega
theorem nm_a0 {b : bF} {a k : Nat} (h : a + k ≤ bn b) : nm b (nI a) k = bl b a k := by
  have h2 := bn_le b
  rw [nm_nI (by omega), nu_in h]
theorem nm_at {b : bF} {a c k : Nat} (h : a + c + k ≤ bn b) : nm b (nI a + nI c) k = bl b (a + c) k := by rw [nI_add, nm_a0 h]
theorem bl_1 (b : bF) (a : Nat) : bl b a 1 = bg b a := by
  show bg b a + 256 * 0 = _
  omega
theorem rl_at {b : bF} (h : t6 b) {k : Nat} (hk : k < sC b) : rl b (nI (sA b k)) = rL b k := by
  have hA := t6_sA h hk
  unfold rl rL kd
  rw [nm_at (by omega), nm_at (by omega)]
/-- the sections' rooms are in the file -/
def t9 (b : bF) : Prop := t6 b ∧ ∀ k, k < sC b → ¬ q9 b k
theorem t9_room {b : bF} (h : t9 b) {k : Nat} (hk : k < sC b) : rP b k + rL b k ≤ bn b := by
  have h1 := h.2 k hk
  unfold q9 at h1
  exact Classical.byContradiction fun q => h1 (Or.inl fun z => q z.2.2.1)
def t12 (b : bF) : Prop := t9 b ∧ ∀ k, k < sC b → ¬ q12 b k
theorem t12_of {b : bF} (h : t12 b) {k : Nat} (hk : k < sC b) (h2 : kd b k = 2) : bl b (sA b k + 56) 8 = 24 ∧ rL b k % 24 = 0 ∧ tX b (lK b k) ∧ bl b (sA b k + 44) 4 ≤ rL b k / 24 := Classical.byContradiction fun q => h.2 k hk ⟨h2, q⟩
theorem nI_nm1 {a : Nat} (h : a < 2 ^ 31) : ¬ nI a = (-1) := fun q => absurd (by rw [q]; decide) (nI_pos h)
theorem zer {b : bF} {a L : Nat} (h : a + L ≤ bn b) : (∀ i, i < L → nm b (nI a + nI i) 1 = 0) ↔ ∀ i, i < L → bg b (a + i) = 0 := by
  refine ⟨fun q i hi => ?_, fun q i hi => ?_⟩
  · have := q i hi
    rw [nm_at (by omega), bl_1] at this
    exact this
  · rw [nm_at (by omega), bl_1]
    exact q i hi
/-- the loaded segment before k, as sinkingSegment holds it -/
def lZ (b : bF) (k : Nat) (z : Int32) : Prop := (z = -1 ∧ ∀ i, i < k → ¬ gL b i) ∨ ∃ j, j < k ∧ z = nI (gA b j) ∧ gL b j ∧ ∀ i, j < i → i < k → ¬ gL b i
theorem lZ_skip {b : bF} {k : Nat} {z : Int32} (h : lZ b k z) (hn : ¬ gL b k) : lZ b (k + 1) z := by
  rcases h with ⟨h1, h2⟩ | ⟨j, h1, h2, h3, h4⟩
  · exact Or.inl ⟨h1, lt_s h2 hn⟩
  · refine Or.inr ⟨j, by omega, h2, h3, fun i hi hk => ?_⟩
    by_cases e : i = k
    · rw [e]; exact hn
    · exact h4 i hi (by omega)
theorem lZ_new {b : bF} {k : Nat} (h : gL b k) : lZ b (k + 1) (nI (gA b k)) := Or.inr ⟨k, by omega, rfl, h, fun i hi hk => by omega⟩
theorem iT_tX {b : bF} (h : t6 b) (v : Nat) : iT b v ↔ tX b v := by
  unfold iT tX
  rw [t6_sC h]
  refine ⟨fun q => ⟨q.1, ?_⟩, fun q => ⟨q.1, ?_⟩⟩
  · have := q.2
    have hA := t6_sA h q.1
    rw [t6_sS h, nm_at (by omega)] at this
    exact this
  · have hA := t6_sA h q.1
    rw [t6_sS h, nm_at (by omega)]
    exact q.2
