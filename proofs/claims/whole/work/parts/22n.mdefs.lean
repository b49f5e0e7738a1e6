/-- the marks of the rooms before k -/
def tkS (b : bF) (t : Nat → Int32) : Nat → Nat → Int32
  | 0 => t
  | k + 1 => tm (tkS b t k) (rP b k) (rL b k)
theorem tkS_n {b : bF} {t : Nat → Int32} (hP : tkP b t) : ∀ (k i : Nat), i < 640 → (¬ tkS b t k i = 0 ↔ mH b i ∨ ∃ j, j < k ∧ rP b j ≤ i ∧ i < rP b j + rL b j)
  | 0, i, hi => by
    refine (hP i hi).trans ⟨Or.inl, fun q => q.elim id (fun ⟨j, h, _⟩ => absurd h (Nat.not_lt_zero _))⟩
  | k + 1, i, hi => by
    show ¬ tm (tkS b t k) (rP b k) (rL b k) i = 0 ↔ _
    rw [tm_n, tkS_n hP k i hi]
    refine ⟨fun q => ?_, fun q => ?_⟩
    · rcases q with q | q | ⟨j, h1, h2⟩
      · exact Or.inr ⟨k, Nat.lt_succ_self _, q⟩
      · exact Or.inl q
      · exact Or.inr ⟨j, Nat.lt_succ_of_lt h1, h2⟩
    · rcases q with q | ⟨j, h1, h2⟩
      · exact Or.inr (Or.inl q)
      · by_cases e : j = k
        · rw [e] at h2
          exact Or.inl h2
        · exact Or.inr (Or.inr ⟨j, Nat.lt_of_le_of_ne (Nat.le_of_lt_succ h1) e, h2⟩)
theorem tkS_m {b : bF} {t : Nat → Int32} (h9 : t9 b) (hP : tkP b t) {k : Nat} (hk : k < sC b) : (∃ i, rP b k ≤ i ∧ i < rP b k + rL b k ∧ ¬ tkS b t k i = 0) ↔ q10 b k := by
  have hR := t9_room h9 hk
  have hB := bn_le b
  unfold q10
  rw [← ov_ex, ← ov_ex, ← ov_ex]
  refine ⟨fun ⟨i, a, c, d⟩ => ?_, fun q => ?_⟩
  · rcases (tkS_n hP k i (Nat.lt_of_lt_of_le c (Nat.le_trans hR hB))).mp d with q | ⟨j, h1, h2⟩
    · rcases q with q | q | q
      · exact Or.inl ⟨i, a, c, Nat.zero_le _, by rw [Nat.zero_add]; exact q⟩
      · exact Or.inr (Or.inl ⟨i, a, c, q⟩)
      · exact Or.inr (Or.inr (Or.inl ⟨i, a, c, q⟩))
    · exact Or.inr (Or.inr (Or.inr ⟨j, h1, ov_ex.mp ⟨i, a, c, h2⟩⟩))
  · have go : ∀ i, rP b k ≤ i → i < rP b k + rL b k → (mH b i ∨ ∃ j, j < k ∧ rP b j ≤ i ∧ i < rP b j + rL b j) → ∃ i, rP b k ≤ i ∧ i < rP b k + rL b k ∧ ¬ tkS b t k i = 0 := fun i a c d => ⟨i, a, c, (tkS_n hP k i (Nat.lt_of_lt_of_le c (Nat.le_trans hR hB))).mpr d⟩
    rcases q with ⟨i, a, c, _, d⟩ | ⟨i, a, c, d⟩ | ⟨i, a, c, d⟩ | ⟨j, h1, h2⟩
    · exact go i a c (Or.inl (Or.inl (by rw [Nat.zero_add] at d; exact d)))
    · exact go i a c (Or.inl (Or.inr (Or.inl d)))
    · exact go i a c (Or.inl (Or.inr (Or.inr d)))
    · obtain ⟨i, a, c, d⟩ := ov_ex.mpr h2
      exact go i a c (Or.inr ⟨j, h1, d⟩)
noncomputable def mV9 (w : mS) : mS := if oI (q9 w.1) (sC w.1) ≠ -1 then mB w (nI 9) (oI (q9 w.1) (sC w.1)) else if oI (q10 w.1) (sC w.1) ≠ -1 then mB (w.1, w.2.1, tkS w.1 w.2.2.1 (fi (q10 w.1) (sC w.1) + 1), w.2.2.2) (nI 10) (oI (q10 w.1) (sC w.1)) else (w.1, w.2.1, tkS w.1 w.2.2.1 (sC w.1), w.2.2.2)
