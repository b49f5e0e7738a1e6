theorem cRow_lt {G : Prop} {c : Nat} {k x : Int32} : cRow G c k x < 4 := by
  unfold cRow cif
  split
  · split
    · split <;> decide
    · decide
  · decide
theorem cRow_0 {G : Prop} {c : Nat} {k x : Int32} (h : cRow G c k x = 0) : vp_in x 7 ∧ G ∧ vp_in k c := by
  unfold cRow at h
  by_cases h1 : vp_in x 7
  · rw [cif_t h1] at h
    by_cases h2 : G
    · rw [cif_t h2] at h
      by_cases h3 : vp_in k c
      · exact ⟨h1, h2, h3⟩
      · rw [cif_f h3] at h; cases h
    · rw [cif_f h2] at h; cases h
  · rw [cif_f h1] at h; cases h
theorem cLet_lt {G : Prop} {b : bF} {k i : Int32} : cLet G b k i < 4 := by
  unfold cLet cif
  split
  · split
    · split <;> decide
    · decide
  · decide
theorem cLet_0 {G : Prop} {b : bF} {k i : Int32} (h : cLet G b k i = 0) : G ∧ vp_in k (sC b) ∧ vp_in i (nmL b (nmA b k.toNatClampNeg)) := by
  unfold cLet at h
  by_cases h1 : G
  · rw [cif_t h1] at h
    by_cases h2 : vp_in k (sC b)
    · rw [cif_t h2] at h
      by_cases h3 : vp_in i (nmL b (nmA b k.toNatClampNeg))
      · exact ⟨h1, h2, h3⟩
      · rw [cif_f h3] at h; cases h
    · rw [cif_f h2] at h; cases h
  · rw [cif_f h1] at h; cases h
theorem cSym_lt {G : Prop} {b : bF} {k i x : Int32} : cSym G b k i x < 4 := by
  unfold cSym cif
  split
  · split
    · split
      · split <;> decide
      · decide
    · decide
  · decide
theorem cSym_0 {G : Prop} {b : bF} {k i x : Int32} (h : cSym G b k i x = 0) : vp_in x 5 ∧ G ∧ vp_in k (sC b) ∧ vp_in i (cO b k.toNatClampNeg) := by
  unfold cSym at h
  by_cases h1 : vp_in x 5
  · rw [cif_t h1] at h
    by_cases h2 : G
    · rw [cif_t h2] at h
      by_cases h3 : vp_in k (sC b)
      · rw [cif_t h3] at h
        by_cases h4 : vp_in i (cO b k.toNatClampNeg)
        · exact ⟨h1, h2, h3, h4⟩
        · rw [cif_f h4] at h; cases h
      · rw [cif_f h3] at h; cases h
    · rw [cif_f h2] at h; cases h
  · rw [cif_f h1] at h; cases h
theorem nmL_le (b : bF) (a : Nat) : nmL b a ≤ 640 := fi_le _ _
theorem nmL_lt {b : bF} {a n : Nat} (h : a + n < 640) (h0 : bg b (a + n) = 0) : nmL b a ≤ n := by
  by_cases q : nmL b a ≤ n
  · exact q
  · exact absurd h0 (fi_no (fun i => bg b (a + i) = 0) 640 n (by unfold nmL at q; omega))
