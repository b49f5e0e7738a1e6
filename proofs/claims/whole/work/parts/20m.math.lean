theorem tm_0 {t : Nat → Int32} {x : Nat} : tm t x 0 = t := by
  funext i
  exact if_neg (by omega)
theorem tm_s {t : Nat → Int32} {x j : Nat} : upd (tm t x j) (x + j) (vp_nar .boolean (nI 1)) = tm t x (j + 1) := by
  funext i
  have e : vp_nar .boolean (nI 1) = nI 1 := by decide
  unfold upd tm
  by_cases h : i = x + j
  · rw [if_pos h, if_pos (by omega), e]
  · rw [if_neg h]
    by_cases h2 : x ≤ i ∧ i < x + j
    · rw [if_pos h2, if_pos (by omega)]
    · rw [if_neg h2, if_neg (by omega)]
theorem mkv_lt (k : Nat) : mkv k < 128 := by
  unfold mkv
  repeat' split
  all_goals omega
theorem nI_le0 {a : Nat} (h : a < 2 ^ 31) : nI a ≤ 0 ↔ a = 0 := by
  have e := nI_leI (a := a) (b := 0) h (by decide)
  rw [nI_0] at e
  rw [e]
  omega
theorem mkv_hi {k : Nat} (h : 7 ≤ k) : mkv k = 0 := by
  unfold mkv
  rw [if_neg (by omega), if_neg (by omega), if_neg (by omega), if_neg (by omega), if_neg (by omega), if_neg (by omega)]
theorem q2_iff (b : bF) : q2 b ↔ ∀ i, i < 4 → bg b i = mkv i := by
  refine ⟨fun h i hi => ?_, fun h => ⟨h 0 (by omega), h 1 (by omega), h 2 (by omega), h 3 (by omega)⟩⟩
  have hc : i = 0 ∨ i = 1 ∨ i = 2 ∨ i = 3 := by omega
  rcases hc with rfl | rfl | rfl | rfl
  · exact h.1
  · exact h.2.1
  · exact h.2.2.1
  · exact h.2.2.2
theorem q3_iff (b : bF) : q3 b ↔ ∀ i, 4 ≤ i → i < 16 → bg b i = mkv i := by
  refine ⟨fun h i hi hl => ?_, fun h => ⟨h 4 (by omega) (by omega), h 5 (by omega) (by omega), h 6 (by omega) (by omega), fun i hi => (h (7 + i) (by omega) (by omega)).trans (mkv_hi (by omega))⟩⟩
  have hc : i = 4 ∨ i = 5 ∨ i = 6 ∨ ∃ j, j < 9 ∧ i = 7 + j := by
    by_cases q : i < 7
    · omega
    · exact Or.inr (Or.inr (Or.inr ⟨i - 7, by omega, by omega⟩))
  rcases hc with rfl | rfl | rfl | ⟨j, hj, rfl⟩
  · exact h.1
  · exact h.2.1
  · exact h.2.2.1
  · rw [mkv_hi (by omega)]
    exact h.2.2.2 j hj
theorem mU_no {w : mS} {P : Prop} {x y : Int32} (h : ¬ P) : mU w P x y = mB w x y := if_neg h
theorem mU_ok {w : mS} {P : Prop} {x y : Int32} (h : P) : mU w P x y = w := if_pos h
theorem r5_leaf {w : mS} {r : Nat} (e : r5 w.1 = r) (h : ¬ r = 0) : mB w (nI r) (-1) = mU w (r5 w.1 = 0) (nI (r5 w.1)) (-1) ∧ bI True = bI (¬ r5 w.1 = 0) := by
  rw [e, mU_no h]
  exact ⟨rfl, bI_iff ⟨fun _ => h, fun _ => trivial⟩⟩
