/-- the marks behind a verdict -/
noncomputable def tJ (b : bF) (t : Nat → Int32) : Nat → Int32 := @ite (Nat → Int32) (r5 b = 0) (Classical.propDecidable _) (@ite (Nat → Int32) (q6 b ∧ oI (q7 b) (gC b) = -1 ∧ oI (q8 b) (gC b) = -1) (Classical.propDecidable _) (mV9 (b, 0, tk6 b t, 0, 0, 0)).2.2.1 (tk6 b t)) t
/-- rules 1 to 13 hold -/
def gd (b : bF) : Prop := r5 b = 0 ∧ q6 b ∧ oI (q7 b) (gC b) = -1 ∧ oI (q8 b) (gC b) = -1 ∧ oI (q9 b) (sC b) = -1 ∧ oI (q10 b) (sC b) = -1 ∧ r11 b = -1 ∧ oI (q12 b) (sC b) = -1 ∧ oI (q13 b) (sC b) = -1
theorem rH_5 {b : bF} (h : ¬ r5 b = 0) : rH b = r5 b := by
  unfold rH r5 at *
  by_cases h1 : bn b < 64
  · rw [if_pos h1, if_pos h1]
  · rw [if_neg h1, if_neg h1]
    by_cases h2 : q2 b
    · rw [if_pos h2, if_pos h2]
      by_cases h3 : q3 b
      · rw [if_pos h3, if_pos h3]
        by_cases h4 : q4 b
        · rw [if_pos h4, if_pos h4]
          by_cases h5 : q5 b
          · rw [if_neg h1, if_pos h2, if_pos h3, if_pos h4, if_pos h5] at h
            exact absurd rfl h
          · rw [if_neg h5, if_neg h5]
        · rw [if_neg h4, if_neg h4]
      · rw [if_neg h3, if_neg h3]
    · rw [if_neg h2, if_neg h2]
theorem rH_6 {b : bF} (h : r5 b = 0) : rH b = @ite Nat (q6 b) (Classical.propDecidable _) 0 6 := by
  unfold r5 at h
  unfold rH
  by_cases h1 : bn b < 64
  · rw [if_pos h1] at h
    cases h
  · rw [if_neg h1] at h ⊢
    by_cases h2 : q2 b
    · rw [if_pos h2] at h ⊢
      by_cases h3 : q3 b
      · rw [if_pos h3] at h ⊢
        by_cases h4 : q4 b
        · rw [if_pos h4] at h ⊢
          by_cases h5 : q5 b
          · rw [if_pos h5]
          · rw [if_neg h5] at h
            cases h
        · rw [if_neg h4] at h
          cases h
      · rw [if_neg h3] at h
        cases h
    · rw [if_neg h2] at h
      cases h
theorem rH_0 {b : bF} (h : r5 b = 0) (h6 : q6 b) : rH b = 0 := by rw [rH_6 h, if_pos h6]
theorem vD_5 {b : bF} (h : ¬ r5 b = 0) : vD b = (nI (r5 b), -1) := by
  have e := rH_5 h
  unfold vD
  rw [if_pos (show rH b ≠ 0 by rw [e]; exact h), e]
theorem vD_6 {b : bF} (h : r5 b = 0) (h6 : ¬ q6 b) : vD b = (nI 6, -1) := by
  have e : rH b = 6 := by rw [rH_6 h, if_neg h6]
  unfold vD
  rw [if_pos (show rH b ≠ 0 by rw [e]; decide), e]
theorem vD_7 {b : bF} (h : r5 b = 0) (h6 : q6 b) (h7 : ¬ oI (q7 b) (gC b) = -1) : vD b = (nI 7, oI (q7 b) (gC b)) := by
  unfold vD
  rw [if_neg (fun q => q (rH_0 h h6)), if_pos h7]
theorem vD_8 {b : bF} (h : r5 b = 0) (h6 : q6 b) (h7 : oI (q7 b) (gC b) = -1) (h8 : ¬ oI (q8 b) (gC b) = -1) : vD b = (nI 8, oI (q8 b) (gC b)) := by
  unfold vD
  rw [if_neg (fun q => q (rH_0 h h6)), if_neg (fun q => q h7), if_pos h8]
theorem vD_9 {b : bF} (h : r5 b = 0) (h6 : q6 b) (h7 : oI (q7 b) (gC b) = -1) (h8 : oI (q8 b) (gC b) = -1) (h9 : ¬ oI (q9 b) (sC b) = -1) : vD b = (nI 9, oI (q9 b) (sC b)) := by
  unfold vD
  rw [if_neg (fun q => q (rH_0 h h6)), if_neg (fun q => q h7), if_neg (fun q => q h8), if_pos h9]
theorem vD_10 {b : bF} (h : r5 b = 0) (h6 : q6 b) (h7 : oI (q7 b) (gC b) = -1) (h8 : oI (q8 b) (gC b) = -1) (h9 : oI (q9 b) (sC b) = -1) (h10 : ¬ oI (q10 b) (sC b) = -1) : vD b = (nI 10, oI (q10 b) (sC b)) := by
  unfold vD
  rw [if_neg (fun q => q (rH_0 h h6)), if_neg (fun q => q h7), if_neg (fun q => q h8), if_neg (fun q => q h9), if_pos h10]
theorem vD_11 {b : bF} (h : r5 b = 0) (h6 : q6 b) (h7 : oI (q7 b) (gC b) = -1) (h8 : oI (q8 b) (gC b) = -1) (h9 : oI (q9 b) (sC b) = -1) (h10 : oI (q10 b) (sC b) = -1) (h11 : ¬ r11 b = -1) : vD b = (nI 11, r11 b) := by
  unfold vD
  rw [if_neg (fun q => q (rH_0 h h6)), if_neg (fun q => q h7), if_neg (fun q => q h8), if_neg (fun q => q h9), if_neg (fun q => q h10), if_pos h11]
theorem vD_12 {b : bF} (h : r5 b = 0) (h6 : q6 b) (h7 : oI (q7 b) (gC b) = -1) (h8 : oI (q8 b) (gC b) = -1) (h9 : oI (q9 b) (sC b) = -1) (h10 : oI (q10 b) (sC b) = -1) (h11 : r11 b = -1) (h12 : ¬ oI (q12 b) (sC b) = -1) : vD b = (nI 12, oI (q12 b) (sC b)) := by
  unfold vD
  rw [if_neg (fun q => q (rH_0 h h6)), if_neg (fun q => q h7), if_neg (fun q => q h8), if_neg (fun q => q h9), if_neg (fun q => q h10), if_neg (fun q => q h11), if_pos h12]
theorem vD_13 {b : bF} (h : r5 b = 0) (h6 : q6 b) (h7 : oI (q7 b) (gC b) = -1) (h8 : oI (q8 b) (gC b) = -1) (h9 : oI (q9 b) (sC b) = -1) (h10 : oI (q10 b) (sC b) = -1) (h11 : r11 b = -1) (h12 : oI (q12 b) (sC b) = -1) (h13 : ¬ oI (q13 b) (sC b) = -1) : vD b = (nI 13, oI (q13 b) (sC b)) := by
  unfold vD
  rw [if_neg (fun q => q (rH_0 h h6)), if_neg (fun q => q h7), if_neg (fun q => q h8), if_neg (fun q => q h9), if_neg (fun q => q h10), if_neg (fun q => q h11), if_neg (fun q => q h12), if_pos h13]
theorem vD_g {b : bF} (h : gd b) : vD b = @ite (Int32 × Int32) (q14 b) (Classical.propDecidable _) (nI 0, -1) (nI 14, -1) := by
  obtain ⟨h5, h6, h7, h8, h9, h10, h11, h12, h13⟩ := h
  unfold vD
  rw [if_neg (fun q => q (rH_0 h5 h6)), if_neg (fun q => q h7), if_neg (fun q => q h8), if_neg (fun q => q h9), if_neg (fun q => q h10), if_neg (fun q => q h11), if_neg (fun q => q h12), if_neg (fun q => q h13)]
/-- a state with other rule and row -/
def mF (w : mS) (t : Nat → Int32) (x y : Int32) : mS := (w.1, nI 0, t, nI 1, x, y)
theorem oI_neg {P : Nat → Prop} {c : Nat} (hc : c < 65536) : oI P c < 0 ↔ oI P c = -1 := by
  unfold oI
  by_cases h : fi P c < c
  · rw [if_pos h]
    exact ⟨fun q => absurd q (nI_pos (by omega)), fun q => absurd q (nI_nm1 (by omega))⟩
  · rw [if_neg h]
    exact ⟨fun _ => rfl, fun _ => by decide⟩
theorem oI_ex {P : Nat → Prop} {c : Nat} (hc : c < 65536) : ¬ oI P c = -1 ↔ ∃ k, k < c ∧ P k := by
  refine ⟨fun h => ?_, fun ⟨k, h1, h2⟩ q => oI_m1 hc q k h1 h2⟩
  exact Classical.byContradiction fun q => h (oI_none fun i hi z => q ⟨i, hi, z⟩)
theorem oI_ge {P : Nat → Prop} {c : Nat} (hc : c < 65536) : 0 ≤ oI P c ↔ ¬ oI P c = -1 := by
  rw [← Int32.not_lt, oI_neg hc]
