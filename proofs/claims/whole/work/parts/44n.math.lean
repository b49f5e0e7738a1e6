/-! what the law needs of the meaning -/
theorem rH_z {b : bF} (h : rH b = 0) : r5 b = 0 ∧ q6 b := by
  unfold rH at h
  unfold r5
  by_cases h1 : bn b < 64
  · rw [if_pos h1] at h; cases h
  rw [if_neg h1] at h ⊢
  by_cases h2 : q2 b
  · rw [if_pos h2] at h ⊢
    by_cases h3 : q3 b
    · rw [if_pos h3] at h ⊢
      by_cases h4 : q4 b
      · rw [if_pos h4] at h ⊢
        by_cases h5 : q5 b
        · rw [if_pos h5] at h ⊢
          by_cases h6 : q6 b
          · exact ⟨rfl, h6⟩
          · rw [if_neg h6] at h; cases h
        · rw [if_neg h5] at h; cases h
      · rw [if_neg h4] at h; cases h
    · rw [if_neg h3] at h; cases h
  · rw [if_neg h2] at h; cases h
theorem gd_of {b : bF} (h : (vD b).1 = 0) : gd b := by
  unfold vD at h
  by_cases h0 : rH b = 0
  · rw [if_neg (fun q => q h0)] at h
    obtain ⟨h5, h6⟩ := rH_z h0
    by_cases h7 : oI (q7 b) (gC b) = -1
    · rw [if_neg (fun q => q h7)] at h
      by_cases h8 : oI (q8 b) (gC b) = -1
      · rw [if_neg (fun q => q h8)] at h
        by_cases h9 : oI (q9 b) (sC b) = -1
        · rw [if_neg (fun q => q h9)] at h
          by_cases h10 : oI (q10 b) (sC b) = -1
          · rw [if_neg (fun q => q h10)] at h
            by_cases h11 : r11 b = -1
            · rw [if_neg (fun q => q h11)] at h
              by_cases h12 : oI (q12 b) (sC b) = -1
              · rw [if_neg (fun q => q h12)] at h
                by_cases h13 : oI (q13 b) (sC b) = -1
                · rw [if_neg (fun q => q h13)] at h
                  exact ⟨h5, h6, h7, h8, h9, h10, h11, h12, h13⟩
                · rw [if_pos h13] at h
                  exact absurd (show nI 13 = 0 from h) (by decide)
              · rw [if_pos h12] at h
                exact absurd (show nI 12 = 0 from h) (by decide)
            · rw [if_pos h11] at h
              exact absurd (show nI 11 = 0 from h) (by decide)
          · rw [if_pos h10] at h
            exact absurd (show nI 10 = 0 from h) (by decide)
        · rw [if_pos h9] at h
          exact absurd (show nI 9 = 0 from h) (by decide)
      · rw [if_pos h8] at h
        exact absurd (show nI 8 = 0 from h) (by decide)
    · rw [if_pos h7] at h
      exact absurd (show nI 7 = 0 from h) (by decide)
  · rw [if_pos h0] at h
    have h1 : nI (rH b) = 0 := h
    have h2 := rH_lt b
    exact absurd ((nI_eq (by omega) (by decide)).mp (h1.trans (show (0 : Int32) = nI 0 by decide))) h0
theorem cFeed_12 {b : bF} {z : Int32} (h : ¬ cFeed b z = 0) : cFeed b z = 1 ∨ cFeed b z = 2 := by
  revert h
  unfold cFeed cif
  repeat' split
  all_goals simp
theorem cMany_12 {G : Prop} {x : Int32} (h : ¬ cMany G x = 0) : cMany G x = 1 ∨ cMany G x = 2 := by
  revert h
  unfold cMany cif
  repeat' split
  all_goals simp
theorem cLet_12 {G : Prop} {b : bF} {k i : Int32} (h : ¬ cLet G b k i = 0) : cLet G b k i = 1 ∨ cLet G b k i = 2 := by
  revert h
  unfold cLet cif
  repeat' split
  all_goals simp
theorem cSyms_12 {G : Prop} {b : bF} {k : Int32} (h : ¬ cSyms G b k = 0) : cSyms G b k = 1 ∨ cSyms G b k = 2 := by
  revert h
  unfold cSyms cif
  repeat' split
  all_goals simp
theorem cRow_123 {G : Prop} {c : Nat} {k x : Int32} (h : ¬ cRow G c k x = 0) : cRow G c k x = 1 ∨ cRow G c k x = 2 ∨ cRow G c k x = 3 := by
  revert h
  unfold cRow cif
  repeat' split
  all_goals simp
theorem cSym_123 {G : Prop} {b : bF} {k i x : Int32} (h : ¬ cSym G b k i x = 0) : cSym G b k i x = 1 ∨ cSym G b k i x = 2 ∨ cSym G b k i x = 3 := by
  revert h
  unfold cSym cif
  repeat' split
  all_goals simp
