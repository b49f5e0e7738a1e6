noncomputable def mV12 (w : mS) : mS := if oI (q12 w.1) (sC w.1) ≠ -1 then mB w (nI 12) (oI (q12 w.1) (sC w.1)) else if oI (q13 w.1) (sC w.1) ≠ -1 then mB w (nI 13) (oI (q13 w.1) (sC w.1)) else w
theorem q13_no {b : bF} {k : Nat} (h : ∀ i, i < cO b k → ¬ yB b k i) : ¬ q13 b k := by
  rintro ⟨h2, q⟩
  have e : cO b k = rL b k / 24 := if_pos h2
  rw [e] at h
  refine q ⟨fun i hi => Classical.byContradiction fun z => h i hi (Or.inl z), ?_⟩
  by_cases z : rL b k / 24 = 0
  · exact Or.inl z
  · exact Or.inr (Classical.byContradiction fun y => h 0 (by omega) (Or.inr ⟨rfl, y⟩))
theorem q13_yes {b : bF} {k j : Nat} (h2 : kd b k = 2) (hj : j < rL b k / 24) (h : yB b k j) : q13 b k := by
  refine ⟨h2, fun q => ?_⟩
  rcases h with h | ⟨h, y⟩
  · exact h (q.1 j hj)
  · exact y (q.2.resolve_left (by omega))
