noncomputable def cif {α : Type} (P : Prop) (a b : α) : α := @ite α P (Classical.propDecidable P) a b
theorem cif_t {α : Type} {P : Prop} {a b : α} (h : P) : cif P a b = a := if_pos h
theorem cif_f {α : Type} {P : Prop} {a b : α} (h : ¬ P) : cif P a b = b := if_neg h
theorem out_iff {k : Int32} {n : Nat} (hn : n < 2 ^ 31) : (k < 0 ∨ lN n ≤ k.toInt64) ↔ ¬ vp_in k n := by
  by_cases h : k < 0
  · refine ⟨fun _ q => ?_, fun _ => Or.inl h⟩
    obtain ⟨j, h1, rfl⟩ := vp_in_of q hn
    exact nI_pos (by omega) h
  · obtain ⟨j, hj, rfl⟩ := nI_of h
    rw [nI_l hj, pk_lLE (by omega) (by omega)]
    refine ⟨fun q z => ?_, fun q => Or.inr ?_⟩
    · obtain ⟨i, h1, e⟩ := vp_in_of z hn
      have := (nI_eq hj (by omega)).mp e
      rcases q with q | q
      · exact h q
      · omega
    · exact Classical.byContradiction fun z => q (vp_in_nI (by omega) hn)
/-- what the queries answer: the refusal's number (0: none), the value -/
noncomputable def cMany (G : Prop) (x : Int32) : Nat := cif (vp_in x 2) (cif G 0 2) 1
noncomputable def cRow (G : Prop) (c : Nat) (k x : Int32) : Nat := cif (vp_in x 7) (cif G (cif (vp_in k c) 0 3) 2) 1
def vSeg (b : bF) (k x : Nat) : Nat := if x = 0 then bl b (gA b k) 4 else if x = 1 then bl b (gA b k + 4) 4 else if x = 2 then bl b (gA b k + 8) 8 else if x = 3 then bl b (gA b k + 16) 8 else if x = 4 then bl b (gA b k + 32) 8 else if x = 5 then bl b (gA b k + 40) 8 else bl b (gA b k + 48) 8
noncomputable def nmL (b : bF) (a : Nat) : Nat := fi (fun i => bg b (a + i) = 0) 640
def nmA (b : bF) (k : Nat) : Nat := rP b (nX b) + bl b (sA b k) 4
noncomputable def vSec (b : bF) (k x : Nat) : Nat := if x = 0 then kd b k else if x = 1 then bl b (sA b k + 8) 8 else if x = 2 then rP b k else if x = 3 then bl b (sA b k + 32) 8 else if x = 4 then lK b k else if x = 5 then bl b (sA b k + 44) 4 else nmL b (nmA b k)
noncomputable def cLet (G : Prop) (b : bF) (k i : Int32) : Nat := cif G (cif (vp_in k (sC b)) (cif (vp_in i (nmL b (nmA b k.toNatClampNeg))) 0 2) 2) 1
noncomputable def cSyms (G : Prop) (b : bF) (k : Int32) : Nat := cif G (cif (vp_in k (sC b)) 0 2) 1
noncomputable def cSym (G : Prop) (b : bF) (k i x : Int32) : Nat := cif (vp_in x 5) (cif G (cif (vp_in k (sC b)) (cif (vp_in i (cO b k.toNatClampNeg)) 0 3) 3) 2) 1
noncomputable def vSym (b : bF) (k i x : Nat) : Nat := if x = 0 then bl b (yA b k i + 8) 8 else if x = 1 then bl b (yA b k i + 16) 8 else if x = 2 then bl b (yA b k i + 6) 2 else if x = 3 then bg b (yA b k i + 4) / 16 else nmL b (rP b (lK b k) + bl b (yA b k i) 4)
def mG (w : mS) : Prop := ¬ w.2.2.2.1 = 0 ∧ w.2.2.2.2.1 = 0
theorem gd_t12 {b : bF} (h : gd b) : t12 b := ⟨⟨rH_t6 (rH_0 h.1 h.2.1), oI_m1 (sC_lt b) h.2.2.2.2.1⟩, oI_m1 (sC_lt b) h.2.2.2.2.2.2.2.1⟩
theorem gd_11 {b : bF} (h : gd b) (h0 : ¬ sC b = 0) : tX b (nX b) ∧ (∀ k, k < sC b → ¬ q11a b k) ∧ ∀ k, k < sC b → ¬ q11b b k := by
  have e := h.2.2.2.2.2.2.1
  unfold r11 at e
  rw [if_neg h0] at e
  by_cases hT : tX b (nX b)
  · rw [if_pos hT] at e
    by_cases ha : oI (q11a b) (sC b) = -1
    · rw [if_pos ha] at e
      exact ⟨hT, oI_m1 (sC_lt b) ha, oI_m1 (sC_lt b) e⟩
    · rw [if_neg ha] at e
      exact absurd e ha
  · rw [if_neg hT] at e
    exact absurd e (by decide)
theorem tx_end {b : bF} (h : gd b) {v o : Nat} (hv : tX b v) (ho : o < rL b v) : rP b v + rL b v ≤ bn b ∧ ∃ i, rP b v + o + i < rP b v + rL b v ∧ bg b (rP b v + o + i) = 0 := by
  have h0 : ¬ sC b = 0 := fun q => by have := hv.1; omega
  have hR := t9_room (gd_t12 h).1 hv.1
  have ha := (gd_11 h h0).2.1 v hv.1
  have hc : 0 < rL b v ∧ bg b (rP b v) = 0 ∧ bg b (rP b v + rL b v - 1) = 0 := Classical.byContradiction fun q => ha ⟨hv.2, q⟩
  refine ⟨hR, rL b v - 1 - o, by omega, ?_⟩
  rw [show rP b v + o + (rL b v - 1 - o) = rP b v + rL b v - 1 by omega]
  exact hc.2.2
theorem gd_nm {b : bF} (h : gd b) {k : Nat} (hk : k < sC b) : tX b (nX b) ∧ bl b (sA b k) 4 < rL b (nX b) := by
  have h0 : ¬ sC b = 0 := by omega
  have q := (gd_11 h h0).2.2 k hk
  unfold q11b at q
  exact ⟨(gd_11 h h0).1, by omega⟩
theorem nmA_ok {b : bF} (h : gd b) {k : Nat} (hk : k < sC b) : nmA b k < 640 ∧ ∃ i, nmA b k + i < 640 ∧ bg b (nmA b k + i) = 0 := by
  have hB := bn_le b
  obtain ⟨h1, h2⟩ := gd_nm h hk
  obtain ⟨h3, i, h4, h5⟩ := tx_end h h1 h2
  unfold nmA
  exact ⟨by omega, i, by omega, h5⟩
theorem gd_13 {b : bF} (h : gd b) {k i : Nat} (hk : k < sC b) (h2 : kd b k = 2) (hi : i < rL b k / 24) : yOK b k i := by
  have q := oI_m1 (sC_lt b) h.2.2.2.2.2.2.2.2 k hk
  exact (Classical.byContradiction fun z => q ⟨h2, z⟩ : (∀ i, i < rL b k / 24 → yOK b k i) ∧ (rL b k / 24 = 0 ∨ ∀ i, i < 24 → bg b (rP b k + i) = 0)).1 i hi
theorem ysN_ok {b : bF} (h : gd b) {k i : Nat} (hk : k < sC b) (h2 : kd b k = 2) (hi : i < rL b k / 24) : lK b k < sC b ∧ rP b (lK b k) + bl b (yA b k i) 4 < 640 ∧ ∃ j, rP b (lK b k) + bl b (yA b k i) 4 + j < 640 ∧ bg b (rP b (lK b k) + bl b (yA b k i) 4 + j) = 0 := by
  have hB := bn_le b
  have hL := (t12_of (gd_t12 h) hk h2).2.2.1
  obtain ⟨h3, j, h4, h5⟩ := tx_end h hL (gd_13 h hk h2 hi).2.2
  exact ⟨hL.1, by omega, j, by omega, h5⟩
