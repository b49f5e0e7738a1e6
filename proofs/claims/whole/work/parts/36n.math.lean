/-! Of a good file: what the class reads is what the reference reads. -/
def eE (a b c : String) (k : Nat) : String := if k = 1 then a else if k = 2 then b else c
theorem vp_jx {k : Int32} {n : Nat} (h : vp_in k n) : ∃ j, j < n ∧ j < 2147483648 ∧ k = nI j ∧ k.toNatClampNeg = j := by
  by_cases hk : k < 0
  · exact absurd (Or.inl hk) h
  · obtain ⟨j, hj, rfl⟩ := nI_of hk
    have e := nI_clamp hj
    refine ⟨j, ?_, hj, rfl, e⟩
    by_cases q : n ≤ j
    · exact absurd (Or.inr (by rw [e]; exact q)) h
    · omega
theorem gd6 {b : bF} (h : gd b) : t6 b := (gd_t12 h).1.1
theorem nu_c2 (b : bF) (a : Nat) : (nI (nu b a 2)).toNatClampNeg = nu b a 2 := nI_clamp (by have := nu_2 b a; omega)
theorem nu_s2 (b : bF) (a : Nat) : (nu b a 2 < 2147483648) = True := eq_true (by have := nu_2 b a; omega)
theorem yC_at {b : bF} (h : gd b) {j : Nat} (hj : j < sC b) : yC b (nI (sA b j)) = nI (cO b j) := by
  have h6 := gd6 h
  have hA := t6_sA h6 hj
  have hR := t9_room (gd_t12 h).1 hj
  have hB := bn_le b
  unfold yC cO
  rw [nm_at (by omega), rl_at h6 hj]
  show (if kd b j = 2 then _ else _) = _
  by_cases q : kd b j = 2
  · rw [if_pos q, if_pos q, pk_lDiv (by omega) (by decide) (by decide), lN_i]
  · rw [if_neg q, if_neg q]
theorem nS_at {b : bF} (h : t6 b) : nS b = nI (sA b (nX b)) := by
  unfold nS
  rw [t6_nX h, t6_sS h]
theorem nP_at {b : bF} (h : gd b) {k : Nat} (hk : k < sC b) : nI (nm b (nS b + nI 24) 8) + nI (nm b (nI (sA b k)) 4) = nI (nmA b k) := by
  have h6 := gd6 h
  have hA := t6_sA h6 hk
  have hX := t6_sA h6 (gd_nm h hk).1.1
  rw [nS_at h6, nm_at (by omega), nm_a0 (by omega), nI_add]
  rfl
theorem tl_at {b : bF} {a i : Nat} (h : a + i < bn b) (h0 : bg b (a + i) = 0) : fi (fun i => nm b (nI a + nI i) 1 = 0) 640 = nmL b a ∧ nmL b a ≤ i := by
  have hB := bn_le b
  have hle := nmL_lt (b := b) (a := a) (n := i) (by omega) h0
  have hin : ∀ k, k ≤ i → nm b (nI a + nI k) 1 = bg b (a + k) := fun k hk => by rw [nm_at (by omega), bl_1]
  refine ⟨fi_eq (fun k hk => ?_) (fun hk => ?_) (by omega), hle⟩
  · rw [hin k (by omega)]
    exact fi_no (fun i => bg b (a + i) = 0) 640 k hk
  · rw [hin _ hle]
    exact fi_yes (fun i => bg b (a + i) = 0) 640 hk
theorem nmA_bn {b : bF} (h : gd b) {k : Nat} (hk : k < sC b) : ∃ i, nmA b k + i < bn b ∧ bg b (nmA b k + i) = 0 := by
  obtain ⟨h1, h2⟩ := gd_nm h hk
  obtain ⟨h3, i, h4, h5⟩ := tx_end h h1 h2
  exact ⟨i, by unfold nmA; omega, h5⟩
theorem ysN_bn {b : bF} (h : gd b) {k i : Nat} (hk : k < sC b) (h2 : kd b k = 2) (hi : i < rL b k / 24) : lK b k < sC b ∧ ∃ j, rP b (lK b k) + bl b (yA b k i) 4 + j < bn b ∧ bg b (rP b (lK b k) + bl b (yA b k i) 4 + j) = 0 := by
  have hy := gd_13 h hk h2 hi
  have hl := (t12_of (gd_t12 h) hk h2).2.2.1
  obtain ⟨h3, j, h4, h5⟩ := tx_end h hl hy.2.2
  exact ⟨hl.1, j, by omega, h5⟩
theorem yA_in {b : bF} (h : gd b) {k i : Nat} (hk : k < sC b) (hi : i < cO b k) : kd b k = 2 ∧ i < rL b k / 24 ∧ yA b k i + 24 ≤ bn b := by
  have hR := t9_room (gd_t12 h).1 hk
  unfold cO at hi
  by_cases q : kd b k = 2
  · rw [if_pos q] at hi
    exact ⟨q, hi, by unfold yA; omega⟩
  · rw [if_neg q] at hi
    omega
theorem yP_at {b : bF} (h : gd b) {k i : Nat} (hk : k < sC b) (hi : i < cO b k) : nI (nm b (lS b (nI (sA b k)) + nI 24) 8) + nI (nm b (nI (yA b k i)) 4) = nI (rP b (lK b k) + bl b (yA b k i) 4) := by
  obtain ⟨h1, h2, h3⟩ := yA_in h hk hi
  have h6 := gd6 h
  have hl := (ysN_bn h hk h1 h2).1
  have hX := t6_sA h6 hl
  rw [lS_at h6 hk, nm_at (by omega), nm_a0 (by omega), nI_add]
  rfl
theorem cO_le {b : bF} (h : gd b) {k : Nat} (hk : k < sC b) : cO b k ≤ 640 := by
  have hR := t9_room (gd_t12 h).1 hk
  have hB := bn_le b
  unfold cO
  split <;> omega
theorem nI_t0 : (nI 0).toInt = 0 := by decide
theorem nI_t1 : (nI 1).toInt = 1 := by decide
theorem nI_t2 : (nI 2).toInt = 2 := by decide
theorem nI_t3 : (nI 3).toInt = 3 := by decide
theorem nI_t4 : (nI 4).toInt = 4 := by decide
theorem nI_t5 : (nI 5).toInt = 5 := by decide
theorem nI_t6 : (nI 6).toInt = 6 := by decide
theorem nI_c3 : (nI 3).toNatClampNeg = 3 := by decide
theorem nI_c5 : (nI 5).toNatClampNeg = 5 := by decide
theorem nI_c6 : (nI 6).toNatClampNeg = 6 := by decide
theorem rx_sw_0 {go : Nat → Prop} {pc : Nat} {x j : Int} : rx_sw go pc x j [] = True := rfl
theorem rx_sw_c {go : Nat → Prop} {pc : Nat} {x j o : Int} {r : List Int} : rx_sw go pc x j (o :: r) = ((x = j → 0 ≤ (pc : Int) + o ∧ go ((pc : Int) + o).toNat) ∧ rx_sw go pc x (j + 1) r) := rfl
theorem rx_p31 : ((31 : Nat) : Int) = 31 := rfl
theorem rx_p56 : ((56 : Nat) : Int) = 56 := rfl
theorem cRow_1 {G : Prop} {c : Nat} {k x : Int32} (h : ¬ vp_in x 7) : cRow G c k x = 1 := by unfold cRow; rw [cif_f h]
theorem cRow_2 {G : Prop} {c : Nat} {k x : Int32} (h : vp_in x 7) (h2 : ¬ G) : cRow G c k x = 2 := by unfold cRow; rw [cif_t h, cif_f h2]
theorem cRow_3 {G : Prop} {c : Nat} {k x : Int32} (h : vp_in x 7) (h2 : G) (h3 : ¬ vp_in k c) : cRow G c k x = 3 := by unfold cRow; rw [cif_t h, cif_t h2, cif_f h3]
theorem cRow_4 {G : Prop} {c : Nat} {k x : Int32} (h : vp_in x 7) (h2 : G) (h3 : vp_in k c) : cRow G c k x = 0 := by unfold cRow; rw [cif_t h, cif_t h2, cif_t h3]
theorem cSym_1 {G : Prop} {b : bF} {k i x : Int32} (h : ¬ vp_in x 5) : cSym G b k i x = 1 := by unfold cSym; rw [cif_f h]
theorem cSym_2 {G : Prop} {b : bF} {k i x : Int32} (h : vp_in x 5) (h2 : ¬ G) : cSym G b k i x = 2 := by unfold cSym; rw [cif_t h, cif_f h2]
theorem cSym_3 {G : Prop} {b : bF} {k i x : Int32} (h : vp_in x 5) (h2 : G) (h3 : ¬ vp_in k (sC b)) : cSym G b k i x = 3 := by unfold cSym; rw [cif_t h, cif_t h2, cif_f h3]
theorem cSym_4 {G : Prop} {b : bF} {k i x : Int32} (h : vp_in x 5) (h2 : G) (h3 : vp_in k (sC b)) (h4 : ¬ vp_in i (cO b k.toNatClampNeg)) : cSym G b k i x = 3 := by unfold cSym; rw [cif_t h, cif_t h2, cif_t h3, cif_f h4]
theorem cSym_5 {G : Prop} {b : bF} {k i x : Int32} (h : vp_in x 5) (h2 : G) (h3 : vp_in k (sC b)) (h4 : vp_in i (cO b k.toNatClampNeg)) : cSym G b k i x = 0 := by unfold cSym; rw [cif_t h, cif_t h2, cif_t h3, cif_t h4]
