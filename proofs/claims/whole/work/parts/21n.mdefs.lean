/-- the marks: of the head, of the tables -/
def tG (t : Nat → Int32) (j : Nat) : Nat → Int32 := fun i => if i < j then nI (if i < 64 then 1 else 0) else t i
def tE (b : bF) (t : Nat → Int32) (a c z : Nat) : Prop := ¬ c = 0 ∧ (¬ tI b a (c * z) ∨ ∃ i, bl b a 8 ≤ i ∧ i < bl b a 8 + c * z ∧ ¬ t i = 0)
noncomputable def t1_ (b : bF) (t : Nat → Int32) : Nat → Int32 := tT b (tG t 640) 32 (gC b) 56
noncomputable def tk6 (b : bF) (t : Nat → Int32) : Nat → Int32 := @ite (Nat → Int32) (tE b (tG t 640) 32 (gC b) 56) (Classical.propDecidable _) (t1_ b t) (tT b (t1_ b t) 40 (sC b) 64)
def mH (b : bF) (i : Nat) : Prop := i < 64 ∨ (bl b 32 8 ≤ i ∧ i < bl b 32 8 + 56 * gC b) ∨ (bl b 40 8 ≤ i ∧ i < bl b 40 8 + 64 * sC b)
def tkP (b : bF) (t : Nat → Int32) : Prop := ∀ i, i < 640 → (¬ t i = 0 ↔ mH b i)
theorem tG_s {t : Nat → Int32} {j : Nat} : upd (tG t j) j (vp_nar .boolean (nI (if j < 64 then 1 else 0))) = tG t (j + 1) := by
  funext i
  have e : vp_nar .boolean (nI (if j < 64 then 1 else 0)) = nI (if j < 64 then 1 else 0) := by
    split <;> decide
  unfold upd tG
  by_cases h : i = j
  · subst h
    rw [if_pos rfl, e, if_pos (show i < i + 1 by omega)]
  · rw [if_neg h]
    by_cases h2 : i < j
    · rw [if_pos h2, if_pos (show i < j + 1 by omega)]
    · rw [if_neg h2, if_neg (show ¬ i < j + 1 by omega)]
theorem tG_0 {t : Nat → Int32} : tG t 0 = t := by
  funext i
  exact if_neg (by omega)
theorem tG_n {t : Nat → Int32} {i : Nat} (h : i < 640) : ¬ tG t 640 i = 0 ↔ i < 64 := by
  unfold tG
  rw [if_pos h]
  by_cases q : i < 64
  · rw [if_pos q]
    exact ⟨fun _ => q, fun _ => by decide⟩
  · rw [if_neg q]
    exact ⟨fun z => absurd rfl z, fun z => absurd z q⟩
theorem tm_n {t : Nat → Int32} {x n i : Nat} : ¬ tm t x n i = 0 ↔ (x ≤ i ∧ i < x + n) ∨ ¬ t i = 0 := by
  unfold tm
  by_cases q : x ≤ i ∧ i < x + n
  · rw [if_pos q]
    exact ⟨fun _ => Or.inl q, fun _ => by decide⟩
  · rw [if_neg q]
    exact ⟨Or.inr, fun z => z.resolve_left q⟩
/-- two rooms have a byte in common -/
theorem ov_ex {p l q k : Nat} : (∃ i, q ≤ i ∧ i < q + k ∧ p ≤ i ∧ i < p + l) ↔ ovl p l q k := by
  unfold ovl
  refine ⟨fun h => ?_, fun h => ?_⟩
  · obtain ⟨i, a, b, c, d⟩ := h
    omega
  · by_cases z : p ≤ q
    · exact ⟨q, by omega, by omega, by omega, by omega⟩
    · exact ⟨p, by omega, by omega, by omega, by omega⟩
theorem tE_1 {b : bF} {t : Nat → Int32} : tE b (tG t 640) 32 (gC b) 56 ↔ ¬ ((56 * gC b = 0 ∨ bl b 32 8 % 8 = 0 ∧ bl b 32 8 + 56 * gC b ≤ bn b) ∧ ¬ ovl 0 64 (bl b 32 8) (56 * gC b)) := by
  have hB := bn_le b
  have hm : gC b * 56 = 56 * gC b := Nat.mul_comm _ _
  unfold tE tI
  rw [hm]
  by_cases h0 : gC b = 0
  · refine ⟨fun q => absurd h0 q.1, fun q => absurd ⟨Or.inl (by omega), fun z => z.2.1 (by omega)⟩ q⟩
  · have z0 : ¬ 56 * gC b = 0 := by omega
    by_cases h1 : bl b 32 8 % 8 = 0 ∧ bl b 32 8 + 56 * gC b ≤ bn b
    · have e : (∃ i, bl b 32 8 ≤ i ∧ i < bl b 32 8 + 56 * gC b ∧ ¬ tG t 640 i = 0) ↔ ovl 0 64 (bl b 32 8) (56 * gC b) := by
        rw [← ov_ex]
        refine ⟨fun ⟨i, a, c, d⟩ => ⟨i, a, c, by omega, by have := (tG_n (by omega)).mp d; omega⟩, fun ⟨i, a, c, _, d⟩ => ⟨i, a, c, (tG_n (by omega)).mpr (by omega)⟩⟩
      rw [e]
      refine ⟨fun q z => z.2 (q.2.resolve_left (fun y => y h1)), fun q => ⟨h0, Or.inr (Classical.byContradiction fun z => q ⟨Or.inr h1, z⟩)⟩⟩
    · exact ⟨fun _ z => z.1.elim z0 h1, fun _ => ⟨h0, Or.inl h1⟩⟩
theorem t1_n {b : bF} {t : Nat → Int32} (h : ¬ tE b (tG t 640) 32 (gC b) 56) {i : Nat} (hi : i < 640) : ¬ t1_ b t i = 0 ↔ i < 64 ∨ (bl b 32 8 ≤ i ∧ i < bl b 32 8 + 56 * gC b) := by
  have hm : gC b * 56 = 56 * gC b := Nat.mul_comm _ _
  unfold t1_ tT
  by_cases h0 : gC b = 0
  · rw [if_neg (fun z => z.1 h0), tG_n hi]
    omega
  · have h1 : tI b 32 (gC b * 56) := Classical.byContradiction fun q => h ⟨h0, Or.inl q⟩
    rw [if_pos ⟨h0, h1⟩, tm_n, tG_n hi, hm]
    omega
theorem tE_2 {b : bF} {t : Nat → Int32} (h : ¬ tE b (tG t 640) 32 (gC b) 56) : tE b (t1_ b t) 40 (sC b) 64 ↔ ¬ ((64 * sC b = 0 ∨ bl b 40 8 % 8 = 0 ∧ bl b 40 8 + 64 * sC b ≤ bn b) ∧ ¬ ovl 0 64 (bl b 40 8) (64 * sC b) ∧ ¬ ovl (bl b 32 8) (56 * gC b) (bl b 40 8) (64 * sC b)) := by
  have hB := bn_le b
  have hm : sC b * 64 = 64 * sC b := Nat.mul_comm _ _
  unfold tE tI
  rw [hm]
  by_cases h0 : sC b = 0
  · refine ⟨fun q => absurd h0 q.1, fun q => absurd ⟨Or.inl (by omega), fun z => z.2.1 (by omega), fun z => z.2.1 (by omega)⟩ q⟩
  · have z0 : ¬ 64 * sC b = 0 := by omega
    by_cases h1 : bl b 40 8 % 8 = 0 ∧ bl b 40 8 + 64 * sC b ≤ bn b
    · have e : (∃ i, bl b 40 8 ≤ i ∧ i < bl b 40 8 + 64 * sC b ∧ ¬ t1_ b t i = 0) ↔ (ovl 0 64 (bl b 40 8) (64 * sC b) ∨ ovl (bl b 32 8) (56 * gC b) (bl b 40 8) (64 * sC b)) := by
        rw [← ov_ex, ← ov_ex]
        refine ⟨fun ⟨i, a, c, d⟩ => ?_, fun q => ?_⟩
        · rcases (t1_n h (by omega)).mp d with z | z
          · exact Or.inl ⟨i, a, c, by omega, by omega⟩
          · exact Or.inr ⟨i, a, c, z.1, z.2⟩
        · rcases q with ⟨i, a, c, _, d⟩ | ⟨i, a, c, d1, d2⟩
          · exact ⟨i, a, c, (t1_n h (by omega)).mpr (Or.inl (by omega))⟩
          · exact ⟨i, a, c, (t1_n h (by omega)).mpr (Or.inr ⟨d1, d2⟩)⟩
      rw [e]
      refine ⟨fun q z => (q.2.resolve_left (fun y => y h1)).elim z.2.1 z.2.2, fun q => ⟨h0, Or.inr (Classical.byContradiction fun z => q ⟨Or.inr h1, fun y => z (Or.inl y), fun y => z (Or.inr y)⟩)⟩⟩
    · exact ⟨fun _ z => z.1.elim z0 h1, fun _ => ⟨h0, Or.inl h1⟩⟩
theorem q6_no1 {b : bF} {t : Nat → Int32} (h : tE b (tG t 640) 32 (gC b) 56) : ¬ q6 b := fun q => (tE_1.mp h) ⟨q.1, q.2.2.1⟩
theorem q6_no2 {b : bF} {t : Nat → Int32} (h : ¬ tE b (tG t 640) 32 (gC b) 56) (h2 : tE b (t1_ b t) 40 (sC b) 64) : ¬ q6 b := fun q => ((tE_2 h).mp h2) ⟨q.2.1, q.2.2.2.1, q.2.2.2.2⟩
theorem q6_yes {b : bF} {t : Nat → Int32} (h : ¬ tE b (tG t 640) 32 (gC b) 56) (h2 : ¬ tE b (t1_ b t) 40 (sC b) 64) : q6 b := by
  have a := Classical.byContradiction fun z => h (tE_1.mpr z)
  have c := Classical.byContradiction fun z => h2 ((tE_2 h).mpr z)
  exact ⟨a.1, c.1, a.2, c.2.1, c.2.2⟩
theorem tk6_P {b : bF} {t : Nat → Int32} (h : q6 b) : tkP b (tk6 b t) := by
  have hm : sC b * 64 = 64 * sC b := Nat.mul_comm _ _
  have h1 : ¬ tE b (tG t 640) 32 (gC b) 56 := fun z => q6_no1 z h
  have h2 : ¬ tE b (t1_ b t) 40 (sC b) 64 := fun z => q6_no2 h1 z h
  intro i hi
  unfold tk6 mH
  rw [if_neg h1]
  unfold tT
  by_cases h0 : sC b = 0
  · rw [if_neg (fun z => z.1 h0), t1_n h1 hi]
    omega
  · have h3 : tI b 40 (sC b * 64) := Classical.byContradiction fun q => h2 ⟨h0, Or.inl q⟩
    rw [if_pos ⟨h0, h3⟩, tm_n, t1_n h1 hi, hm]
    omega
/-- the loaded segment before k, as the reference holds it -/
def lY (b : bF) (k : Nat) (z : Int32) : Prop := (z = -1 ∧ ∀ i, i < k → ¬ gL b i) ∨ ∃ j, j < k ∧ z = nI j ∧ gL b j ∧ ∀ i, j < i → i < k → ¬ gL b i
theorem lY_skip {b : bF} {k : Nat} {z : Int32} (h : lY b k z) (hn : ¬ gL b k) : lY b (k + 1) z := by
  rcases h with ⟨h1, h2⟩ | ⟨j, h1, h2, h3, h4⟩
  · exact Or.inl ⟨h1, lt_s h2 hn⟩
  · refine Or.inr ⟨j, by omega, h2, h3, fun i hi hk => ?_⟩
    by_cases e : i = k
    · rw [e]; exact hn
    · exact h4 i hi (by omega)
theorem lY_new {b : bF} {k : Nat} (h : gL b k) : lY b (k + 1) (nI k) := Or.inr ⟨k, by omega, rfl, h, fun i hi hk => by omega⟩
noncomputable def mV7 (w : mS) : mS := if oI (q7 w.1) (gC w.1) ≠ -1 then mB w (nI 7) (oI (q7 w.1) (gC w.1)) else if oI (q8 w.1) (gC w.1) ≠ -1 then mB w (nI 8) (oI (q8 w.1) (gC w.1)) else w
