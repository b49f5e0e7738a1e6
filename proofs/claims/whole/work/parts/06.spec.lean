/-! What the document asks of a file, in natural numbers: the fourteen rules. -/
def pw (v : Nat) : Prop := v = 0 ∨ v.isPowerOfTwo
def ovl (p l q k : Nat) : Prop := l ≠ 0 ∧ k ≠ 0 ∧ p < q + k ∧ q < p + l
def gOK (n pl ad fl ml al : Nat) : Prop := pw al ∧ pl + fl ≤ n ∧ fl ≤ ml ∧ ad + ml ≤ 18446744073709551616 ∧ (al = 0 ∨ ad % al = pl % al)
def tOK (n p1 l1 p2 l2 : Nat) : Prop := (l1 = 0 ∨ p1 % 8 = 0 ∧ p1 + l1 ≤ n) ∧ (l2 = 0 ∨ p2 % 8 = 0 ∧ p2 + l2 ≤ n) ∧ ¬ ovl 0 64 p1 l1 ∧ ¬ ovl 0 64 p2 l2 ∧ ¬ ovl p1 l1 p2 l2
/-- segments, sections: how many, where a row begins -/
def gC (b : bF) : Nat := bl b 56 2
def sC (b : bF) : Nat := bl b 60 2
def gA (b : bF) (k : Nat) : Nat := bl b 32 8 + 56 * k
def sA (b : bF) (k : Nat) : Nat := bl b 40 8 + 64 * k
def q2 (b : bF) : Prop := bg b 0 = 127 ∧ bg b 1 = 69 ∧ bg b 2 = 76 ∧ bg b 3 = 70
def q3 (b : bF) : Prop := bg b 4 = 2 ∧ bg b 5 = 1 ∧ bg b 6 = 1 ∧ ∀ i, i < 9 → bg b (7 + i) = 0
def q4 (b : bF) : Prop := 1 ≤ bl b 16 2 ∧ bl b 16 2 ≤ 3 ∧ bl b 18 2 = 243 ∧ bl b 20 4 = 1
def q5 (b : bF) : Prop := bl b 52 2 = 64 ∧ (gC b = 0 ∨ bl b 54 2 = 56) ∧ (sC b = 0 ∨ bl b 58 2 = 64)
def q6 (b : bF) : Prop := tOK (bn b) (bl b 32 8) (56 * gC b) (bl b 40 8) (64 * sC b)
def q7 (b : bF) (k : Nat) : Prop := ¬ gOK (bn b) (bl b (gA b k + 8) 8) (bl b (gA b k + 16) 8) (bl b (gA b k + 32) 8) (bl b (gA b k + 40) 8) (bl b (gA b k + 48) 8)
def gL (b : bF) (k : Nat) : Prop := bl b (gA b k) 4 = 1
def q8 (b : bF) (k : Nat) : Prop := gL b k ∧ ∃ j, j < k ∧ gL b j ∧ (∀ i, j < i → i < k → ¬ gL b i) ∧ bl b (gA b k + 16) 8 < bl b (gA b j + 16) 8 + bl b (gA b j + 40) 8
def kd (b : bF) (k : Nat) : Nat := bl b (sA b k + 4) 4
def rP (b : bF) (k : Nat) : Nat := bl b (sA b k + 24) 8
def rL (b : bF) (k : Nat) : Nat := if kd b k = 0 ∨ kd b k = 8 then 0 else bl b (sA b k + 32) 8
def q9 (b : bF) (k : Nat) : Prop := ¬ (kd b k ≤ 11 ∧ pw (bl b (sA b k + 48) 8) ∧ rP b k + rL b k ≤ bn b ∧ (bl b (sA b k + 48) 8 = 0 ∨ bl b (sA b k + 16) 8 % bl b (sA b k + 48) 8 = 0)) ∨ (k = 0 ∧ ¬ ∀ i, i < 64 → bg b (sA b 0 + i) = 0)
def q10 (b : bF) (k : Nat) : Prop := ovl 0 64 (rP b k) (rL b k) ∨ ovl (bl b 32 8) (56 * gC b) (rP b k) (rL b k) ∨ ovl (bl b 40 8) (64 * sC b) (rP b k) (rL b k) ∨ ∃ j, j < k ∧ ovl (rP b j) (rL b j) (rP b k) (rL b k)
def tX (b : bF) (v : Nat) : Prop := v < sC b ∧ kd b v = 3
def nX (b : bF) : Nat := bl b 62 2
def q11a (b : bF) (k : Nat) : Prop := kd b k = 3 ∧ ¬ (0 < rL b k ∧ bg b (rP b k) = 0 ∧ bg b (rP b k + rL b k - 1) = 0)
def q11b (b : bF) (k : Nat) : Prop := rL b (nX b) ≤ bl b (sA b k) 4
def q12 (b : bF) (k : Nat) : Prop := kd b k = 2 ∧ ¬ (bl b (sA b k + 56) 8 = 24 ∧ rL b k % 24 = 0 ∧ tX b (bl b (sA b k + 40) 4) ∧ bl b (sA b k + 44) 4 ≤ rL b k / 24)
def lK (b : bF) (k : Nat) : Nat := bl b (sA b k + 40) 4
def yA (b : bF) (k i : Nat) : Nat := rP b k + 24 * i
def yOK (b : bF) (k i : Nat) : Prop := (bg b (yA b k i + 4) / 16 = 0 ↔ i < bl b (sA b k + 44) 4) ∧ (bl b (yA b k i + 6) 2 < sC b ∨ bl b (yA b k i + 6) 2 = 65521 ∨ bl b (yA b k i + 6) 2 = 65522) ∧ bl b (yA b k i) 4 < rL b (lK b k)
def q13 (b : bF) (k : Nat) : Prop := kd b k = 2 ∧ ¬ ((∀ i, i < rL b k / 24 → yOK b k i) ∧ (rL b k / 24 = 0 ∨ ∀ i, i < 24 → bg b (rP b k + i) = 0))
def gI (b : bF) (a k : Nat) : Prop := bl b (gA b k + 16) 8 ≤ a ∧ a < bl b (gA b k + 16) 8 + bl b (gA b k + 40) 8
def q14 (b : bF) : Prop := bl b 16 2 = 2 → ∃ k, k < gC b ∧ gL b k ∧ bl b (gA b k + 4) 4 % 2 = 1 ∧ gI b (bl b 24 8) k
/-- rule 11's row -/
noncomputable def r11 (b : bF) : Int32 := @ite Int32 (sC b = 0) (Classical.propDecidable _) (-1) (@ite Int32 (tX b (nX b)) (Classical.propDecidable _) (if oI (q11a b) (sC b) = -1 then oI (q11b b) (sC b) else oI (q11a b) (sC b)) (nI 0))
/-- the head's first broken rule, or 0 -/
noncomputable def rH (b : bF) : Nat := @ite Nat (bn b < 64) (Classical.propDecidable _) 1 (@ite Nat (q2 b) (Classical.propDecidable _) (@ite Nat (q3 b) (Classical.propDecidable _) (@ite Nat (q4 b) (Classical.propDecidable _) (@ite Nat (q5 b) (Classical.propDecidable _) (@ite Nat (q6 b) (Classical.propDecidable _) 0 6) 5) 4) 3) 2)
/-- the verdict: the rule, the row -/
noncomputable def vD (b : bF) : Int32 × Int32 :=
  if rH b ≠ 0 then (nI (rH b), -1)
  else if oI (q7 b) (gC b) ≠ -1 then (nI 7, oI (q7 b) (gC b))
  else if oI (q8 b) (gC b) ≠ -1 then (nI 8, oI (q8 b) (gC b))
  else if oI (q9 b) (sC b) ≠ -1 then (nI 9, oI (q9 b) (sC b))
  else if oI (q10 b) (sC b) ≠ -1 then (nI 10, oI (q10 b) (sC b))
  else if r11 b ≠ -1 then (nI 11, r11 b)
  else if oI (q12 b) (sC b) ≠ -1 then (nI 12, oI (q12 b) (sC b))
  else if oI (q13 b) (sC b) ≠ -1 then (nI 13, oI (q13 b) (sC b))
  else @ite (Int32 × Int32) (q14 b) (Classical.propDecidable _) (nI 0, -1) (nI 14, -1)
