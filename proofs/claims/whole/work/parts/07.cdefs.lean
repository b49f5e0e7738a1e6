/-! The class's state, and what its methods answer -/
abbrev cS : Type := bF × Int32 × Int32 × Int32
def gS (b : bF) (k : Int32) : Int32 := nI (nu b 32 8) + nI 56 * k
def sS (b : bF) (k : Int32) : Int32 := nI (nu b 40 8) + nI 64 * k
def iT (b : bF) (v : Nat) : Prop := v < nu b 60 2 ∧ nm b (sS b (nI v) + nI 4) 4 = 3
def rl (b : bF) (x : Int32) : Nat := if nm b (x + nI 4) 4 = 0 ∨ nm b (x + nI 4) 4 = 8 then 0 else nm b (x + nI 32) 8
def nS (b : bF) : Int32 := sS b (nI (nu b 62 2))
def lS (b : bF) (x : Int32) : Int32 := sS b (nI (nm b (x + nI 40) 4))
def yC (b : bF) (x : Int32) : Int32 := if nm b (x + nI 4) 4 = 2 then (lN (rl b x) / lN 24).toInt32 else nI 0
/-- what the head's rules leave: the head is there, the tables are in the file -/
def t6 (b : bF) : Prop := 64 ≤ bn b ∧ (gC b = 0 ∨ bl b 32 8 + 56 * gC b ≤ bn b) ∧ (sC b = 0 ∨ bl b 40 8 + 64 * sC b ≤ bn b)
def yS (b : bF) (x i : Int32) : Int32 := nI (nm b (x + nI 24) 8) + nI 24 * i
abbrev cW (ad : Nat → Nat) (cB : ClassId) (w : cS) : va_W := [(ad 0, .inr (3, [.ref (ad 1), .ref (ad 2), .ref (ad 3), .int w.2.1, .int w.2.2.1])), (ad 1, .inr (1, [.ref (ad 4), .int (nI (bn w.1))])), (ad 2, .inr (0, [.ref (ad 1)])), (ad 3, .inr (2, [.ref (ad 1), .ref (ad 2), .int w.2.2.2])), (ad 4, .inl (cB, 640, .inl (fun k => sB (bg w.1 k))))]
def cK (D : va_G) (cB : ClassId) (U : State) : Prop := va_K D vwCl [(cB, .byte)] U ∧ va_Nw (.fieldLinkNest RX3 49 RX1 "size" "I" "FileJudge") U ∧ va_Nw (.fieldLinkNest RX2 56 RX1 "size" "I" "FileJudge") U ∧ va_Nw (.fieldLinkNest RX3 76 RX2 "culprit" "I" "FileJudge") U
theorem cK_tr {D : va_G} {cB : ClassId} : tr_K (cK D cB) := tr_K_and tr_K_va (tr_K_and tr_K_nf (tr_K_and tr_K_nf tr_K_nf))
def cA (ad : Nat → Nat) : Nat → Prop := fun q => ∃ k, k < 5 ∧ q = ad k
def ctC (l : Launch) (y : MethodName) (c : ByteArray) (mx : Nat) (ret : Option FieldType) (rm : Room) (D : va_G) (ad : Nat → Nat) (cB : ClassId) (pre : List Value) (f : rx_F cS) : Prop := ∀ (w : cS) (as : List Value) (g : Prop) (w1 : cS) (r : Option Value), f w as = some (g, w1, r) → g → tr l y (Cond.code y c mx ret :: wsA) rm (cK D cB) D vwCl (cA ad) (pre ++ as) (cW ad cB w) (cW ad cB w1) r
theorem bn_l (b : bF) : (nI (bn b)).toInt64 = lN (bn b) := nI_l (by have := bn_le b; omega)
theorem uN_bn (b : bF) : uN (lN (bn b)) = bn b := uN_lN (by have := bn_le b; omega)
theorem i_m1 (x : Int32) : x + -1 = x - nI 1 := (Int32.sub_eq_add_neg x (nI 1)).symm
theorem nI_c1 : (nI 1).toNatClampNeg = 1 := by decide
theorem nI_c2 : (nI 2).toNatClampNeg = 2 := by decide
theorem nI_c4 : (nI 4).toNatClampNeg = 4 := by decide
theorem nI_c8 : (nI 8).toNatClampNeg = 8 := by decide
theorem nI_c9 : (nI 9).toNatClampNeg = 9 := by decide
theorem nI_c24 : (nI 24).toNatClampNeg = 24 := by decide
theorem nI_c64 : (nI 64).toNatClampNeg = 64 := by decide
theorem nm_K {b : bF} {k : Nat} : (nm b (nI 56) k = nu b 56 k) ∧ (nm b (nI 60) k = nu b 60 k) ∧ (nm b (nI 32) k = nu b 32 k) ∧ (nm b (nI 40) k = nu b 40 k) ∧ (nm b (nI 62) k = nu b 62 k) ∧ (nm b (nI 24) k = nu b 24 k) ∧ (nm b (nI 16) k = nu b 16 k) ∧ (nm b (nI 18) k = nu b 18 k) ∧ (nm b (nI 20) k = nu b 20 k) ∧ (nm b (nI 52) k = nu b 52 k) ∧ (nm b (nI 54) k = nu b 54 k) ∧ (nm b (nI 58) k = nu b 58 k) ∧ (nm b (nI 0) k = nu b 0 k) ∧ (nm b (nI 1) k = nu b 1 k) ∧ (nm b (nI 2) k = nu b 2 k) ∧ (nm b (nI 3) k = nu b 3 k) ∧ (nm b (nI 4) k = nu b 4 k) ∧ (nm b (nI 5) k = nu b 5 k) ∧ (nm b (nI 6) k = nu b 6 k) := by
  refine ⟨?_, ?_, ?_, ?_, ?_, ?_, ?_, ?_, ?_, ?_, ?_, ?_, ?_, ?_, ?_, ?_, ?_, ?_, ?_⟩ <;> exact nm_nI (by decide)
theorem lN_and1 {v : Nat} (h : v < 18446744073709551616) : lN v &&& lN 1 = lN (v % 2) := by
  apply uN_inj
  rw [uN_and, uN_lN h, uN_lN (by decide), uN_lN (by omega), Nat.and_one_is_mod]
theorem rx_m1 : Int32.ofInt (-1) = -1 := by decide
theorem rx_l0 : lN ((0 : Fin 2) : Nat) = lN 0 := rfl
theorem rx_l1 : lN ((1 : Fin 2) : Nat) = lN 1 := rfl
theorem rx_fv0 : ((0 : Fin 4) : Nat) = 0 := rfl
theorem rx_fv1 : ((1 : Fin 4) : Nat) = 1 := rfl
theorem rx_fv2 : ((2 : Fin 4) : Nat) = 2 := rfl
theorem rx_fv3 : ((3 : Fin 4) : Nat) = 3 := rfl

