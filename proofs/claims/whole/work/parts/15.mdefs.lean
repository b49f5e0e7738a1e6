/-! The reference's state, and what its methods answer -/
abbrev mS : Type := bF × Int32 × (Nat → Int32) × Int32 × Int32 × Int32
def c3 (a b : Nat) : Int32 := if a < b then (-1) else if b < a then nI 1 else nI 0
def bit (b : bF) (a k : Nat) : Nat := bg b (a + k / 8) / 2 ^ (k % 8) % 2
def pcn (b : bF) (a : Nat) : Nat → Nat
  | 0 => 0
  | n + 1 => pcn b a n + bit b a n
def mkv (k : Nat) : Nat := if k = 0 then 127 else if k = 1 then 69 else if k = 2 then 76 else if k = 3 then 70 else if k = 4 then 2 else if k < 7 then 1 else 0
def yB (b : bF) (k i : Nat) : Prop := ¬ yOK b k i ∨ (i = 0 ∧ ¬ ∀ j, j < 24 → bg b (rP b k + j) = 0)
/-- rule and row are set -/
def mB (w : mS) (x y : Int32) : mS := (w.1, w.2.1, w.2.2.1, w.2.2.2.1, x, y)
noncomputable def mU (w : mS) (P : Prop) (x y : Int32) : mS := @ite mS P (Classical.propDecidable P) w (mB w x y)
/-- places are marked -/
def tm (t : Nat → Int32) (x n : Nat) : Nat → Int32 := fun i => if x ≤ i ∧ i < x + n then nI 1 else t i
/-- rules 1 to 5 -/
noncomputable def r5 (b : bF) : Nat := @ite Nat (bn b < 64) (Classical.propDecidable _) 1 (@ite Nat (q2 b) (Classical.propDecidable _) (@ite Nat (q3 b) (Classical.propDecidable _) (@ite Nat (q4 b) (Classical.propDecidable _) (@ite Nat (q5 b) (Classical.propDecidable _) 0 5) 4) 3) 2)
def tI (b : bF) (a n : Nat) : Prop := bl b a 8 % 8 = 0 ∧ bl b a 8 + n ≤ bn b
noncomputable def tT (b : bF) (t : Nat → Int32) (a c z : Nat) : Nat → Int32 := @ite (Nat → Int32) (¬ c = 0 ∧ tI b a (c * z)) (Classical.propDecidable _) (tm t (bl b a 8) (c * z)) t
def cO (b : bF) (k : Nat) : Nat := if kd b k = 2 then rL b k / 24 else 0
abbrev mW (am : Nat → Nat) (cI cZ : ClassId) (w : mS) : va_W := [(am 0, .inr (4, [.int w.2.1, .int (nI (bn w.1)), .ref (am 1), .ref (am 2), .int w.2.2.2.1, .int w.2.2.2.2.1, .int w.2.2.2.2.2])), (am 1, .inl (cI, 640, .inl (fun k => nI (bg w.1 k)))), (am 2, .inl (cZ, 640, .inl w.2.2.1))]
def mK (D : va_G) (cI cZ : ClassId) (U : State) : Prop := va_K D vwCl [(cI, .int), (cZ, .boolean)] U ∧ True
theorem mK_tr {D : va_G} {cI cZ : ClassId} : tr_K (mK D cI cZ) := ⟨fun U g mk a h => ⟨tr_K_va.1 U g mk a h.1, trivial⟩, fun s U hW h => ⟨tr_K_va.2 s U hW h.1, trivial⟩⟩
def mA (am : Nat → Nat) : Nat → Prop := fun q => ∃ k, k < 3 ∧ q = am k
def ctM (l : Launch) (y : MethodName) (c : ByteArray) (mx : Nat) (ret : Option FieldType) (rm : Room) (D : va_G) (am : Nat → Nat) (cI cZ : ClassId) (pre : List Value) (f : rx_F mS) : Prop := ∀ (w : mS) (as : List Value) (g : Prop) (w1 : mS) (r : Option Value), f w as = some (g, w1, r) → g → tr l y (Cond.code y c mx ret :: wsA) rm (mK D cI cZ) D vwCl (mA am) (pre ++ as) (mW am cI cZ w) (mW am cI cZ w1) r
def mJ (am : Nat → Nat) : Prop := ∀ i j, i < 3 → j < 3 → am i = am j → i = j
theorem mW_at {am : Nat → Nat} {cI cZ : ClassId} {w : mS} {i : Nat} {p : Nat × va_E} (h : (mW am cI cZ w)[i]? = some p) : i < 3 ∧ p.1 = am i := by
  match i, h with
  | 0, h => cases h; exact ⟨by decide, rfl⟩
  | 1, h => cases h; exact ⟨by decide, rfl⟩
  | 2, h => cases h; exact ⟨by decide, rfl⟩
  | n + 3, h => simp [mW] at h
theorem mD {am : Nat → Nat} (hj : mJ am) (cI cZ : ClassId) (w : mS) : va_D (mA am) (mW am cI cZ w) := by
  refine ⟨fun i j p q h1 h2 e => ?_, fun k q h => ⟨k, (mW_at h).1, (mW_at h).2⟩⟩
  obtain ⟨a1, a2⟩ := mW_at h1
  obtain ⟨b1, b2⟩ := mW_at h2
  exact hj i j a1 b1 (by rw [← a2, ← b2]; exact e)
theorem mW_sz {am : Nat → Nat} {cI cZ : ClassId} {w : mS} {z : Int32} (h1 : z.toNatClampNeg ≤ 640) (h2 : nI z.toNatClampNeg = z) : mW am cI cZ (bSz w.1 z.toNatClampNeg, w.2) = (mW am cI cZ w).set 0 (am 0, .inr (4, ([.int w.2.1, .int (nI (bn w.1)), .ref (am 1), .ref (am 2), .int w.2.2.2.1, .int w.2.2.2.2.1, .int w.2.2.2.2.2] : List Value).set 1 (.int z))) := by
  show [(am 0, Sum.inr (4, [_, Value.int (nI (bn (bSz w.1 z.toNatClampNeg))), _, _, _, _, _])), _, _] = [_, _, _]
  rw [bn_sz h1, h2]
  rfl
theorem mW_bp {am : Nat → Nat} {cI cZ : ClassId} {w : mS} {k : Nat} {v : Int32} (h : ∃ m, m < 256 ∧ v = nI m) : mW am cI cZ (bPut w.1 k v.toNatClampNeg, w.2) = (mW am cI cZ w).set 1 (am 1, .inl (cI, 640, .inl (upd (fun k => nI (bg w.1 k)) k v))) := by
  obtain ⟨m, hm, rfl⟩ := h
  have e : (fun i => nI (bg (bPut w.1 k (nI m).toNatClampNeg) i)) = upd (fun k => nI (bg w.1 k)) k (nI m) := by
    funext i
    show nI (if i = k then (nI m).toNatClampNeg % 256 else bg w.1 i) = upd (fun k => nI (bg w.1 k)) k (nI m) i
    unfold upd
    split
    · rw [nI_clamp (by omega), Nat.mod_eq_of_lt hm]
    · rfl
  show [_, (am 1, Sum.inl (cI, 640, Sum.inl (fun i => nI (bg (bPut w.1 k (nI m).toNatClampNeg) i)))), _] = [_, _, _]
  rw [e]
  rfl
/-- several cuts -/
def rx_mc {σ : Type} : List (Nat × (Nat → σ → rx_L → Prop)) → Nat → Option (Nat → σ → rx_L → Prop)
  | [], _ => none
  | (t, g) :: r, pc => bif pc == t then some g else rx_mc r pc
theorem rx_mc_of {σ : Type} : ∀ (L : List (Nat × (Nat → σ → rx_L → Prop))) {pc : Nat} {g : Nat → σ → rx_L → Prop}, rx_mc L pc = some g → (pc, g) ∈ L
  | [], _, _, h => by cases h
  | (t, g) :: r, pc, g1, h => by
    unfold rx_mc at h
    cases e : (pc == t) with
    | true =>
      rw [e] at h
      cases h
      have e2 : pc = t := by simpa using e
      rw [e2]
      exact List.mem_cons_self
    | false =>
      rw [e] at h
      exact List.mem_cons_of_mem _ (rx_mc_of r h)
theorem rx_cut_m0 {σ : Type} {M pc : Nat} : rx_cut (σ := σ) (rx_mc []) M pc = none := rfl
theorem rx_cut_m1 {σ : Type} {t : Nat} {g : Nat → σ → rx_L → Prop} {L : List (Nat × (Nat → σ → rx_L → Prop))} {M pc : Nat} : rx_cut (rx_mc ((t, g) :: L)) M pc = bif pc == t then some (fun w lv st => ∃ (u : Nat) (lv0 : rx_L), u < M ∧ st = [] ∧ g u w lv0 ∧ ∀ q ∈ lv0, rx_get q.1 lv = some q.2) else rx_cut (rx_mc L) M pc := by
  unfold rx_cut
  have e : rx_mc ((t, g) :: L) pc = bif pc == t then some g else rx_mc L pc := rfl
  rw [e]
  cases (pc == t) <;> rfl
/-- an int is put into an array, of a kind -/
def rx_hBp {σ : Type} (b n : Nat) (pr : σ → Nat → Int32 → Prop) (f : σ → Nat → Int32 → σ) : rx_E σ := fun w i st => match i with
  | .iastore => (match st with
    | .int v :: .int x :: .ref b' :: r => if b' = b then some (.inl (vp_in x n ∧ pr w x.toNatClampNeg v, f w x.toNatClampNeg v, r)) else none
    | _ => none)
  | _ => none
theorem rx_hBp_ok {σ : Type} {m : MethodId} {cc : ByteArray} {nL : Nat} {I : σ → Heap → List Loc → Prop} {V : Heap → List Loc → JFrame → Prop} {b n : Nat} {pr : σ → Nat → Int32 → Prop} {f : σ → Nat → Int32 → σ} (h : ∀ (w : σ) (H : Heap) (locs : List Loc) (pc : Nat) (ls : Array Slot) (rest : List Value) (x v : Int32), I w H locs → vp_in x n → pr w x.toNatClampNeg v → decode cc pc = .ok (.iastore, 1) → (∀ H1 locs1, I (f w x.toNatClampNeg v) H1 locs1 → V H1 locs1 (F0 m (pc + 1) ls rest)) → V H locs (F0 m pc ls (.int v :: .int x :: .ref b :: rest))) : rx_Eok V m cc nL I (rx_hBp b n pr f) := by
  intro w H locs pc ls i st q hI hs e1 hd
  unfold rx_hBp at e1
  split at e1
  · split at e1
    · next v x b' r =>
      split at e1
      · next hb =>
        subst hb
        cases e1
        intro hin kk
        exact h w H locs pc ls r x v hI hin.1 hin.2 hd kk
      · cases e1
    · cases e1
  · cases e1
theorem bl_add (b : bF) : ∀ (j k a : Nat), bl b a (j + k) = bl b a j + 256 ^ j * bl b (a + j) k
  | 0, k, a => by
    rw [Nat.zero_add, Nat.add_zero, Nat.pow_zero, Nat.one_mul]
    exact (Nat.zero_add _).symm
  | j + 1, k, a => by
    have e : j + 1 + k = (j + k) + 1 := by omega
    rw [e]
    show bg b a + 256 * bl b (a + 1) (j + k) = bg b a + 256 * bl b (a + 1) j + _
    rw [bl_add b j k (a + 1), show a + 1 + j = a + (j + 1) by omega, Nat.pow_succ, Nat.mul_add]
    rw [← Nat.mul_assoc, Nat.mul_comm 256 (256 ^ j), Nat.add_assoc]
theorem bl_2 (b : bF) (a : Nat) : bl b a 2 = bg b a + 256 * bg b (a + 1) := by
  show bg b a + 256 * (bg b (a + 1) + 256 * 0) = _
  omega
theorem bl_4 (b : bF) (a : Nat) : bl b a 4 = bl b a 2 + 65536 * bl b (a + 2) 2 := bl_add b 2 2 a
theorem bl_8 (b : bF) (a : Nat) : bl b a 8 = bl b a 4 + 4294967296 * bl b (a + 4) 4 := bl_add b 4 4 a
theorem bl_q2 (b : bF) (a : Nat) : bl b a 2 < 65536 := bl_lt b a 2
theorem bl_q4 (b : bF) (a : Nat) : bl b a 4 < 4294967296 := bl_lt b a 4
theorem bl_q8 (b : bF) (a : Nat) : bl b a 8 < 18446744073709551616 := bl_lt b a 8
theorem nI_8 (b : bF) (a : Nat) : nI (bl b a 4) = nI (bl b a 8) := by
  rw [bl_8, ← nI_add, ← pk_mul]
  have e : nI 4294967296 = nI 0 := by decide
  rw [e, pk_mul, Nat.zero_mul, nI_add0]
theorem vp_ex {x : Int32} {n : Nat} (h : vp_in x n) (hn : n < 2 ^ 31) : ∃ a, a < n ∧ x = nI a ∧ x.toNatClampNeg = a := by
  obtain ⟨a, h1, h2⟩ := vp_in_of h hn
  exact ⟨a, h1, h2, by rw [h2, nI_clamp (by omega)]⟩

