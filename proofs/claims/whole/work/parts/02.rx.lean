/-! A runner of instruction tables: rx .. is a Prop about lists of values alone; rx_sound turns it into W. -/
abbrev rx_L : Type := List (Nat × Value)
abbrev rx_I : Type := Nat × Instr × Nat
abbrev rx_P : Type := List rx_I
abbrev rx_R (σ : Type) : Type := (Prop × σ × List Value) ⊕ (Prop × Prop × σ × List Value)
abbrev rx_E (σ : Type) : Type := σ → Instr → List Value → Option (rx_R σ)
abbrev rx_K (σ : Type) : Type := Nat → rx_P → σ → rx_L → List Value → Prop
def rx_get (i : Nat) : rx_L → Option Value
  | [] => none
  | (j, v) :: r => bif j == i then some v else rx_get i r
def rx_to (t : Nat) : rx_P → rx_P
  | [] => []
  | q :: r => bif q.1 == t then q :: r else rx_to t r
def rx_two : Value → Bool
  | .long _ => true
  | .double _ => true
  | _ => false
def rx_f1 (i : Nat) : rx_L → rx_L
  | [] => []
  | (j, v) :: r => bif (j == i) || ((j + 1 == i) && rx_two v) then rx_f1 i r else (j, v) :: rx_f1 i r
def rx_f2 (i : Nat) : rx_L → rx_L
  | [] => []
  | (j, v) :: r => bif (j == i) || ((j == i + 1) || ((j + 1 == i) && rx_two v)) then rx_f2 i r else (j, v) :: rx_f2 i r
def rx_c (n : Int) : Int32 := if n < 0 then Int32.ofInt n else nI n.toNat
def rx_len : Instr → Nat
  | .bipush _ => 2
  | .sipush _ => 3
  | .iload _ => 2
  | .lload _ => 2
  | .aload _ => 2
  | .istore _ => 2
  | .lstore _ => 2
  | .astore _ => 2
  | .iinc _ _ => 3
  | .ifCond _ _ => 3
  | .if_icmp _ _ => 3
  | .goto _ => 3
  | .ldc _ => 2
  | .ldc2_w _ => 3
  | .getfield _ => 3
  | .putfield _ => 3
  | .invokevirtual _ => 3
  | .invokespecial _ => 3
  | .invokestatic _ => 3
  | .new _ => 3
  | .newarray _ => 2
  | .tableswitch _ _ _ _ => 0
  | _ => 1
def rx_tg (pc : Nat) : Instr → Nat → Bool
  | .ifCond _ o, t => decide ((pc : Int) + o = (t : Int))
  | .if_icmp _ o, t => decide ((pc : Int) + o = (t : Int))
  | .goto o, t => decide ((pc : Int) + o = (t : Int))
  | _, _ => true
def rx_okb (cc : ByteArray) (q : rx_I) : Bool := match decode cc q.1 with
  | .ok (i, n) => decide (i = q.2.1) && (rx_len i == 0 || rx_len i == n) && rx_tg q.1 q.2.1 q.2.2
  | .error _ => false
def rx_ok (cc : ByteArray) (q : rx_I) : Prop := ∃ n, decode cc q.1 = .ok (q.2.1, n) ∧ (rx_len q.2.1 = 0 ∨ rx_len q.2.1 = n) ∧ rx_tg q.1 q.2.1 q.2.2 = true
theorem rx_ok_of {cc : ByteArray} {q : rx_I} (h : rx_okb cc q = true) : rx_ok cc q := by
  unfold rx_okb at h
  split at h
  · next i n e =>
    simp only [Bool.and_eq_true, Bool.or_eq_true, decide_eq_true_eq, beq_iff_eq] at h
    obtain ⟨⟨h1, h2⟩, h3⟩ := h
    subst h1
    exact ⟨n, e, h2, h3⟩
  · exact absurd h (by simp)
theorem rx_ok_all {cc : ByteArray} {P : rx_P} (h : P.all (rx_okb cc) = true) : ∀ q ∈ P, rx_ok cc q := fun q hq => rx_ok_of (List.all_eq_true.mp h q hq)
theorem rx_dec {cc : ByteArray} {pc t : Nat} {i : Instr} (h : rx_ok cc (pc, i, t)) {n : Nat} (hn : rx_len i = n) (h0 : n ≠ 0) : decode cc pc = .ok (i, n) := by
  obtain ⟨k, h1, h2, -⟩ := h
  rcases h2 with h2 | h2
  · exact absurd (hn.symm.trans h2) h0
  · have e : k = n := h2.symm.trans hn
    subst e
    exact h1
theorem rx_to_sub {t : Nat} : ∀ {P : rx_P}, ∀ q ∈ rx_to t P, q ∈ P
  | [], _, h => h
  | a :: r, q, h => by
    unfold rx_to at h
    cases e : (a.1 == t) with
    | true => rw [e] at h; exact h
    | false => rw [e] at h; exact List.mem_cons_of_mem _ (rx_to_sub q h)
theorem rx_get_has {ls : Array Slot} {nL : Nat} {lv : rx_L} (h : lv_has ls nL lv) {i : Nat} {v : Value} (e : rx_get i lv = some v) : ls[i]? = some (.val v) := by
  obtain ⟨-, -, h3⟩ := h
  induction lv with
  | nil => cases e
  | cons a r ih =>
    obtain ⟨j, u⟩ := a
    unfold rx_get at e
    by_cases q : (j == i) = true
    · rw [q] at e
      cases e
      have q' : j = i := by simpa using q
      subst q'
      exact h3 _ List.mem_cons_self
    · have q2 : (j == i) = false := by simpa using q
      rw [q2] at e
      exact ih e (fun x hx => h3 x (List.mem_cons_of_mem _ hx))
theorem rx_sub_has {ls : Array Slot} {nL : Nat} {lv lv' : rx_L} (h : lv_has ls nL lv) (hs : ∀ q ∈ lv', rx_get q.1 lv = some q.2) : lv_has ls nL lv' := ⟨h.1, h.2.1, fun q hq => rx_get_has h (hs q hq)⟩
theorem rx_two_eq (v : Value) : (v.category == 2) = rx_two v := by cases v <;> rfl
theorem rx_f1_eq (i : Nat) : ∀ lv : rx_L, lv.filter (fun q => !(q.1 == i) && !(q.1 + 1 == i && q.2.category == 2)) = rx_f1 i lv
  | [] => rfl
  | (j, v) :: r => by
    have e : rx_f1 i ((j, v) :: r) = bif (j == i) || ((j + 1 == i) && rx_two v) then rx_f1 i r else (j, v) :: rx_f1 i r := rfl
    rw [List.filter_cons, rx_f1_eq i r, e]
    simp only [rx_two_eq]
    cases (j == i) <;> cases ((j + 1 == i) && rx_two v) <;> rfl
theorem rx_f2_eq (i : Nat) : ∀ lv : rx_L, lv.filter (fun q => !(q.1 == i) && (!(q.1 == i + 1) && !(q.1 + 1 == i && q.2.category == 2))) = rx_f2 i lv
  | [] => rfl
  | (j, v) :: r => by
    have e : rx_f2 i ((j, v) :: r) = bif (j == i) || ((j == i + 1) || ((j + 1 == i) && rx_two v)) then rx_f2 i r else (j, v) :: rx_f2 i r := rfl
    rw [List.filter_cons, rx_f2_eq i r, e]
    simp only [rx_two_eq]
    cases (j == i) <;> cases (j == i + 1) <;> cases ((j + 1 == i) && rx_two v) <;> rfl
theorem rx_c_eq (n : Int) : Int32.ofInt n = rx_c n := by
  unfold rx_c
  split
  · rfl
  · next h =>
    obtain ⟨k, rfl⟩ := Int.eq_ofNat_of_zero_le (Int.not_lt.mp h)
    rfl
theorem rx_c8 {n : Int} (h1 : -128 ≤ n) (h2 : n < 128) : (Int8.ofInt n).toInt32 = rx_c n := by
  rw [← rx_c_eq]
  apply Int32.toInt_inj.mp
  rw [Int8.toInt_toInt32, Int8.toInt_ofInt_of_le (by omega) (by omega), Int32.toInt_ofInt_of_le (by omega) (by omega)]
theorem rx_c16 {n : Int} (h1 : -32768 ≤ n) (h2 : n < 32768) : (Int16.ofInt n).toInt32 = rx_c n := by
  rw [← rx_c_eq]
  apply Int32.toInt_inj.mp
  rw [Int16.toInt_toInt32, Int16.toInt_ofInt_of_le (by omega) (by omega), Int32.toInt_ofInt_of_le (by omega) (by omega)]
/-- a switch's roads, from the number j on -/
def rx_sw (go : Nat → Prop) (pc : Nat) (x : Int) : Int → List Int → Prop
  | _, [] => True
  | j, o :: r => (x = j → 0 ≤ (pc : Int) + o ∧ go ((pc : Int) + o).toNat) ∧ rx_sw go pc x (j + 1) r

def rx_ext {σ : Type} (E : rx_E σ) (k : rx_K σ) (pc : Nat) (i : Instr) (nx : rx_P) (w : σ) (lv : rx_L) (st : List Value) : Prop := match E w i st with
  | some (.inl (g, w1, st1)) => g ∧ k (pc + rx_len i) nx w1 lv st1
  | some (.inr (g, x, w1, st1)) => (g → k (pc + rx_len i) nx w1 lv st1) ∧ (¬ g → x)
  | none => False
def rx_ins {σ : Type} (P : rx_P) (E : rx_E σ) (nL : Nat) (Q : σ → Option Value → Prop) (k : rx_K σ) (pc : Nat) (i : Instr) (t : Nat) (nx : rx_P) (w : σ) (lv : rx_L) (st : List Value) : Prop := match i with
  | .iconst n => k (pc + 1) nx w lv (.int (rx_c n) :: st)
  | .bipush n => (-128 ≤ n ∧ n < 128) ∧ k (pc + 2) nx w lv (.int (rx_c n) :: st)
  | .sipush n => (-32768 ≤ n ∧ n < 32768) ∧ k (pc + 3) nx w lv (.int (rx_c n) :: st)
  | .lconst n => k (pc + 1) nx w lv (.long (lN (n : Nat)) :: st)
  | .iload_n i => match rx_get i.val lv with
    | some (.int x) => k (pc + 1) nx w lv (.int x :: st)
    | _ => False
  | .iload i => match rx_get i lv with
    | some (.int x) => k (pc + 2) nx w lv (.int x :: st)
    | _ => False
  | .lload_n i => match rx_get i.val lv with
    | some (.long x) => k (pc + 1) nx w lv (.long x :: st)
    | _ => False
  | .lload i => match rx_get i lv with
    | some (.long x) => k (pc + 2) nx w lv (.long x :: st)
    | _ => False
  | .aload_n i => match rx_get i.val lv with
    | some (.ref x) => k (pc + 1) nx w lv (.ref x :: st)
    | _ => False
  | .aload i => match rx_get i lv with
    | some (.ref x) => k (pc + 2) nx w lv (.ref x :: st)
    | _ => False
  | .istore_n i => match st with
    | .int x :: r => i.val < nL ∧ k (pc + 1) nx w ((i.val, .int x) :: rx_f1 i.val lv) (r)
    | _ => False
  | .istore i => match st with
    | .int x :: r => i < nL ∧ k (pc + 2) nx w ((i, .int x) :: rx_f1 i lv) (r)
    | _ => False
  | .lstore_n i => match st with
    | .long x :: r => i.val + 1 < nL ∧ k (pc + 1) nx w ((i.val, .long x) :: rx_f2 i.val lv) (r)
    | _ => False
  | .lstore i => match st with
    | .long x :: r => i + 1 < nL ∧ k (pc + 2) nx w ((i, .long x) :: rx_f2 i lv) (r)
    | _ => False
  | .astore_n i => match st with
    | .ref x :: r => i.val < nL ∧ k (pc + 1) nx w ((i.val, .ref x) :: rx_f1 i.val lv) (r)
    | _ => False
  | .astore i => match st with
    | .ref x :: r => i < nL ∧ k (pc + 2) nx w ((i, .ref x) :: rx_f1 i lv) (r)
    | _ => False
  | .iinc i n => match rx_get i lv with
    | some (.int x) => i < nL ∧ k (pc + 3) nx w ((i, .int (x + rx_c n)) :: rx_f1 i lv) st
    | _ => False
  | .iadd => match st with
    | .int y :: .int x :: r => k (pc + 1) nx w lv (.int (x + y) :: r)
    | _ => False
  | .isub => match st with
    | .int y :: .int x :: r => k (pc + 1) nx w lv (.int (x - y) :: r)
    | _ => False
  | .imul => match st with
    | .int y :: .int x :: r => k (pc + 1) nx w lv (.int (x * y) :: r)
    | _ => False
  | .iand => match st with
    | .int y :: .int x :: r => k (pc + 1) nx w lv (.int (x &&& y) :: r)
    | _ => False
  | .ixor => match st with
    | .int y :: .int x :: r => k (pc + 1) nx w lv (.int (x ^^^ y) :: r)
    | _ => False
  | .ishr => match st with
    | .int y :: .int x :: r => k (pc + 1) nx w lv (.int (x >>> (y &&& 31)) :: r)
    | _ => False
  | .idiv => match st with
    | .int y :: .int x :: r => ¬ y = 0 ∧ k (pc + 1) nx w lv (.int (x / y) :: r)
    | _ => False
  | .irem => match st with
    | .int y :: .int x :: r => ¬ y = 0 ∧ k (pc + 1) nx w lv (.int (x - x / y * y) :: r)
    | _ => False
  | .ladd => match st with
    | .long y :: .long x :: r => k (pc + 1) nx w lv (.long (x + y) :: r)
    | _ => False
  | .lsub => match st with
    | .long y :: .long x :: r => k (pc + 1) nx w lv (.long (x - y) :: r)
    | _ => False
  | .land => match st with
    | .long y :: .long x :: r => k (pc + 1) nx w lv (.long (x &&& y) :: r)
    | _ => False
  | .lor => match st with
    | .long y :: .long x :: r => k (pc + 1) nx w lv (.long (x ||| y) :: r)
    | _ => False
  | .lxor => match st with
    | .long y :: .long x :: r => k (pc + 1) nx w lv (.long (x ^^^ y) :: r)
    | _ => False
  | .lmul => match st with
    | .long y :: .long x :: r => k (pc + 1) nx w lv (.long (x * y) :: r)
    | _ => False
  | .ldiv => match st with
    | .long y :: .long x :: r => ¬ y = 0 ∧ k (pc + 1) nx w lv (.long (x / y) :: r)
    | _ => False
  | .lrem => match st with
    | .long y :: .long x :: r => ¬ y = 0 ∧ k (pc + 1) nx w lv (.long (x - x / y * y) :: r)
    | _ => False
  | .lushr => match st with
    | .int y :: .long x :: r => k (pc + 1) nx w lv (.long ((x.toUInt64 >>> (y.toInt64.toUInt64 &&& Int64.toUInt64 63)).toInt64) :: r)
    | _ => False
  | .lshl => match st with
    | .int y :: .long x :: r => k (pc + 1) nx w lv (.long (x <<< (y.toInt64 &&& 63)) :: r)
    | _ => False
  | .lshr => match st with
    | .int y :: .long x :: r => k (pc + 1) nx w lv (.long (x >>> (y.toInt64 &&& 63)) :: r)
    | _ => False
  | .lneg => match st with
    | .long x :: r => k (pc + 1) nx w lv (.long (-x) :: r)
    | _ => False
  | .i2l => match st with
    | .int x :: r => k (pc + 1) nx w lv (.long (x.toInt64) :: r)
    | _ => False
  | .l2i => match st with
    | .long x :: r => k (pc + 1) nx w lv (.int (x.toInt32) :: r)
    | _ => False
  | .i2b => match st with
    | .int x :: r => k (pc + 1) nx w lv (.int (x.toInt8.toInt32) :: r)
    | _ => False
  | .lcmp => match st with
    | .long y :: .long x :: r => k (pc + 1) nx w lv (.int (lg_cmp x y) :: r)
    | _ => False
  | .dup => match st with
    | .int x :: r => k (pc + 1) nx w lv (.int x :: .int x :: r)
    | .ref x :: r => k (pc + 1) nx w lv (.ref x :: .ref x :: r)
    | _ => False
  | .pop => match st with
    | .int x :: r => k (pc + 1) nx w lv (r)
    | .ref x :: r => k (pc + 1) nx w lv (r)
    | _ => False
  | .ifCond c _ => match st with
    | .int x :: r => match c with
      | .eq => (x = 0 → k t (rx_to t P) w lv r) ∧ (¬ x = 0 → k (pc + 3) nx w lv (r))
      | .ne => (¬ x = 0 → k t (rx_to t P) w lv r) ∧ (x = 0 → k (pc + 3) nx w lv (r))
      | .lt => (x < 0 → k t (rx_to t P) w lv r) ∧ (¬ x < 0 → k (pc + 3) nx w lv (r))
      | .ge => (0 ≤ x → k t (rx_to t P) w lv r) ∧ (¬ 0 ≤ x → k (pc + 3) nx w lv (r))
      | .gt => (0 < x → k t (rx_to t P) w lv r) ∧ (¬ 0 < x → k (pc + 3) nx w lv (r))
      | .le => (x ≤ 0 → k t (rx_to t P) w lv r) ∧ (¬ x ≤ 0 → k (pc + 3) nx w lv (r))
    | _ => False
  | .if_icmp c _ => match st with
    | .int y :: .int x :: r => match c with
      | .eq => (x = y → k t (rx_to t P) w lv r) ∧ (¬ x = y → k (pc + 3) nx w lv (r))
      | .ne => (¬ x = y → k t (rx_to t P) w lv r) ∧ (x = y → k (pc + 3) nx w lv (r))
      | .lt => (x < y → k t (rx_to t P) w lv r) ∧ (¬ x < y → k (pc + 3) nx w lv (r))
      | .ge => (y ≤ x → k t (rx_to t P) w lv r) ∧ (¬ y ≤ x → k (pc + 3) nx w lv (r))
      | .gt => (y < x → k t (rx_to t P) w lv r) ∧ (¬ y < x → k (pc + 3) nx w lv (r))
      | .le => (x ≤ y → k t (rx_to t P) w lv r) ∧ (¬ x ≤ y → k (pc + 3) nx w lv (r))
    | _ => False
  | .goto _ => k t (rx_to t P) w lv st
  | .tableswitch d lo hi offs => match st with
    | .int x :: r => ((x.toInt < lo ∨ hi < x.toInt) → 0 ≤ (pc : Int) + d ∧ k ((pc : Int) + d).toNat (rx_to ((pc : Int) + d).toNat P) w lv r) ∧ offs.toList.length = (hi - lo + 1).toNat ∧ rx_sw (fun u => k u (rx_to u P) w lv r) pc x.toInt lo offs.toList
    | _ => False
  | .ireturn => match st with
    | [.int x] => Q w (some (.int x))
    | _ => False
  | .lreturn => match st with
    | [.long x] => Q w (some (.long x))
    | _ => False
  | .return_ => match st with
    | [] => Q w (none)
    | _ => False
  | i => rx_ext E k pc i nx w lv st
theorem rx_iconst {σ : Type} {P : rx_P} {E : rx_E σ} {nL : Nat} {Q : σ → Option Value → Prop} {k : rx_K σ} {pc t : Nat} {nx : rx_P} {w : σ} {lv : rx_L} {r : List Value} {n : Int} : rx_ins P E nL Q k pc (.iconst n) t nx w lv (r) = (k (pc + 1) nx w lv (.int (rx_c n) :: r)) := rfl
theorem rx_bipush {σ : Type} {P : rx_P} {E : rx_E σ} {nL : Nat} {Q : σ → Option Value → Prop} {k : rx_K σ} {pc t : Nat} {nx : rx_P} {w : σ} {lv : rx_L} {r : List Value} {n : Int} : rx_ins P E nL Q k pc (.bipush n) t nx w lv (r) = ((-128 ≤ n ∧ n < 128) ∧ k (pc + 2) nx w lv (.int (rx_c n) :: r)) := rfl
theorem rx_sipush {σ : Type} {P : rx_P} {E : rx_E σ} {nL : Nat} {Q : σ → Option Value → Prop} {k : rx_K σ} {pc t : Nat} {nx : rx_P} {w : σ} {lv : rx_L} {r : List Value} {n : Int} : rx_ins P E nL Q k pc (.sipush n) t nx w lv (r) = ((-32768 ≤ n ∧ n < 32768) ∧ k (pc + 3) nx w lv (.int (rx_c n) :: r)) := rfl
theorem rx_lconst {σ : Type} {P : rx_P} {E : rx_E σ} {nL : Nat} {Q : σ → Option Value → Prop} {k : rx_K σ} {pc t : Nat} {nx : rx_P} {w : σ} {lv : rx_L} {r : List Value} {n : Fin 2} : rx_ins P E nL Q k pc (.lconst n) t nx w lv (r) = (k (pc + 1) nx w lv (.long (lN (n : Nat)) :: r)) := rfl
theorem rx_iload_n {σ : Type} {P : rx_P} {E : rx_E σ} {nL : Nat} {Q : σ → Option Value → Prop} {k : rx_K σ} {pc t : Nat} {nx : rx_P} {w : σ} {lv : rx_L} {r : List Value} {i : Fin 4} : rx_ins P E nL Q k pc (.iload_n i) t nx w lv r = (match rx_get i.val lv with | some (.int x) => k (pc + 1) nx w lv (.int x :: r) | _ => False) := rfl
theorem rx_iload {σ : Type} {P : rx_P} {E : rx_E σ} {nL : Nat} {Q : σ → Option Value → Prop} {k : rx_K σ} {pc t : Nat} {nx : rx_P} {w : σ} {lv : rx_L} {r : List Value} {i : Nat} : rx_ins P E nL Q k pc (.iload i) t nx w lv r = (match rx_get i lv with | some (.int x) => k (pc + 2) nx w lv (.int x :: r) | _ => False) := rfl
theorem rx_lload_n {σ : Type} {P : rx_P} {E : rx_E σ} {nL : Nat} {Q : σ → Option Value → Prop} {k : rx_K σ} {pc t : Nat} {nx : rx_P} {w : σ} {lv : rx_L} {r : List Value} {i : Fin 4} : rx_ins P E nL Q k pc (.lload_n i) t nx w lv r = (match rx_get i.val lv with | some (.long x) => k (pc + 1) nx w lv (.long x :: r) | _ => False) := rfl
theorem rx_lload {σ : Type} {P : rx_P} {E : rx_E σ} {nL : Nat} {Q : σ → Option Value → Prop} {k : rx_K σ} {pc t : Nat} {nx : rx_P} {w : σ} {lv : rx_L} {r : List Value} {i : Nat} : rx_ins P E nL Q k pc (.lload i) t nx w lv r = (match rx_get i lv with | some (.long x) => k (pc + 2) nx w lv (.long x :: r) | _ => False) := rfl
theorem rx_aload_n {σ : Type} {P : rx_P} {E : rx_E σ} {nL : Nat} {Q : σ → Option Value → Prop} {k : rx_K σ} {pc t : Nat} {nx : rx_P} {w : σ} {lv : rx_L} {r : List Value} {i : Fin 4} : rx_ins P E nL Q k pc (.aload_n i) t nx w lv r = (match rx_get i.val lv with | some (.ref x) => k (pc + 1) nx w lv (.ref x :: r) | _ => False) := rfl
theorem rx_aload {σ : Type} {P : rx_P} {E : rx_E σ} {nL : Nat} {Q : σ → Option Value → Prop} {k : rx_K σ} {pc t : Nat} {nx : rx_P} {w : σ} {lv : rx_L} {r : List Value} {i : Nat} : rx_ins P E nL Q k pc (.aload i) t nx w lv r = (match rx_get i lv with | some (.ref x) => k (pc + 2) nx w lv (.ref x :: r) | _ => False) := rfl
theorem rx_istore_n {σ : Type} {P : rx_P} {E : rx_E σ} {nL : Nat} {Q : σ → Option Value → Prop} {k : rx_K σ} {pc t : Nat} {nx : rx_P} {w : σ} {lv : rx_L} {r : List Value} {i : Fin 4} {x : Int32} : rx_ins P E nL Q k pc (.istore_n i) t nx w lv (.int x :: r) = (i.val < nL ∧ k (pc + 1) nx w ((i.val, .int x) :: rx_f1 i.val lv) (r)) := rfl
theorem rx_istore {σ : Type} {P : rx_P} {E : rx_E σ} {nL : Nat} {Q : σ → Option Value → Prop} {k : rx_K σ} {pc t : Nat} {nx : rx_P} {w : σ} {lv : rx_L} {r : List Value} {i : Nat} {x : Int32} : rx_ins P E nL Q k pc (.istore i) t nx w lv (.int x :: r) = (i < nL ∧ k (pc + 2) nx w ((i, .int x) :: rx_f1 i lv) (r)) := rfl
theorem rx_lstore_n {σ : Type} {P : rx_P} {E : rx_E σ} {nL : Nat} {Q : σ → Option Value → Prop} {k : rx_K σ} {pc t : Nat} {nx : rx_P} {w : σ} {lv : rx_L} {r : List Value} {i : Fin 4} {x : Int64} : rx_ins P E nL Q k pc (.lstore_n i) t nx w lv (.long x :: r) = (i.val + 1 < nL ∧ k (pc + 1) nx w ((i.val, .long x) :: rx_f2 i.val lv) (r)) := rfl
theorem rx_lstore {σ : Type} {P : rx_P} {E : rx_E σ} {nL : Nat} {Q : σ → Option Value → Prop} {k : rx_K σ} {pc t : Nat} {nx : rx_P} {w : σ} {lv : rx_L} {r : List Value} {i : Nat} {x : Int64} : rx_ins P E nL Q k pc (.lstore i) t nx w lv (.long x :: r) = (i + 1 < nL ∧ k (pc + 2) nx w ((i, .long x) :: rx_f2 i lv) (r)) := rfl
theorem rx_astore_n {σ : Type} {P : rx_P} {E : rx_E σ} {nL : Nat} {Q : σ → Option Value → Prop} {k : rx_K σ} {pc t : Nat} {nx : rx_P} {w : σ} {lv : rx_L} {r : List Value} {i : Fin 4} {x : Nat} : rx_ins P E nL Q k pc (.astore_n i) t nx w lv (.ref x :: r) = (i.val < nL ∧ k (pc + 1) nx w ((i.val, .ref x) :: rx_f1 i.val lv) (r)) := rfl
theorem rx_astore {σ : Type} {P : rx_P} {E : rx_E σ} {nL : Nat} {Q : σ → Option Value → Prop} {k : rx_K σ} {pc t : Nat} {nx : rx_P} {w : σ} {lv : rx_L} {r : List Value} {i : Nat} {x : Nat} : rx_ins P E nL Q k pc (.astore i) t nx w lv (.ref x :: r) = (i < nL ∧ k (pc + 2) nx w ((i, .ref x) :: rx_f1 i lv) (r)) := rfl
theorem rx_iinc {σ : Type} {P : rx_P} {E : rx_E σ} {nL : Nat} {Q : σ → Option Value → Prop} {k : rx_K σ} {pc t : Nat} {nx : rx_P} {w : σ} {lv : rx_L} {r : List Value} {i : Nat} {n : Int} : rx_ins P E nL Q k pc (.iinc i n) t nx w lv r = (match rx_get i lv with | some (.int x) => i < nL ∧ k (pc + 3) nx w ((i, .int (x + rx_c n)) :: rx_f1 i lv) r | _ => False) := rfl
theorem rx_iadd {σ : Type} {P : rx_P} {E : rx_E σ} {nL : Nat} {Q : σ → Option Value → Prop} {k : rx_K σ} {pc t : Nat} {nx : rx_P} {w : σ} {lv : rx_L} {r : List Value} {x y : Int32} : rx_ins P E nL Q k pc (.iadd) t nx w lv (.int y :: .int x :: r) = (k (pc + 1) nx w lv (.int (x + y) :: r)) := rfl
theorem rx_isub {σ : Type} {P : rx_P} {E : rx_E σ} {nL : Nat} {Q : σ → Option Value → Prop} {k : rx_K σ} {pc t : Nat} {nx : rx_P} {w : σ} {lv : rx_L} {r : List Value} {x y : Int32} : rx_ins P E nL Q k pc (.isub) t nx w lv (.int y :: .int x :: r) = (k (pc + 1) nx w lv (.int (x - y) :: r)) := rfl
theorem rx_imul {σ : Type} {P : rx_P} {E : rx_E σ} {nL : Nat} {Q : σ → Option Value → Prop} {k : rx_K σ} {pc t : Nat} {nx : rx_P} {w : σ} {lv : rx_L} {r : List Value} {x y : Int32} : rx_ins P E nL Q k pc (.imul) t nx w lv (.int y :: .int x :: r) = (k (pc + 1) nx w lv (.int (x * y) :: r)) := rfl
theorem rx_iand {σ : Type} {P : rx_P} {E : rx_E σ} {nL : Nat} {Q : σ → Option Value → Prop} {k : rx_K σ} {pc t : Nat} {nx : rx_P} {w : σ} {lv : rx_L} {r : List Value} {x y : Int32} : rx_ins P E nL Q k pc (.iand) t nx w lv (.int y :: .int x :: r) = (k (pc + 1) nx w lv (.int (x &&& y) :: r)) := rfl
theorem rx_ixor {σ : Type} {P : rx_P} {E : rx_E σ} {nL : Nat} {Q : σ → Option Value → Prop} {k : rx_K σ} {pc t : Nat} {nx : rx_P} {w : σ} {lv : rx_L} {r : List Value} {x y : Int32} : rx_ins P E nL Q k pc (.ixor) t nx w lv (.int y :: .int x :: r) = (k (pc + 1) nx w lv (.int (x ^^^ y) :: r)) := rfl
theorem rx_ishr {σ : Type} {P : rx_P} {E : rx_E σ} {nL : Nat} {Q : σ → Option Value → Prop} {k : rx_K σ} {pc t : Nat} {nx : rx_P} {w : σ} {lv : rx_L} {r : List Value} {x y : Int32} : rx_ins P E nL Q k pc (.ishr) t nx w lv (.int y :: .int x :: r) = (k (pc + 1) nx w lv (.int (x >>> (y &&& 31)) :: r)) := rfl
theorem rx_idiv {σ : Type} {P : rx_P} {E : rx_E σ} {nL : Nat} {Q : σ → Option Value → Prop} {k : rx_K σ} {pc t : Nat} {nx : rx_P} {w : σ} {lv : rx_L} {r : List Value} {x y : Int32} : rx_ins P E nL Q k pc (.idiv) t nx w lv (.int y :: .int x :: r) = (¬ y = 0 ∧ k (pc + 1) nx w lv (.int (x / y) :: r)) := rfl
theorem rx_irem {σ : Type} {P : rx_P} {E : rx_E σ} {nL : Nat} {Q : σ → Option Value → Prop} {k : rx_K σ} {pc t : Nat} {nx : rx_P} {w : σ} {lv : rx_L} {r : List Value} {x y : Int32} : rx_ins P E nL Q k pc (.irem) t nx w lv (.int y :: .int x :: r) = (¬ y = 0 ∧ k (pc + 1) nx w lv (.int (x - x / y * y) :: r)) := rfl
theorem rx_ladd {σ : Type} {P : rx_P} {E : rx_E σ} {nL : Nat} {Q : σ → Option Value → Prop} {k : rx_K σ} {pc t : Nat} {nx : rx_P} {w : σ} {lv : rx_L} {r : List Value} {x y : Int64} : rx_ins P E nL Q k pc (.ladd) t nx w lv (.long y :: .long x :: r) = (k (pc + 1) nx w lv (.long (x + y) :: r)) := rfl
theorem rx_lsub {σ : Type} {P : rx_P} {E : rx_E σ} {nL : Nat} {Q : σ → Option Value → Prop} {k : rx_K σ} {pc t : Nat} {nx : rx_P} {w : σ} {lv : rx_L} {r : List Value} {x y : Int64} : rx_ins P E nL Q k pc (.lsub) t nx w lv (.long y :: .long x :: r) = (k (pc + 1) nx w lv (.long (x - y) :: r)) := rfl
theorem rx_land {σ : Type} {P : rx_P} {E : rx_E σ} {nL : Nat} {Q : σ → Option Value → Prop} {k : rx_K σ} {pc t : Nat} {nx : rx_P} {w : σ} {lv : rx_L} {r : List Value} {x y : Int64} : rx_ins P E nL Q k pc (.land) t nx w lv (.long y :: .long x :: r) = (k (pc + 1) nx w lv (.long (x &&& y) :: r)) := rfl
theorem rx_lor {σ : Type} {P : rx_P} {E : rx_E σ} {nL : Nat} {Q : σ → Option Value → Prop} {k : rx_K σ} {pc t : Nat} {nx : rx_P} {w : σ} {lv : rx_L} {r : List Value} {x y : Int64} : rx_ins P E nL Q k pc (.lor) t nx w lv (.long y :: .long x :: r) = (k (pc + 1) nx w lv (.long (x ||| y) :: r)) := rfl
theorem rx_lxor {σ : Type} {P : rx_P} {E : rx_E σ} {nL : Nat} {Q : σ → Option Value → Prop} {k : rx_K σ} {pc t : Nat} {nx : rx_P} {w : σ} {lv : rx_L} {r : List Value} {x y : Int64} : rx_ins P E nL Q k pc (.lxor) t nx w lv (.long y :: .long x :: r) = (k (pc + 1) nx w lv (.long (x ^^^ y) :: r)) := rfl
theorem rx_lmul {σ : Type} {P : rx_P} {E : rx_E σ} {nL : Nat} {Q : σ → Option Value → Prop} {k : rx_K σ} {pc t : Nat} {nx : rx_P} {w : σ} {lv : rx_L} {r : List Value} {x y : Int64} : rx_ins P E nL Q k pc (.lmul) t nx w lv (.long y :: .long x :: r) = (k (pc + 1) nx w lv (.long (x * y) :: r)) := rfl
theorem rx_ldiv {σ : Type} {P : rx_P} {E : rx_E σ} {nL : Nat} {Q : σ → Option Value → Prop} {k : rx_K σ} {pc t : Nat} {nx : rx_P} {w : σ} {lv : rx_L} {r : List Value} {x y : Int64} : rx_ins P E nL Q k pc (.ldiv) t nx w lv (.long y :: .long x :: r) = (¬ y = 0 ∧ k (pc + 1) nx w lv (.long (x / y) :: r)) := rfl
theorem rx_lrem {σ : Type} {P : rx_P} {E : rx_E σ} {nL : Nat} {Q : σ → Option Value → Prop} {k : rx_K σ} {pc t : Nat} {nx : rx_P} {w : σ} {lv : rx_L} {r : List Value} {x y : Int64} : rx_ins P E nL Q k pc (.lrem) t nx w lv (.long y :: .long x :: r) = (¬ y = 0 ∧ k (pc + 1) nx w lv (.long (x - x / y * y) :: r)) := rfl
theorem rx_lushr {σ : Type} {P : rx_P} {E : rx_E σ} {nL : Nat} {Q : σ → Option Value → Prop} {k : rx_K σ} {pc t : Nat} {nx : rx_P} {w : σ} {lv : rx_L} {r : List Value} {y : Int32} {x : Int64} : rx_ins P E nL Q k pc (.lushr) t nx w lv (.int y :: .long x :: r) = (k (pc + 1) nx w lv (.long ((x.toUInt64 >>> (y.toInt64.toUInt64 &&& Int64.toUInt64 63)).toInt64) :: r)) := rfl
theorem rx_lshl {σ : Type} {P : rx_P} {E : rx_E σ} {nL : Nat} {Q : σ → Option Value → Prop} {k : rx_K σ} {pc t : Nat} {nx : rx_P} {w : σ} {lv : rx_L} {r : List Value} {y : Int32} {x : Int64} : rx_ins P E nL Q k pc (.lshl) t nx w lv (.int y :: .long x :: r) = (k (pc + 1) nx w lv (.long (x <<< (y.toInt64 &&& 63)) :: r)) := rfl
theorem rx_lshr {σ : Type} {P : rx_P} {E : rx_E σ} {nL : Nat} {Q : σ → Option Value → Prop} {k : rx_K σ} {pc t : Nat} {nx : rx_P} {w : σ} {lv : rx_L} {r : List Value} {y : Int32} {x : Int64} : rx_ins P E nL Q k pc (.lshr) t nx w lv (.int y :: .long x :: r) = (k (pc + 1) nx w lv (.long (x >>> (y.toInt64 &&& 63)) :: r)) := rfl
theorem rx_lneg {σ : Type} {P : rx_P} {E : rx_E σ} {nL : Nat} {Q : σ → Option Value → Prop} {k : rx_K σ} {pc t : Nat} {nx : rx_P} {w : σ} {lv : rx_L} {r : List Value} {x : Int64} : rx_ins P E nL Q k pc (.lneg) t nx w lv (.long x :: r) = (k (pc + 1) nx w lv (.long (-x) :: r)) := rfl
theorem rx_i2l {σ : Type} {P : rx_P} {E : rx_E σ} {nL : Nat} {Q : σ → Option Value → Prop} {k : rx_K σ} {pc t : Nat} {nx : rx_P} {w : σ} {lv : rx_L} {r : List Value} {x : Int32} : rx_ins P E nL Q k pc (.i2l) t nx w lv (.int x :: r) = (k (pc + 1) nx w lv (.long (x.toInt64) :: r)) := rfl
theorem rx_l2i {σ : Type} {P : rx_P} {E : rx_E σ} {nL : Nat} {Q : σ → Option Value → Prop} {k : rx_K σ} {pc t : Nat} {nx : rx_P} {w : σ} {lv : rx_L} {r : List Value} {x : Int64} : rx_ins P E nL Q k pc (.l2i) t nx w lv (.long x :: r) = (k (pc + 1) nx w lv (.int (x.toInt32) :: r)) := rfl
theorem rx_i2b {σ : Type} {P : rx_P} {E : rx_E σ} {nL : Nat} {Q : σ → Option Value → Prop} {k : rx_K σ} {pc t : Nat} {nx : rx_P} {w : σ} {lv : rx_L} {r : List Value} {x : Int32} : rx_ins P E nL Q k pc (.i2b) t nx w lv (.int x :: r) = (k (pc + 1) nx w lv (.int (x.toInt8.toInt32) :: r)) := rfl
theorem rx_lcmp {σ : Type} {P : rx_P} {E : rx_E σ} {nL : Nat} {Q : σ → Option Value → Prop} {k : rx_K σ} {pc t : Nat} {nx : rx_P} {w : σ} {lv : rx_L} {r : List Value} {x y : Int64} : rx_ins P E nL Q k pc (.lcmp) t nx w lv (.long y :: .long x :: r) = (k (pc + 1) nx w lv (.int (lg_cmp x y) :: r)) := rfl
theorem rx_dup_i {σ : Type} {P : rx_P} {E : rx_E σ} {nL : Nat} {Q : σ → Option Value → Prop} {k : rx_K σ} {pc t : Nat} {nx : rx_P} {w : σ} {lv : rx_L} {r : List Value} {x : Int32} : rx_ins P E nL Q k pc (.dup) t nx w lv (.int x :: r) = (k (pc + 1) nx w lv (.int x :: .int x :: r)) := rfl
theorem rx_dup_a {σ : Type} {P : rx_P} {E : rx_E σ} {nL : Nat} {Q : σ → Option Value → Prop} {k : rx_K σ} {pc t : Nat} {nx : rx_P} {w : σ} {lv : rx_L} {r : List Value} {x : Nat} : rx_ins P E nL Q k pc (.dup) t nx w lv (.ref x :: r) = (k (pc + 1) nx w lv (.ref x :: .ref x :: r)) := rfl
theorem rx_pop_i {σ : Type} {P : rx_P} {E : rx_E σ} {nL : Nat} {Q : σ → Option Value → Prop} {k : rx_K σ} {pc t : Nat} {nx : rx_P} {w : σ} {lv : rx_L} {r : List Value} {x : Int32} : rx_ins P E nL Q k pc (.pop) t nx w lv (.int x :: r) = (k (pc + 1) nx w lv (r)) := rfl
theorem rx_pop_a {σ : Type} {P : rx_P} {E : rx_E σ} {nL : Nat} {Q : σ → Option Value → Prop} {k : rx_K σ} {pc t : Nat} {nx : rx_P} {w : σ} {lv : rx_L} {r : List Value} {x : Nat} : rx_ins P E nL Q k pc (.pop) t nx w lv (.ref x :: r) = (k (pc + 1) nx w lv (r)) := rfl
theorem rx_if_eq {σ : Type} {P : rx_P} {E : rx_E σ} {nL : Nat} {Q : σ → Option Value → Prop} {k : rx_K σ} {pc t : Nat} {nx : rx_P} {w : σ} {lv : rx_L} {r : List Value} {o : Int} {x : Int32} : rx_ins P E nL Q k pc (.ifCond .eq o) t nx w lv (.int x :: r) = ((x = 0 → k t (rx_to t P) w lv r) ∧ (¬ x = 0 → k (pc + 3) nx w lv (r))) := rfl
theorem rx_if_ne {σ : Type} {P : rx_P} {E : rx_E σ} {nL : Nat} {Q : σ → Option Value → Prop} {k : rx_K σ} {pc t : Nat} {nx : rx_P} {w : σ} {lv : rx_L} {r : List Value} {o : Int} {x : Int32} : rx_ins P E nL Q k pc (.ifCond .ne o) t nx w lv (.int x :: r) = ((¬ x = 0 → k t (rx_to t P) w lv r) ∧ (x = 0 → k (pc + 3) nx w lv (r))) := rfl
theorem rx_if_lt {σ : Type} {P : rx_P} {E : rx_E σ} {nL : Nat} {Q : σ → Option Value → Prop} {k : rx_K σ} {pc t : Nat} {nx : rx_P} {w : σ} {lv : rx_L} {r : List Value} {o : Int} {x : Int32} : rx_ins P E nL Q k pc (.ifCond .lt o) t nx w lv (.int x :: r) = ((x < 0 → k t (rx_to t P) w lv r) ∧ (¬ x < 0 → k (pc + 3) nx w lv (r))) := rfl
theorem rx_if_ge {σ : Type} {P : rx_P} {E : rx_E σ} {nL : Nat} {Q : σ → Option Value → Prop} {k : rx_K σ} {pc t : Nat} {nx : rx_P} {w : σ} {lv : rx_L} {r : List Value} {o : Int} {x : Int32} : rx_ins P E nL Q k pc (.ifCond .ge o) t nx w lv (.int x :: r) = ((0 ≤ x → k t (rx_to t P) w lv r) ∧ (¬ 0 ≤ x → k (pc + 3) nx w lv (r))) := rfl
theorem rx_if_gt {σ : Type} {P : rx_P} {E : rx_E σ} {nL : Nat} {Q : σ → Option Value → Prop} {k : rx_K σ} {pc t : Nat} {nx : rx_P} {w : σ} {lv : rx_L} {r : List Value} {o : Int} {x : Int32} : rx_ins P E nL Q k pc (.ifCond .gt o) t nx w lv (.int x :: r) = ((0 < x → k t (rx_to t P) w lv r) ∧ (¬ 0 < x → k (pc + 3) nx w lv (r))) := rfl
theorem rx_if_le {σ : Type} {P : rx_P} {E : rx_E σ} {nL : Nat} {Q : σ → Option Value → Prop} {k : rx_K σ} {pc t : Nat} {nx : rx_P} {w : σ} {lv : rx_L} {r : List Value} {o : Int} {x : Int32} : rx_ins P E nL Q k pc (.ifCond .le o) t nx w lv (.int x :: r) = ((x ≤ 0 → k t (rx_to t P) w lv r) ∧ (¬ x ≤ 0 → k (pc + 3) nx w lv (r))) := rfl
theorem rx_icmp_eq {σ : Type} {P : rx_P} {E : rx_E σ} {nL : Nat} {Q : σ → Option Value → Prop} {k : rx_K σ} {pc t : Nat} {nx : rx_P} {w : σ} {lv : rx_L} {r : List Value} {o : Int} {x y : Int32} : rx_ins P E nL Q k pc (.if_icmp .eq o) t nx w lv (.int y :: .int x :: r) = ((x = y → k t (rx_to t P) w lv r) ∧ (¬ x = y → k (pc + 3) nx w lv (r))) := rfl
theorem rx_icmp_ne {σ : Type} {P : rx_P} {E : rx_E σ} {nL : Nat} {Q : σ → Option Value → Prop} {k : rx_K σ} {pc t : Nat} {nx : rx_P} {w : σ} {lv : rx_L} {r : List Value} {o : Int} {x y : Int32} : rx_ins P E nL Q k pc (.if_icmp .ne o) t nx w lv (.int y :: .int x :: r) = ((¬ x = y → k t (rx_to t P) w lv r) ∧ (x = y → k (pc + 3) nx w lv (r))) := rfl
theorem rx_icmp_lt {σ : Type} {P : rx_P} {E : rx_E σ} {nL : Nat} {Q : σ → Option Value → Prop} {k : rx_K σ} {pc t : Nat} {nx : rx_P} {w : σ} {lv : rx_L} {r : List Value} {o : Int} {x y : Int32} : rx_ins P E nL Q k pc (.if_icmp .lt o) t nx w lv (.int y :: .int x :: r) = ((x < y → k t (rx_to t P) w lv r) ∧ (¬ x < y → k (pc + 3) nx w lv (r))) := rfl
theorem rx_icmp_ge {σ : Type} {P : rx_P} {E : rx_E σ} {nL : Nat} {Q : σ → Option Value → Prop} {k : rx_K σ} {pc t : Nat} {nx : rx_P} {w : σ} {lv : rx_L} {r : List Value} {o : Int} {x y : Int32} : rx_ins P E nL Q k pc (.if_icmp .ge o) t nx w lv (.int y :: .int x :: r) = ((y ≤ x → k t (rx_to t P) w lv r) ∧ (¬ y ≤ x → k (pc + 3) nx w lv (r))) := rfl
theorem rx_icmp_gt {σ : Type} {P : rx_P} {E : rx_E σ} {nL : Nat} {Q : σ → Option Value → Prop} {k : rx_K σ} {pc t : Nat} {nx : rx_P} {w : σ} {lv : rx_L} {r : List Value} {o : Int} {x y : Int32} : rx_ins P E nL Q k pc (.if_icmp .gt o) t nx w lv (.int y :: .int x :: r) = ((y < x → k t (rx_to t P) w lv r) ∧ (¬ y < x → k (pc + 3) nx w lv (r))) := rfl
theorem rx_icmp_le {σ : Type} {P : rx_P} {E : rx_E σ} {nL : Nat} {Q : σ → Option Value → Prop} {k : rx_K σ} {pc t : Nat} {nx : rx_P} {w : σ} {lv : rx_L} {r : List Value} {o : Int} {x y : Int32} : rx_ins P E nL Q k pc (.if_icmp .le o) t nx w lv (.int y :: .int x :: r) = ((x ≤ y → k t (rx_to t P) w lv r) ∧ (¬ x ≤ y → k (pc + 3) nx w lv (r))) := rfl
theorem rx_goto {σ : Type} {P : rx_P} {E : rx_E σ} {nL : Nat} {Q : σ → Option Value → Prop} {k : rx_K σ} {pc t : Nat} {nx : rx_P} {w : σ} {lv : rx_L} {r : List Value} {o : Int} : rx_ins P E nL Q k pc (.goto o) t nx w lv (r) = (k t (rx_to t P) w lv r) := rfl
theorem rx_tsw {σ : Type} {P : rx_P} {E : rx_E σ} {nL : Nat} {Q : σ → Option Value → Prop} {k : rx_K σ} {pc t : Nat} {nx : rx_P} {w : σ} {lv : rx_L} {r : List Value} {d lo hi : Int} {offs : Array Int} {x : Int32} : rx_ins P E nL Q k pc (.tableswitch d lo hi offs) t nx w lv (.int x :: r) = (((x.toInt < lo ∨ hi < x.toInt) → 0 ≤ (pc : Int) + d ∧ k ((pc : Int) + d).toNat (rx_to ((pc : Int) + d).toNat P) w lv r) ∧ offs.toList.length = (hi - lo + 1).toNat ∧ rx_sw (fun u => k u (rx_to u P) w lv r) pc x.toInt lo offs.toList) := rfl
theorem rx_ireturn {σ : Type} {P : rx_P} {E : rx_E σ} {nL : Nat} {Q : σ → Option Value → Prop} {k : rx_K σ} {pc t : Nat} {nx : rx_P} {w : σ} {lv : rx_L} {x : Int32} : rx_ins P E nL Q k pc .ireturn t nx w lv [.int x] = Q w (some (.int x)) := rfl
theorem rx_lreturn {σ : Type} {P : rx_P} {E : rx_E σ} {nL : Nat} {Q : σ → Option Value → Prop} {k : rx_K σ} {pc t : Nat} {nx : rx_P} {w : σ} {lv : rx_L} {x : Int64} : rx_ins P E nL Q k pc .lreturn t nx w lv [.long x] = Q w (some (.long x)) := rfl
theorem rx_return_ {σ : Type} {P : rx_P} {E : rx_E σ} {nL : Nat} {Q : σ → Option Value → Prop} {k : rx_K σ} {pc t : Nat} {nx : rx_P} {w : σ} {lv : rx_L} : rx_ins P E nL Q k pc .return_ t nx w lv [] = Q w none := rfl
theorem rx_getfield {σ : Type} {P : rx_P} {E : rx_E σ} {nL : Nat} {Q : σ → Option Value → Prop} {k : rx_K σ} {pc t : Nat} {nx : rx_P} {w : σ} {lv : rx_L} {r : List Value} {j : Nat} : rx_ins P E nL Q k pc (.getfield j) t nx w lv r = rx_ext E k pc (.getfield j) nx w lv r := rfl
theorem rx_putfield {σ : Type} {P : rx_P} {E : rx_E σ} {nL : Nat} {Q : σ → Option Value → Prop} {k : rx_K σ} {pc t : Nat} {nx : rx_P} {w : σ} {lv : rx_L} {r : List Value} {j : Nat} : rx_ins P E nL Q k pc (.putfield j) t nx w lv r = rx_ext E k pc (.putfield j) nx w lv r := rfl
theorem rx_invokevirtual {σ : Type} {P : rx_P} {E : rx_E σ} {nL : Nat} {Q : σ → Option Value → Prop} {k : rx_K σ} {pc t : Nat} {nx : rx_P} {w : σ} {lv : rx_L} {r : List Value} {j : Nat} : rx_ins P E nL Q k pc (.invokevirtual j) t nx w lv r = rx_ext E k pc (.invokevirtual j) nx w lv r := rfl
theorem rx_invokespecial {σ : Type} {P : rx_P} {E : rx_E σ} {nL : Nat} {Q : σ → Option Value → Prop} {k : rx_K σ} {pc t : Nat} {nx : rx_P} {w : σ} {lv : rx_L} {r : List Value} {j : Nat} : rx_ins P E nL Q k pc (.invokespecial j) t nx w lv r = rx_ext E k pc (.invokespecial j) nx w lv r := rfl
theorem rx_invokestatic {σ : Type} {P : rx_P} {E : rx_E σ} {nL : Nat} {Q : σ → Option Value → Prop} {k : rx_K σ} {pc t : Nat} {nx : rx_P} {w : σ} {lv : rx_L} {r : List Value} {j : Nat} : rx_ins P E nL Q k pc (.invokestatic j) t nx w lv r = rx_ext E k pc (.invokestatic j) nx w lv r := rfl
theorem rx_ldc {σ : Type} {P : rx_P} {E : rx_E σ} {nL : Nat} {Q : σ → Option Value → Prop} {k : rx_K σ} {pc t : Nat} {nx : rx_P} {w : σ} {lv : rx_L} {r : List Value} {j : Nat} : rx_ins P E nL Q k pc (.ldc j) t nx w lv r = rx_ext E k pc (.ldc j) nx w lv r := rfl
theorem rx_ldc2_w {σ : Type} {P : rx_P} {E : rx_E σ} {nL : Nat} {Q : σ → Option Value → Prop} {k : rx_K σ} {pc t : Nat} {nx : rx_P} {w : σ} {lv : rx_L} {r : List Value} {j : Nat} : rx_ins P E nL Q k pc (.ldc2_w j) t nx w lv r = rx_ext E k pc (.ldc2_w j) nx w lv r := rfl
theorem rx_iaload {σ : Type} {P : rx_P} {E : rx_E σ} {nL : Nat} {Q : σ → Option Value → Prop} {k : rx_K σ} {pc t : Nat} {nx : rx_P} {w : σ} {lv : rx_L} {r : List Value} : rx_ins P E nL Q k pc .iaload t nx w lv r = rx_ext E k pc .iaload nx w lv r := rfl
theorem rx_iastore {σ : Type} {P : rx_P} {E : rx_E σ} {nL : Nat} {Q : σ → Option Value → Prop} {k : rx_K σ} {pc t : Nat} {nx : rx_P} {w : σ} {lv : rx_L} {r : List Value} : rx_ins P E nL Q k pc .iastore t nx w lv r = rx_ext E k pc .iastore nx w lv r := rfl
theorem rx_baload {σ : Type} {P : rx_P} {E : rx_E σ} {nL : Nat} {Q : σ → Option Value → Prop} {k : rx_K σ} {pc t : Nat} {nx : rx_P} {w : σ} {lv : rx_L} {r : List Value} : rx_ins P E nL Q k pc .baload t nx w lv r = rx_ext E k pc .baload nx w lv r := rfl
theorem rx_bastore {σ : Type} {P : rx_P} {E : rx_E σ} {nL : Nat} {Q : σ → Option Value → Prop} {k : rx_K σ} {pc t : Nat} {nx : rx_P} {w : σ} {lv : rx_L} {r : List Value} : rx_ins P E nL Q k pc .bastore t nx w lv r = rx_ext E k pc .bastore nx w lv r := rfl
theorem rx_laload {σ : Type} {P : rx_P} {E : rx_E σ} {nL : Nat} {Q : σ → Option Value → Prop} {k : rx_K σ} {pc t : Nat} {nx : rx_P} {w : σ} {lv : rx_L} {r : List Value} : rx_ins P E nL Q k pc .laload t nx w lv r = rx_ext E k pc .laload nx w lv r := rfl
theorem rx_lastore {σ : Type} {P : rx_P} {E : rx_E σ} {nL : Nat} {Q : σ → Option Value → Prop} {k : rx_K σ} {pc t : Nat} {nx : rx_P} {w : σ} {lv : rx_L} {r : List Value} : rx_ins P E nL Q k pc .lastore t nx w lv r = rx_ext E k pc .lastore nx w lv r := rfl
theorem rx_arraylength {σ : Type} {P : rx_P} {E : rx_E σ} {nL : Nat} {Q : σ → Option Value → Prop} {k : rx_K σ} {pc t : Nat} {nx : rx_P} {w : σ} {lv : rx_L} {r : List Value} : rx_ins P E nL Q k pc .arraylength t nx w lv r = rx_ext E k pc .arraylength nx w lv r := rfl
def rx_step {σ : Type} (P : rx_P) (E : rx_E σ) (nL : Nat) (Q : σ → Option Value → Prop) (k : rx_K σ) (pc : Nat) (cur : rx_P) (w : σ) (lv : rx_L) (st : List Value) : Prop := match cur with
  | [] => False
  | (pc0, i, t) :: nx => pc0 = pc ∧ rx_ins P E nL Q k pc i t nx w lv st
abbrev rx_X (σ : Type) : Type := Nat → Option (σ → rx_L → List Value → Prop)
def rx {σ : Type} (P : rx_P) (E : rx_E σ) (nL : Nat) (Q : σ → Option Value → Prop) (X : rx_X σ) : Nat → rx_K σ
  | 0 => fun _ _ _ _ _ => False
  | n + 1 => fun pc cur w lv st => match X pc with
    | some g => g w lv st
    | none => rx_step P E nL Q (rx P E nL Q X n) pc cur w lv st
theorem rx_s {σ : Type} {P : rx_P} {E : rx_E σ} {nL : Nat} {Q : σ → Option Value → Prop} {k : rx_K σ} {pc pc0 t : Nat} {i : Instr} {nx : rx_P} {w : σ} {lv : rx_L} {st : List Value} : rx_step P E nL Q k pc ((pc0, i, t) :: nx) w lv st = (pc0 = pc ∧ rx_ins P E nL Q k pc i t nx w lv st) := rfl
theorem rx_n {σ : Type} {P : rx_P} {E : rx_E σ} {nL : Nat} {Q : σ → Option Value → Prop} {X : rx_X σ} {n pc : Nat} {cur : rx_P} {w : σ} {lv : rx_L} {st : List Value} : rx P E nL Q X (n + 1) pc cur w lv st = (match X pc with | some g => g w lv st | none => rx_step P E nL Q (rx P E nL Q X n) pc cur w lv st) := rfl
theorem rx_sw_at {go : Nat → Prop} {pc : Nat} {x : Int} : ∀ (os : List Int) (lo : Int) {j : Nat}, x = lo + j → j < os.length → rx_sw go pc x lo os → ∃ o, os[j]? = some o ∧ 0 ≤ (pc : Int) + o ∧ go ((pc : Int) + o).toNat
  | [], _, _, _, h, _ => absurd h (by simp)
  | o :: r, lo, 0, e, _, h => ⟨o, rfl, h.1 (by omega)⟩
  | o :: r, lo, j + 1, e, hj, h => by
    obtain ⟨o', e', g⟩ := rx_sw_at r (lo + 1) (j := j) (by omega) (by simpa using hj) h.2
    exact ⟨o', by simpa using e', g⟩
def rx_ret : Instr → List Value → Option (Option Value)
  | .ireturn, [.int v] => some (some (.int v))
  | .lreturn, [.long v] => some (some (.long v))
  | .return_, [] => some none
  | _, _ => none
section RXS
variable {σ : Type}
/-- the oracle's word, as the rows of the kit keep it: V is the walk's judgement -/
def rx_Eok (V : Heap → List Loc → JFrame → Prop) (m : MethodId) (cc : ByteArray) (nL : Nat) (I : σ → Heap → List Loc → Prop) (E : rx_E σ) : Prop :=
  ∀ (w : σ) (H : Heap) (locs : List Loc) (pc : Nat) (ls : Array Slot) (i : Instr) (st : List Value) (q : rx_R σ), I w H locs → ls.size = nL → E w i st = some q → decode cc pc = .ok (i, rx_len i) →
    match q with
    | .inl (g, w1, st1) => g → (∀ H1 locs1, I w1 H1 locs1 → V H1 locs1 (F0 m (pc + rx_len i) ls st1)) → V H locs (F0 m pc ls st)
    | .inr (g, x, w1, st1) => (g → ∀ H1 locs1, I w1 H1 locs1 → V H1 locs1 (F0 m (pc + rx_len i) ls st1)) → (¬ g → x) → V H locs (F0 m pc ls st)
variable {p : Program} {l : Launch} {e : Env} {R : Room} {s : State} {m : MethodId} {args : Array Value} {below : List Frame} {meth : Method} {c : Code} {cells slots : Nat} {Qw : State → Prop} {cc : ByteArray} {nL : Nat} {I : σ → Heap → List Loc → Prop} {E : rx_E σ} {P : rx_P} {Q : σ → Option Value → Prop}
theorem rx_ext_sound {k : rx_K σ} {pc t : Nat} {i : Instr} {nx : rx_P} {w : σ} {lv : rx_L} {st : List Value} {ls : Array Slot} {H : Heap} {locs : List Loc}
    (hE : rx_Eok (fun H locs g => W p l e R s m args below meth c H locs cells slots Qw g) m cc nL I E) (h0 : rx_len i ≠ 0)
    (hk : ∀ (pc : Nat) (cur : rx_P), (∀ q ∈ cur, rx_ok cc q) → ∀ (w : σ) (lv : rx_L) (st : List Value) (ls : Array Slot) (H : Heap) (locs : List Loc), lv_has ls nL lv → I w H locs → k pc cur w lv st → W p l e R s m args below meth c H locs cells slots Qw (F0 m pc ls st))
    (hd : rx_ok cc (pc, i, t)) (hnx : ∀ q ∈ nx, rx_ok cc q) (hl : lv_has ls nL lv) (hI : I w H locs) (h : rx_ext E k pc i nx w lv st) : W p l e R s m args below meth c H locs cells slots Qw (F0 m pc ls st) := by
  have hd1 := rx_dec hd rfl h0
  unfold rx_ext at h
  cases e1 : E w i st with
  | none => rw [e1] at h; exact False.elim h
  | some q =>
    rw [e1] at h
    have h2 := hE w H locs pc ls i st q hI hl.1 e1 hd1
    rcases q with ⟨g, w1, st1⟩ | ⟨g, x, w1, st1⟩
    · exact h2 h.1 (fun H1 locs1 hI1 => hk _ _ hnx _ _ _ _ _ _ hl hI1 h.2)
    · exact h2 (fun q H1 locs1 hI1 => hk _ _ hnx _ _ _ _ _ _ hl hI1 (h.1 q)) h.2
set_option maxHeartbeats 4000000 in
theorem rx_ins_sound (hx : p.tables.exec = Jvm.exec) (hb : c.code = cc) {k : rx_K σ} {pc t : Nat} {i : Instr} {nx : rx_P} {w : σ} {lv : rx_L} {st : List Value} {ls : Array Slot} {H : Heap} {locs : List Loc}
    (hP : ∀ q ∈ P, rx_ok cc q)
    (hE : rx_Eok (fun H locs g => W p l e R s m args below meth c H locs cells slots Qw g) m cc nL I E)
    (hR : ∀ (w : σ) (H : Heap) (locs : List Loc) (pc : Nat) (ls : Array Slot) (i : Instr) (st : List Value) (v : Option Value), I w H locs → rx_ret i st = some v → decode cc pc = .ok (i, 1) → Q w v → W p l e R s m args below meth c H locs cells slots Qw (F0 m pc ls st))
    (hk : ∀ (pc : Nat) (cur : rx_P), (∀ q ∈ cur, rx_ok cc q) → ∀ (w : σ) (lv : rx_L) (st : List Value) (ls : Array Slot) (H : Heap) (locs : List Loc), lv_has ls nL lv → I w H locs → k pc cur w lv st → W p l e R s m args below meth c H locs cells slots Qw (F0 m pc ls st))
    (hd : rx_ok cc (pc, i, t)) (hnx : ∀ q ∈ nx, rx_ok cc q) (hl : lv_has ls nL lv) (hI : I w H locs) (h : rx_ins P E nL Q k pc i t nx w lv st) : W p l e R s m args below meth c H locs cells slots Qw (F0 m pc ls st) := by
  have hto : ∀ q ∈ rx_to t P, rx_ok cc q := fun q hq => hP q (rx_to_sub q hq)
  cases i with
  | iconst n =>
    exact lv_iconst hx hb (rx_dec hd rfl (by decide)) (rx_c_eq n) (hk _ _ hnx _ _ _ _ _ _ hl hI h)
  | bipush n =>
    exact lv_bipush hx hb (rx_dec hd rfl (by decide)) (rx_c8 h.1.1 h.1.2) (hk _ _ hnx _ _ _ _ _ _ hl hI h.2)
  | sipush n =>
    exact lv_sipush hx hb (rx_dec hd rfl (by decide)) (rx_c16 h.1.1 h.1.2) (hk _ _ hnx _ _ _ _ _ _ hl hI h.2)
  | lconst n =>
    exact lv_lconst hx hb (rx_dec hd rfl (by decide)) rfl (hk _ _ hnx _ _ _ _ _ _ hl hI h)
  | iload_n i =>
    have h : (match rx_get i.val lv with | some (.int x) => k (pc + 1) nx w lv (.int x :: st) | _ => False) := h
    cases e : rx_get i.val lv with
    | none => rw [e] at h; exact False.elim h
    | some v =>
      rw [e] at h
      cases v <;> try exact False.elim h
      exact lv_iload_n hx hb (rx_dec hd rfl (by decide)) rfl (rx_get_has hl e) (hk _ _ hnx _ _ _ _ _ _ hl hI h)
  | iload i =>
    have h : (match rx_get i lv with | some (.int x) => k (pc + 2) nx w lv (.int x :: st) | _ => False) := h
    cases e : rx_get i lv with
    | none => rw [e] at h; exact False.elim h
    | some v =>
      rw [e] at h
      cases v <;> try exact False.elim h
      exact lv_iload hx hb (rx_dec hd rfl (by decide)) (rx_get_has hl e) (hk _ _ hnx _ _ _ _ _ _ hl hI h)
  | lload_n i =>
    have h : (match rx_get i.val lv with | some (.long x) => k (pc + 1) nx w lv (.long x :: st) | _ => False) := h
    cases e : rx_get i.val lv with
    | none => rw [e] at h; exact False.elim h
    | some v =>
      rw [e] at h
      cases v <;> try exact False.elim h
      exact lv_lload_n hx hb (rx_dec hd rfl (by decide)) rfl (rx_get_has hl e) (hk _ _ hnx _ _ _ _ _ _ hl hI h)
  | lload i =>
    have h : (match rx_get i lv with | some (.long x) => k (pc + 2) nx w lv (.long x :: st) | _ => False) := h
    cases e : rx_get i lv with
    | none => rw [e] at h; exact False.elim h
    | some v =>
      rw [e] at h
      cases v <;> try exact False.elim h
      exact lv_lload hx hb (rx_dec hd rfl (by decide)) (rx_get_has hl e) (hk _ _ hnx _ _ _ _ _ _ hl hI h)
  | aload_n i =>
    have h : (match rx_get i.val lv with | some (.ref x) => k (pc + 1) nx w lv (.ref x :: st) | _ => False) := h
    cases e : rx_get i.val lv with
    | none => rw [e] at h; exact False.elim h
    | some v =>
      rw [e] at h
      cases v <;> try exact False.elim h
      exact lv_aload_n hx hb (rx_dec hd rfl (by decide)) rfl (rx_get_has hl e) (hk _ _ hnx _ _ _ _ _ _ hl hI h)
  | aload i =>
    have h : (match rx_get i lv with | some (.ref x) => k (pc + 2) nx w lv (.ref x :: st) | _ => False) := h
    cases e : rx_get i lv with
    | none => rw [e] at h; exact False.elim h
    | some v =>
      rw [e] at h
      cases v <;> try exact False.elim h
      exact lv_aload hx hb (rx_dec hd rfl (by decide)) (rx_get_has hl e) (hk _ _ hnx _ _ _ _ _ _ hl hI h)
  | istore_n i =>
    rcases st with _ | ⟨a, r⟩ <;> try exact False.elim h
    cases a <;> try exact False.elim h
    rename_i x
    exact lv_istore_n hx hb (rx_dec hd rfl (by decide)) rfl hl h.1 (by rw [rx_f1_eq]) (fun ls' hl' => hk _ _ hnx _ _ _ _ _ _ hl' hI h.2)
  | istore i =>
    rcases st with _ | ⟨a, r⟩ <;> try exact False.elim h
    cases a <;> try exact False.elim h
    rename_i x
    exact lv_istore hx hb (rx_dec hd rfl (by decide)) hl h.1 (by rw [rx_f1_eq]) (fun ls' hl' => hk _ _ hnx _ _ _ _ _ _ hl' hI h.2)
  | lstore_n i =>
    rcases st with _ | ⟨a, r⟩ <;> try exact False.elim h
    cases a <;> try exact False.elim h
    rename_i x
    exact lv_lstore_n hx hb (rx_dec hd rfl (by decide)) rfl hl h.1 (by rw [rx_f2_eq]) (fun ls' hl' => hk _ _ hnx _ _ _ _ _ _ hl' hI h.2)
  | lstore i =>
    rcases st with _ | ⟨a, r⟩ <;> try exact False.elim h
    cases a <;> try exact False.elim h
    rename_i x
    exact lv_lstore hx hb (rx_dec hd rfl (by decide)) hl h.1 (by rw [rx_f2_eq]) (fun ls' hl' => hk _ _ hnx _ _ _ _ _ _ hl' hI h.2)
  | astore_n i =>
    rcases st with _ | ⟨a, r⟩ <;> try exact False.elim h
    cases a <;> try exact False.elim h
    rename_i x
    exact lv_astore_n hx hb (rx_dec hd rfl (by decide)) rfl hl h.1 (by rw [rx_f1_eq]) (fun ls' hl' => hk _ _ hnx _ _ _ _ _ _ hl' hI h.2)
  | astore i =>
    rcases st with _ | ⟨a, r⟩ <;> try exact False.elim h
    cases a <;> try exact False.elim h
    rename_i x
    exact lv_astore hx hb (rx_dec hd rfl (by decide)) hl h.1 (by rw [rx_f1_eq]) (fun ls' hl' => hk _ _ hnx _ _ _ _ _ _ hl' hI h.2)
  | iinc i n =>
    have h : (match rx_get i lv with | some (.int x) => i < nL ∧ k (pc + 3) nx w ((i, .int (x + rx_c n)) :: rx_f1 i lv) st | _ => False) := h
    cases e : rx_get i lv with
    | none => rw [e] at h; exact False.elim h
    | some v =>
      rw [e] at h
      cases v <;> try exact False.elim h
      rename_i x
      exact lv_iinc (k := 0) (lv := (i, .int x) :: lv) hx hb (rx_dec hd rfl (by decide)) ⟨hl.1, hl.2.1, fun q hq => (List.mem_cons.mp hq).elim (fun e1 => by rw [e1]; exact rx_get_has hl e) (fun h1 => hl.2.2 q h1)⟩ rfl (by rw [rx_c_eq]) h.1 (by rw [rx_f1_eq]; simp [rx_f1]) (fun ls' hl' => hk _ _ hnx _ _ _ _ _ _ hl' hI h.2)
  | iadd =>
    rcases st with _ | ⟨a, _ | ⟨b, r⟩⟩
    · exact False.elim h
    · cases a <;> exact False.elim h
    cases a <;> try exact False.elim h
    cases b <;> try exact False.elim h
    rename_i y x
    exact lv_iadd hx hb (rx_dec hd rfl (by decide)) (hk _ _ hnx _ _ _ _ _ _ hl hI h)
  | isub =>
    rcases st with _ | ⟨a, _ | ⟨b, r⟩⟩
    · exact False.elim h
    · cases a <;> exact False.elim h
    cases a <;> try exact False.elim h
    cases b <;> try exact False.elim h
    rename_i y x
    exact lv_isub hx hb (rx_dec hd rfl (by decide)) (hk _ _ hnx _ _ _ _ _ _ hl hI h)
  | imul =>
    rcases st with _ | ⟨a, _ | ⟨b, r⟩⟩
    · exact False.elim h
    · cases a <;> exact False.elim h
    cases a <;> try exact False.elim h
    cases b <;> try exact False.elim h
    rename_i y x
    exact lv_imul hx hb (rx_dec hd rfl (by decide)) (hk _ _ hnx _ _ _ _ _ _ hl hI h)
  | iand =>
    rcases st with _ | ⟨a, _ | ⟨b, r⟩⟩
    · exact False.elim h
    · cases a <;> exact False.elim h
    cases a <;> try exact False.elim h
    cases b <;> try exact False.elim h
    rename_i y x
    exact lv_iand hx hb (rx_dec hd rfl (by decide)) (hk _ _ hnx _ _ _ _ _ _ hl hI h)
  | ixor =>
    rcases st with _ | ⟨a, _ | ⟨b, r⟩⟩
    · exact False.elim h
    · cases a <;> exact False.elim h
    cases a <;> try exact False.elim h
    cases b <;> try exact False.elim h
    rename_i y x
    exact lv_ixor hx hb (rx_dec hd rfl (by decide)) (hk _ _ hnx _ _ _ _ _ _ hl hI h)
  | ishr =>
    rcases st with _ | ⟨a, _ | ⟨b, r⟩⟩
    · exact False.elim h
    · cases a <;> exact False.elim h
    cases a <;> try exact False.elim h
    cases b <;> try exact False.elim h
    rename_i y x
    exact lv_ishr hx hb (rx_dec hd rfl (by decide)) (hk _ _ hnx _ _ _ _ _ _ hl hI h)
  | idiv =>
    rcases st with _ | ⟨a, _ | ⟨b, r⟩⟩
    · exact False.elim h
    · cases a <;> exact False.elim h
    cases a <;> try exact False.elim h
    cases b <;> try exact False.elim h
    rename_i y x
    exact lv_idiv hx hb (rx_dec hd rfl (by decide)) h.1 (hk _ _ hnx _ _ _ _ _ _ hl hI h.2)
  | irem =>
    rcases st with _ | ⟨a, _ | ⟨b, r⟩⟩
    · exact False.elim h
    · cases a <;> exact False.elim h
    cases a <;> try exact False.elim h
    cases b <;> try exact False.elim h
    rename_i y x
    exact lv_irem hx hb (rx_dec hd rfl (by decide)) h.1 (hk _ _ hnx _ _ _ _ _ _ hl hI h.2)
  | ladd =>
    rcases st with _ | ⟨a, _ | ⟨b, r⟩⟩
    · exact False.elim h
    · cases a <;> exact False.elim h
    cases a <;> try exact False.elim h
    cases b <;> try exact False.elim h
    rename_i y x
    exact lv_ladd hx hb (rx_dec hd rfl (by decide)) (hk _ _ hnx _ _ _ _ _ _ hl hI h)
  | lsub =>
    rcases st with _ | ⟨a, _ | ⟨b, r⟩⟩
    · exact False.elim h
    · cases a <;> exact False.elim h
    cases a <;> try exact False.elim h
    cases b <;> try exact False.elim h
    rename_i y x
    exact lv_lsub hx hb (rx_dec hd rfl (by decide)) (hk _ _ hnx _ _ _ _ _ _ hl hI h)
  | land =>
    rcases st with _ | ⟨a, _ | ⟨b, r⟩⟩
    · exact False.elim h
    · cases a <;> exact False.elim h
    cases a <;> try exact False.elim h
    cases b <;> try exact False.elim h
    rename_i y x
    exact lv_land hx hb (rx_dec hd rfl (by decide)) (hk _ _ hnx _ _ _ _ _ _ hl hI h)
  | lor =>
    rcases st with _ | ⟨a, _ | ⟨b, r⟩⟩
    · exact False.elim h
    · cases a <;> exact False.elim h
    cases a <;> try exact False.elim h
    cases b <;> try exact False.elim h
    rename_i y x
    exact lv_lor hx hb (rx_dec hd rfl (by decide)) (hk _ _ hnx _ _ _ _ _ _ hl hI h)
  | lxor =>
    rcases st with _ | ⟨a, _ | ⟨b, r⟩⟩
    · exact False.elim h
    · cases a <;> exact False.elim h
    cases a <;> try exact False.elim h
    cases b <;> try exact False.elim h
    rename_i y x
    exact lv_lxor hx hb (rx_dec hd rfl (by decide)) (hk _ _ hnx _ _ _ _ _ _ hl hI h)
  | lmul =>
    rcases st with _ | ⟨a, _ | ⟨b, r⟩⟩
    · exact False.elim h
    · cases a <;> exact False.elim h
    cases a <;> try exact False.elim h
    cases b <;> try exact False.elim h
    rename_i y x
    exact lv_lmul hx hb (rx_dec hd rfl (by decide)) (hk _ _ hnx _ _ _ _ _ _ hl hI h)
  | ldiv =>
    rcases st with _ | ⟨a, _ | ⟨b, r⟩⟩
    · exact False.elim h
    · cases a <;> exact False.elim h
    cases a <;> try exact False.elim h
    cases b <;> try exact False.elim h
    rename_i y x
    exact lv_ldiv hx hb (rx_dec hd rfl (by decide)) h.1 (hk _ _ hnx _ _ _ _ _ _ hl hI h.2)
  | lrem =>
    rcases st with _ | ⟨a, _ | ⟨b, r⟩⟩
    · exact False.elim h
    · cases a <;> exact False.elim h
    cases a <;> try exact False.elim h
    cases b <;> try exact False.elim h
    rename_i y x
    exact lv_lrem hx hb (rx_dec hd rfl (by decide)) h.1 (hk _ _ hnx _ _ _ _ _ _ hl hI h.2)
  | lushr =>
    rcases st with _ | ⟨a, _ | ⟨b, r⟩⟩
    · exact False.elim h
    · cases a <;> exact False.elim h
    cases a <;> try exact False.elim h
    cases b <;> try exact False.elim h
    rename_i y x
    exact lv_lushr hx hb (rx_dec hd rfl (by decide)) rfl (hk _ _ hnx _ _ _ _ _ _ hl hI h)
  | lshl =>
    rcases st with _ | ⟨a, _ | ⟨b, r⟩⟩
    · exact False.elim h
    · cases a <;> exact False.elim h
    cases a <;> try exact False.elim h
    cases b <;> try exact False.elim h
    rename_i y x
    exact lv_lshl hx hb (rx_dec hd rfl (by decide)) rfl (hk _ _ hnx _ _ _ _ _ _ hl hI h)
  | lshr =>
    rcases st with _ | ⟨a, _ | ⟨b, r⟩⟩
    · exact False.elim h
    · cases a <;> exact False.elim h
    cases a <;> try exact False.elim h
    cases b <;> try exact False.elim h
    rename_i y x
    exact lv_lshr hx hb (rx_dec hd rfl (by decide)) rfl (hk _ _ hnx _ _ _ _ _ _ hl hI h)
  | lneg =>
    rcases st with _ | ⟨a, r⟩ <;> try exact False.elim h
    cases a <;> try exact False.elim h
    rename_i x
    exact lv_lneg hx hb (rx_dec hd rfl (by decide)) (hk _ _ hnx _ _ _ _ _ _ hl hI h)
  | i2l =>
    rcases st with _ | ⟨a, r⟩ <;> try exact False.elim h
    cases a <;> try exact False.elim h
    rename_i x
    exact lv_i2l hx hb (rx_dec hd rfl (by decide)) rfl (hk _ _ hnx _ _ _ _ _ _ hl hI h)
  | l2i =>
    rcases st with _ | ⟨a, r⟩ <;> try exact False.elim h
    cases a <;> try exact False.elim h
    rename_i x
    exact lv_l2i hx hb (rx_dec hd rfl (by decide)) rfl (hk _ _ hnx _ _ _ _ _ _ hl hI h)
  | i2b =>
    rcases st with _ | ⟨a, r⟩ <;> try exact False.elim h
    cases a <;> try exact False.elim h
    rename_i x
    exact lv_i2b hx hb (rx_dec hd rfl (by decide)) rfl (hk _ _ hnx _ _ _ _ _ _ hl hI h)
  | lcmp =>
    rcases st with _ | ⟨a, _ | ⟨b, r⟩⟩
    · exact False.elim h
    · cases a <;> exact False.elim h
    cases a <;> try exact False.elim h
    cases b <;> try exact False.elim h
    rename_i y x
    exact W.lcmp hx hb (rx_dec hd rfl (by decide)) (hk _ _ hnx _ _ _ _ _ _ hl hI h)
  | dup =>
    rcases st with _ | ⟨a, r⟩ <;> try exact False.elim h
    cases a <;> first | exact False.elim h | exact lv_dup hx hb (rx_dec hd rfl (by decide)) rfl (hk _ _ hnx _ _ _ _ _ _ hl hI h)
  | pop =>
    rcases st with _ | ⟨a, r⟩ <;> try exact False.elim h
    cases a <;> first | exact False.elim h | exact lv_pop hx hb (rx_dec hd rfl (by decide)) rfl (hk _ _ hnx _ _ _ _ _ _ hl hI h)
  | ifCond c0 o =>
    rcases st with _ | ⟨a, r⟩ <;> try exact False.elim h
    cases a <;> try exact False.elim h
    rename_i x
    have ht : (pc : Int) + o = (t : Int) := by obtain ⟨_, _, _, q⟩ := hd; simpa [rx_tg] using q
    cases c0
    · exact lv_if_eq hx hb (rx_dec hd rfl (by decide)) ht (fun q => hk _ _ hto _ _ _ _ _ _ hl hI (h.1 q)) (fun q => hk _ _ hnx _ _ _ _ _ _ hl hI (h.2 q))
    · exact lv_if_ne hx hb (rx_dec hd rfl (by decide)) ht (fun q => hk _ _ hto _ _ _ _ _ _ hl hI (h.1 q)) (fun q => hk _ _ hnx _ _ _ _ _ _ hl hI (h.2 q))
    · exact lv_if_lt hx hb (rx_dec hd rfl (by decide)) ht (fun q => hk _ _ hto _ _ _ _ _ _ hl hI (h.1 q)) (fun q => hk _ _ hnx _ _ _ _ _ _ hl hI (h.2 q))
    · exact lv_if_ge hx hb (rx_dec hd rfl (by decide)) ht (fun q => hk _ _ hto _ _ _ _ _ _ hl hI (h.1 q)) (fun q => hk _ _ hnx _ _ _ _ _ _ hl hI (h.2 q))
    · exact lv_if_gt hx hb (rx_dec hd rfl (by decide)) ht (fun q => hk _ _ hto _ _ _ _ _ _ hl hI (h.1 q)) (fun q => hk _ _ hnx _ _ _ _ _ _ hl hI (h.2 q))
    · exact lv_if_le hx hb (rx_dec hd rfl (by decide)) ht (fun q => hk _ _ hto _ _ _ _ _ _ hl hI (h.1 q)) (fun q => hk _ _ hnx _ _ _ _ _ _ hl hI (h.2 q))
  | if_icmp c0 o =>
    rcases st with _ | ⟨a, _ | ⟨b, r⟩⟩
    · exact False.elim h
    · cases a <;> exact False.elim h
    cases a <;> try exact False.elim h
    cases b <;> try exact False.elim h
    rename_i y x
    have ht : (pc : Int) + o = (t : Int) := by obtain ⟨_, _, _, q⟩ := hd; simpa [rx_tg] using q
    cases c0
    · exact lv_icmp_eq hx hb (rx_dec hd rfl (by decide)) ht (fun q => hk _ _ hto _ _ _ _ _ _ hl hI (h.1 q)) (fun q => hk _ _ hnx _ _ _ _ _ _ hl hI (h.2 q))
    · exact lv_icmp_ne hx hb (rx_dec hd rfl (by decide)) ht (fun q => hk _ _ hto _ _ _ _ _ _ hl hI (h.1 q)) (fun q => hk _ _ hnx _ _ _ _ _ _ hl hI (h.2 q))
    · exact lv_icmp_lt hx hb (rx_dec hd rfl (by decide)) ht (fun q => hk _ _ hto _ _ _ _ _ _ hl hI (h.1 q)) (fun q => hk _ _ hnx _ _ _ _ _ _ hl hI (h.2 q))
    · exact lv_icmp_ge hx hb (rx_dec hd rfl (by decide)) ht (fun q => hk _ _ hto _ _ _ _ _ _ hl hI (h.1 q)) (fun q => hk _ _ hnx _ _ _ _ _ _ hl hI (h.2 q))
    · exact lv_icmp_gt hx hb (rx_dec hd rfl (by decide)) ht (fun q => hk _ _ hto _ _ _ _ _ _ hl hI (h.1 q)) (fun q => hk _ _ hnx _ _ _ _ _ _ hl hI (h.2 q))
    · exact lv_icmp_le hx hb (rx_dec hd rfl (by decide)) ht (fun q => hk _ _ hto _ _ _ _ _ _ hl hI (h.1 q)) (fun q => hk _ _ hnx _ _ _ _ _ _ hl hI (h.2 q))
  | goto o =>
    have ht : (pc : Int) + o = (t : Int) := by obtain ⟨_, _, _, q⟩ := hd; simpa [rx_tg] using q
    exact lv_goto hx hb (rx_dec hd rfl (by decide)) ht (hk _ _ hto _ _ _ _ _ _ hl hI h)
  | tableswitch d lo hi offs =>
    rcases st with _ | ⟨a, r⟩ <;> try exact False.elim h
    cases a <;> try exact False.elim h
    rename_i x
    obtain ⟨n, hd1, -, -⟩ := hd
    obtain ⟨h1, h2, h3⟩ := h
    by_cases q1 : x.toInt < lo
    · obtain ⟨g1, g2⟩ := h1 (Or.inl q1)
      exact lv_tableOut hx hb hd1 (Or.inl q1) (Int.toNat_of_nonneg g1).symm (hk _ _ (fun q hq => hP q (rx_to_sub q hq)) _ _ _ _ _ _ hl hI g2)
    · by_cases q2 : hi < x.toInt
      · obtain ⟨g1, g2⟩ := h1 (Or.inr q2)
        exact lv_tableOut hx hb hd1 (Or.inr q2) (Int.toNat_of_nonneg g1).symm (hk _ _ (fun q hq => hP q (rx_to_sub q hq)) _ _ _ _ _ _ hl hI g2)
      · obtain ⟨o, e1, g1, g2⟩ := rx_sw_at (offs.toList) lo (j := (x.toInt - lo).toNat) (by omega) (by omega) h3
        refine lv_tableIn (off := o) hx hb hd1 q1 q2 ?_ (Int.toNat_of_nonneg g1).symm (hk _ _ (fun q hq => hP q (rx_to_sub q hq)) _ _ _ _ _ _ hl hI g2)
        rw [← e1]; simp
  | ireturn =>
    rcases st with _ | ⟨a, _ | ⟨b, r⟩⟩
    · exact False.elim h
    case cons.cons => cases a <;> exact False.elim h
    cases a <;> try exact False.elim h
    exact hR _ _ _ _ _ _ _ _ hI rfl (rx_dec hd rfl (by decide)) h
  | lreturn =>
    rcases st with _ | ⟨a, _ | ⟨b, r⟩⟩
    · exact False.elim h
    case cons.cons => cases a <;> exact False.elim h
    cases a <;> try exact False.elim h
    exact hR _ _ _ _ _ _ _ _ hI rfl (rx_dec hd rfl (by decide)) h
  | return_ =>
    rcases st with _ | ⟨a, r⟩ <;> try exact False.elim h
    exact hR _ _ _ _ _ _ _ _ hI rfl (rx_dec hd rfl (by decide)) h
  | _ => exact rx_ext_sound hE (by simp [rx_len]) hk hd hnx hl hI h
theorem rx_step_sound (hx : p.tables.exec = Jvm.exec) (hb : c.code = cc) {k : rx_K σ} {pc : Nat} {cur : rx_P} {w : σ} {lv : rx_L} {st : List Value} {ls : Array Slot} {H : Heap} {locs : List Loc}
    (hP : ∀ q ∈ P, rx_ok cc q)
    (hE : rx_Eok (fun H locs g => W p l e R s m args below meth c H locs cells slots Qw g) m cc nL I E)
    (hR : ∀ (w : σ) (H : Heap) (locs : List Loc) (pc : Nat) (ls : Array Slot) (i : Instr) (st : List Value) (v : Option Value), I w H locs → rx_ret i st = some v → decode cc pc = .ok (i, 1) → Q w v → W p l e R s m args below meth c H locs cells slots Qw (F0 m pc ls st))
    (hk : ∀ (pc : Nat) (cur : rx_P), (∀ q ∈ cur, rx_ok cc q) → ∀ (w : σ) (lv : rx_L) (st : List Value) (ls : Array Slot) (H : Heap) (locs : List Loc), lv_has ls nL lv → I w H locs → k pc cur w lv st → W p l e R s m args below meth c H locs cells slots Qw (F0 m pc ls st))
    (hcur : ∀ q ∈ cur, rx_ok cc q) (hl : lv_has ls nL lv) (hI : I w H locs) (h : rx_step P E nL Q k pc cur w lv st) : W p l e R s m args below meth c H locs cells slots Qw (F0 m pc ls st) := by
  rcases cur with _ | ⟨⟨pc0, i, t⟩, nx⟩
  · exact False.elim h
  · obtain ⟨e1, h⟩ := h
    subst e1
    exact rx_ins_sound hx hb hP hE hR hk (hcur _ List.mem_cons_self) (fun q hq => hcur q (List.mem_cons_of_mem _ hq)) hl hI h
theorem rx_sound (hx : p.tables.exec = Jvm.exec) (hb : c.code = cc) {X : rx_X σ}
    (hP : ∀ q ∈ P, rx_ok cc q)
    (hE : rx_Eok (fun H locs g => W p l e R s m args below meth c H locs cells slots Qw g) m cc nL I E)
    (hR : ∀ (w : σ) (H : Heap) (locs : List Loc) (pc : Nat) (ls : Array Slot) (i : Instr) (st : List Value) (v : Option Value), I w H locs → rx_ret i st = some v → decode cc pc = .ok (i, 1) → Q w v → W p l e R s m args below meth c H locs cells slots Qw (F0 m pc ls st))
    (hX : ∀ (pc : Nat) (g : σ → rx_L → List Value → Prop), X pc = some g → ∀ (w : σ) (lv : rx_L) (st : List Value) (ls : Array Slot) (H : Heap) (locs : List Loc), lv_has ls nL lv → I w H locs → g w lv st → W p l e R s m args below meth c H locs cells slots Qw (F0 m pc ls st)) :
    ∀ (n pc : Nat) (cur : rx_P), (∀ q ∈ cur, rx_ok cc q) → ∀ (w : σ) (lv : rx_L) (st : List Value) (ls : Array Slot) (H : Heap) (locs : List Loc), lv_has ls nL lv → I w H locs → rx P E nL Q X n pc cur w lv st → W p l e R s m args below meth c H locs cells slots Qw (F0 m pc ls st) := by
  intro n
  induction n with
  | zero => intro pc cur _ w lv st ls H locs _ _ h; exact False.elim h
  | succ n ih =>
    intro pc cur hcur w lv st ls H locs hl hI h
    rw [rx_n] at h
    cases e1 : X pc with
    | some g => rw [e1] at h; exact hX pc g e1 w lv st ls H locs hl hI h
    | none => rw [e1] at h; exact rx_step_sound hx hb hP hE hR ih hcur hl hI h
/-- the cuts: at the places of C, the words Cp hold, of a measure below M -/
def rx_cut (C : Nat → Option (Nat → σ → rx_L → Prop)) (M : Nat) : rx_X σ := fun pc => match C pc with
  | some g => some (fun w lv st => ∃ (u : Nat) (lv0 : rx_L), u < M ∧ st = [] ∧ g u w lv0 ∧ ∀ q ∈ lv0, rx_get q.1 lv = some q.2)
  | none => none
theorem rx_loop (hx : p.tables.exec = Jvm.exec) (hb : c.code = cc) (C : Nat → Option (Nat → σ → rx_L → Prop)) (f : Nat)
    (hP : ∀ q ∈ P, rx_ok cc q)
    (hE : rx_Eok (fun H locs g => W p l e R s m args below meth c H locs cells slots Qw g) m cc nL I E)
    (hR : ∀ (w : σ) (H : Heap) (locs : List Loc) (pc : Nat) (ls : Array Slot) (i : Instr) (st : List Value) (v : Option Value), I w H locs → rx_ret i st = some v → decode cc pc = .ok (i, 1) → Q w v → W p l e R s m args below meth c H locs cells slots Qw (F0 m pc ls st))
    (hC : ∀ (pc : Nat) (g : Nat → σ → rx_L → Prop), C pc = some g → ∀ (u : Nat) (w : σ) (lv : rx_L), g u w lv → rx_step P E nL Q (rx P E nL Q (rx_cut C u) f) pc (rx_to pc P) w lv []) :
    ∀ (M pc : Nat) (g : Nat → σ → rx_L → Prop), C pc = some g → ∀ (u : Nat) (w : σ) (lv : rx_L) (ls : Array Slot) (H : Heap) (locs : List Loc), u < M → lv_has ls nL lv → I w H locs → g u w lv → W p l e R s m args below meth c H locs cells slots Qw (F0 m pc ls []) := by
  intro M
  induction M with
  | zero => intro pc g _ u w lv ls H locs h; exact absurd h (Nat.not_lt_zero _)
  | succ M ih =>
    intro pc g hg u w lv ls H locs hu hl hI h
    refine rx_step_sound hx hb hP hE hR (rx_sound hx hb hP hE hR ?_ f) (fun q hq => hP q (rx_to_sub q hq)) hl hI (hC pc g hg u w lv h)
    intro pc1 g1 e1 w1 lv1 st1 ls1 H1 locs1 hl1 hI1 h1
    unfold rx_cut at e1
    cases e2 : C pc1 with
    | none => rw [e2] at e1; cases e1
    | some g2 =>
      rw [e2] at e1
      cases e1
      obtain ⟨u1, lv0, hu1, rfl, hg2, hs⟩ := h1
      exact ih pc1 g2 e2 u1 w1 lv0 ls1 H1 locs1 (by omega) (rx_sub_has hl1 hs) hI1 hg2
theorem rx_whole (hx : p.tables.exec = Jvm.exec) (hb : c.code = cc) (C : Nat → Option (Nat → σ → rx_L → Prop)) (f f0 M : Nat)
    (hP : ∀ q ∈ P, rx_ok cc q)
    (hE : rx_Eok (fun H locs g => W p l e R s m args below meth c H locs cells slots Qw g) m cc nL I E)
    (hR : ∀ (w : σ) (H : Heap) (locs : List Loc) (pc : Nat) (ls : Array Slot) (i : Instr) (st : List Value) (v : Option Value), I w H locs → rx_ret i st = some v → decode cc pc = .ok (i, 1) → Q w v → W p l e R s m args below meth c H locs cells slots Qw (F0 m pc ls st))
    (hC : ∀ (pc : Nat) (g : Nat → σ → rx_L → Prop), C pc = some g → ∀ (u : Nat) (w : σ) (lv : rx_L), g u w lv → rx_step P E nL Q (rx P E nL Q (rx_cut C u) f) pc (rx_to pc P) w lv [])
    {w : σ} {lv : rx_L} {st : List Value} {ls : Array Slot} {H : Heap} {locs : List Loc} {pc : Nat} (hl : lv_has ls nL lv) (hI : I w H locs) (h : rx P E nL Q (rx_cut C M) f0 pc (rx_to pc P) w lv st) : W p l e R s m args below meth c H locs cells slots Qw (F0 m pc ls st) := by
  refine rx_sound hx hb hP hE hR ?_ f0 pc _ (fun q hq => hP q (rx_to_sub q hq)) w lv st ls H locs hl hI h
  intro pc1 g1 e1 w1 lv1 st1 ls1 H1 locs1 hl1 hI1 h1
  unfold rx_cut at e1
  cases e2 : C pc1 with
  | none => rw [e2] at e1; cases e1
  | some g2 =>
    rw [e2] at e1
    cases e1
    obtain ⟨u1, lv0, hu1, rfl, hg2, hs⟩ := h1
    exact rx_loop hx hb C f hP hE hR hC M pc1 g2 e2 u1 w1 lv0 ls1 H1 locs1 hu1 (rx_sub_has hl1 hs) hI1 hg2
/-- oracles side by side -/
def rx_any : List (rx_E σ) → rx_E σ
  | [], _, _, _ => none
  | a :: r, w, i, st => match a w i st with
    | some q => some q
    | none => rx_any r w i st
theorem rx_any_ok {V : Heap → List Loc → JFrame → Prop} : ∀ {L : List (rx_E σ)}, (∀ a ∈ L, rx_Eok V m cc nL I a) → rx_Eok V m cc nL I (rx_any L)
  | [], _ => fun w H locs pc ls i st q _ _ e => by cases e
  | a :: r, h => fun w H locs pc ls i st q hI hs e => by
    unfold rx_any at e
    cases e1 : a w i st with
    | some q1 =>
      rw [e1] at e
      cases e
      exact h a List.mem_cons_self w H locs pc ls i st _ hI hs e1
    | none =>
      rw [e1] at e
      exact rx_any_ok (fun b hb => h b (List.mem_cons_of_mem _ hb)) w H locs pc ls i st q hI hs e
end RXS
