/-! Contracts over a world of cells at fixed addresses: tr (a transition of the world, an answer), and oracles for rx out of the kit's rows. -/
def tr_K (K : State → Prop) : Prop := (∀ (U : State) (g : JFrame) (mk : MethodId) (a : Array Value), K U → K (U.calling g mk a)) ∧ ∀ s U : State, s.WarmedH U.vm → K s → K U
theorem tr_K_va {D : va_G} {cl : List vw_C} {tys : List (ClassId × FieldType)} : tr_K (va_K D cl tys) := ⟨fun U g mk a h => va_K.moved (u := U) (U := U.calling g mk a) (Vm.Alike.refl U.vm) h, fun _ _ hW h => va_K.moved hW.alike h⟩
theorem tr_K_and {K1 K2 : State → Prop} (h1 : tr_K K1) (h2 : tr_K K2) : tr_K (fun U => K1 U ∧ K2 U) := ⟨fun U g mk a h => ⟨h1.1 U g mk a h.1, h2.1 U g mk a h.2⟩, fun s U hW h => ⟨h1.2 s U hW h.1, h2.2 s U hW h.2⟩⟩
theorem tr_K_nf {a : String} {i : Nat} {b n d h : String} : tr_K (va_Nw (.fieldLinkNest a i b n d h)) := ⟨fun _ _ _ _ h => va_Nw.same rfl rfl h, fun _ _ hW h => va_Nw.warmF hW h⟩
theorem tr_K_nm {a : String} {i : Nat} {x : MethodName} {h : String} : tr_K (va_Nw (.methodLinkNest a i x h)) := ⟨fun _ _ _ _ h => va_Nw.same rfl rfl h, fun _ _ hW h => va_Nw.warmM hW h⟩
def tr_Pc (K : State → Prop) (D : va_G) (cl : List vw_C) (As : List Value) (W1 : va_W) : Array Value → State → Prop := fun a U => a = As.toArray ∧ va_P D cl W1 U.heap ∧ K U
def tr_Qc (D : va_G) (cl : List vw_C) (A : Nat → Prop) (W2 : va_W) (r : Option Value) : Array Value → State → Outcome → State → Prop := fun _ st o t => o = .returned r ∧ va_P D cl W2 t.heap ∧ va_F A st t
def tr (l : Launch) (y : MethodName) (ws : List Cond) (rm : Room) (K : State → Prop) (D : va_G) (cl : List vw_C) (A : Nat → Prop) (As : List Value) (W1 W2 : va_W) (r : Option Value) : Prop :=
  Met l y ws rm (tr_Pc K D cl As W1) (tr_Qc D cl A W2 r) 0 0 A
theorem tr_blind {K : State → Prop} {D : va_G} {cl : List vw_C} {As : List Value} {W1 : va_W} (hK : tr_K K) : FrameBlind (tr_Pc K D cl As W1) := fun a U g mk h => ⟨h.1, h.2.1, hK.1 U g mk a h.2.2⟩
def tr_I {σ : Type} (D : va_G) (cl : List vw_C) (A : Nat → Prop) (s : State) (Wf : σ → va_W) : σ → Heap → List Loc → Prop := fun w H locs => va_P D cl (Wf w) H ∧ va_S A s.heap H locs
def rx_sum : List Value → Nat
  | [] => 0
  | v :: r => (bif rx_two v then 2 else 1) + rx_sum r
theorem rx_sum_eq : ∀ st : List Value, (st.map fun v => v.category).sum = rx_sum st
  | [] => rfl
  | v :: r => by
    have e : rx_sum (v :: r) = (bif rx_two v then 2 else 1) + rx_sum r := rfl
    rw [List.map_cons, List.sum_cons, rx_sum_eq r, e]
    cases v <;> rfl
def rx_pop : Nat → List Value → List Value → Option (List Value × List Value)
  | 0, st, acc => some (acc, st)
  | _ + 1, [], _ => none
  | n + 1, v :: st, acc => rx_pop n st (v :: acc)
theorem rx_pop_eq : ∀ (n : Nat) (st acc as rest : List Value), rx_pop n st acc = some (as, rest) → ∃ bs : List Value, bs.length = n ∧ st = bs ++ rest ∧ as = bs.reverse ++ acc
  | 0, st, acc, as, rest, h => by
    unfold rx_pop at h
    cases h
    exact ⟨[], rfl, rfl, rfl⟩
  | n + 1, [], acc, as, rest, h => by
    unfold rx_pop at h
    cases h
  | n + 1, v :: st, acc, as, rest, h => by
    unfold rx_pop at h
    obtain ⟨bs, h1, h2, h3⟩ := rx_pop_eq n st (v :: acc) as rest h
    refine ⟨v :: bs, by simp [h1], by simp [h2], ?_⟩
    rw [h3]
    simp
abbrev rx_F (σ : Type) : Type := σ → List Value → Option (Prop × σ × Option Value)
def rx_got {σ : Type} (rest : List Value) : Option (Prop × σ × Option Value) → Option (rx_R σ)
  | some (g, w1, r) => some (.inl (g ∧ rx_sum rest ≤ 8, w1, r.toList ++ rest))
  | none => none
/-- a call of an instance method at the object b -/
def rx_hV {σ : Type} (j n b : Nat) (f : rx_F σ) : rx_E σ := fun w i st => match i with
  | .invokevirtual j' => bif j' == j then (match rx_pop n st [] with
    | some (as, .ref b' :: rest) => if b' = b then rx_got rest (f w as) else none
    | _ => none) else none
  | _ => none
/-- a call of a static method -/
def rx_hS {σ : Type} (j n : Nat) (f : rx_F σ) : rx_E σ := fun w i st => match i with
  | .invokestatic j' => bif j' == j then (match rx_pop n st [] with
    | some (as, rest) => rx_got rest (f w as)
    | _ => none) else none
  | _ => none
/-- a field of the object b is read -/
def rx_hG {σ : Type} (j b : Nat) (fv : σ → Value) : rx_E σ := fun w i st => match i with
  | .getfield j' => bif j' == j then (match st with
    | .ref b' :: r => if b' = b then some (.inl (True, w, fv w :: r)) else none
    | _ => none) else none
  | _ => none
/-- a field of the object b is written -/
def rx_hP {σ : Type} (j b : Nat) (fv : σ → Value → Option (Prop × σ)) : rx_E σ := fun w i st => match i with
  | .putfield j' => bif j' == j then (match st with
    | v :: .ref b' :: r => if b' = b then (match fv w v with
      | some (g, w1) => some (.inl (g, w1, r))
      | none => none) else none
    | _ => none) else none
  | _ => none
/-- an element of the array b of ints, of bytes, of truth values is read -/
def rx_hAi {σ : Type} (b n : Nat) (f : σ → Nat → Int32) : rx_E σ := fun w i st => match i with
  | .iaload => (match st with
    | .int x :: .ref b' :: r => if b' = b then some (.inl (vp_in x n, w, .int (f w x.toNatClampNeg) :: r)) else none
    | _ => none)
  | _ => none
def rx_hAb {σ : Type} (b n : Nat) (f : σ → Nat → Int32) : rx_E σ := fun w i st => match i with
  | .baload => (match st with
    | .int x :: .ref b' :: r => if b' = b then some (.inl (vp_in x n, w, .int (f w x.toNatClampNeg) :: r)) else none
    | _ => none)
  | _ => none
/-- .. is written -/
def rx_hBi {σ : Type} (b n : Nat) (f : σ → Nat → Int32 → σ) : rx_E σ := fun w i st => match i with
  | .iastore => (match st with
    | .int v :: .int x :: .ref b' :: r => if b' = b then some (.inl (vp_in x n, f w x.toNatClampNeg v, r)) else none
    | _ => none)
  | _ => none
def rx_hBb {σ : Type} (b n : Nat) (f : σ → Nat → Int32 → σ) : rx_E σ := fun w i st => match i with
  | .bastore => (match st with
    | .int v :: .int x :: .ref b' :: r => if b' = b then some (.inl (vp_in x n, f w x.toNatClampNeg v, r)) else none
    | _ => none)
  | _ => none
/-- a constant of the class -/
def rx_hL {σ : Type} (j : Nat) (v : Int64) : rx_E σ := fun w i st => match i with
  | .ldc2_w j' => bif j' == j then some (.inl (True, w, .long v :: st)) else none
  | _ => none
def rx_hLi {σ : Type} (j : Nat) (v : Int32) : rx_E σ := fun w i st => match i with
  | .ldc j' => bif j' == j then some (.inl (True, w, .int v :: st)) else none
  | _ => none
theorem rx_any_0 {σ : Type} {V : Heap → List Loc → JFrame → Prop} {m : MethodId} {cc : ByteArray} {nL : Nat} {I : σ → Heap → List Loc → Prop} : rx_Eok V m cc nL I (rx_any []) := rx_any_ok (fun _ h => by cases h)
theorem rx_any_c {σ : Type} {V : Heap → List Loc → JFrame → Prop} {m : MethodId} {cc : ByteArray} {nL : Nat} {I : σ → Heap → List Loc → Prop} {a : rx_E σ} {L : List (rx_E σ)} (h : rx_Eok V m cc nL I a) (h2 : rx_Eok V m cc nL I (rx_any L)) : rx_Eok V m cc nL I (rx_any (a :: L)) := by
  intro w H locs pc ls i st q hI hs e hd
  unfold rx_any at e
  cases e1 : a w i st with
  | some q1 =>
    rw [e1] at e
    cases e
    exact h w H locs pc ls i st _ hI hs e1 hd
  | none =>
    rw [e1] at e
    exact h2 w H locs pc ls i st q hI hs e hd
def rx_nc {σ : Type} : Nat → Option (Nat → σ → rx_L → Prop) := fun _ => none
theorem rx_cut_n {σ : Type} {M pc : Nat} : rx_cut (σ := σ) rx_nc M pc = none := rfl
def rx_1c {σ : Type} (t : Nat) (g : Nat → σ → rx_L → Prop) : Nat → Option (Nat → σ → rx_L → Prop) := fun pc => bif pc == t then some g else none
theorem rx_cut_1 {σ : Type} {t : Nat} {g : Nat → σ → rx_L → Prop} {M pc : Nat} : rx_cut (rx_1c t g) M pc = bif pc == t then some (fun w lv st => ∃ (u : Nat) (lv0 : rx_L), u < M ∧ st = [] ∧ g u w lv0 ∧ ∀ q ∈ lv0, rx_get q.1 lv = some q.2) else none := by
  unfold rx_cut rx_1c
  cases (pc == t) <;> rfl
theorem rx_1c_of {σ : Type} {t : Nat} {g g1 : Nat → σ → rx_L → Prop} {pc : Nat} (h : rx_1c t g pc = some g1) : pc = t ∧ g1 = g := by
  unfold rx_1c at h
  cases e : (pc == t) with
  | true => rw [e] at h; cases h; exact ⟨by simpa using e, rfl⟩
  | false => rw [e] at h; cases h
section TR
variable {σ : Type} {p : Program} {l : Launch} {e : Env} {R : Room} {s : State} {m : MethodId} {args : Array Value} {below : List Frame} {meth : Method} {c : Code} {cells slots : Nat} {Qw : State → Prop} {cc : ByteArray} {nL : Nat}
variable {K : State → Prop} {D : va_G} {cl : List vw_C} {A : Nat → Prop} {Wf : σ → va_W} {own : String} {Ts : List Cond}
theorem tr_S {H : Heap} {locs L : List Loc} {st t : State} (hS : va_S A s.heap H locs) (h0 : st.heap = H) (hF : va_F A st t) (hL : ∀ q ∈ L, A q.base) : va_S A s.heap t.heap (locs ++ L) := by
  subst h0
  refine ⟨Nat.le_trans hS.1 hF.1, fun q h1 h2 => (hF.2 q (Nat.lt_of_lt_of_le h1 hS.1) h2).trans (hS.2.1 q h1 h2), fun q hq => ?_⟩
  rcases List.mem_append.mp hq with h | h
  · exact hS.2.2 q h
  · exact hL q h
theorem tr_go {H : Heap} {locs : List Loc} {pc : Nat} {ls : Array Slot} {st0 rest : List Value} {W2 : va_W} {r : Option Value} {a : Array Value}
    (hr : va_Run p l e R s m args below meth c H locs cells slots 0 0 (F0 m pc ls st0) rest (tr_Qc D cl A W2 r a) A) (hS : va_S A s.heap H locs)
    (kk : ∀ H1 locs1, va_P D cl W2 H1 ∧ va_S A s.heap H1 locs1 → W p l e R s m args below meth c H1 locs1 cells slots Qw (F0 m (pc + 3) ls (r.toList ++ rest))) : W p l e R s m args below meth c H locs cells slots Qw (F0 m pc ls st0) := by
  intro T hT X
  obtain ⟨v, st₀, t, T', L, h0, X', hL, e1, e2, ⟨hv, hp, hF⟩, st⟩ := hr T hT X
  cases hv
  obtain ⟨t2, a1, b1⟩ := kk T'.heap (locs ++ L) ⟨by rw [e1]; exact hp, by rw [e1]; exact tr_S hS h0 hF hL⟩ T' rfl X'
  exact ⟨t2, st t2 a1, b1⟩
theorem rx_hV_ok {j n b : Nat} {f : rx_F σ} {y : MethodName} {ws : List Cond} {rm : Room} {C : String} {maxL : Nat} {bytes : ByteArray} {ret : Option FieldType}
    (S : CallFix p m c cc nL s args Ts own) (hf : cells ≤ R.cells ∧ slots ≤ R.slots) (tK : tr_K K) (hKs : K s)
    (cw : CallW R s args own C j y bytes maxL ret ws rm 0 0 n)
    (hM : ∀ (w : σ) (as : List Value) (g : Prop) (w1 : σ) (r : Option Value), f w as = some (g, w1, r) → g → tr l y ws rm K D cl A (.ref b :: as) (Wf w) (Wf w1) r)
    (hrec : ∀ (w : σ) (H : Heap), va_P D cl (Wf w) H → ∃ cellB : Cell, H[b]? = some cellB ∧ cellB.vm.isStatics = false ∧ s.vm.findClass C = some cellB.cls) :
    rx_Eok (fun H locs g => W p l e R s m args below meth c H locs cells slots Qw g) m cc nL (tr_I D cl A s Wf) (rx_hV j n b f) := by
  intro w H locs pc ls i st q hI hs e1 hd
  unfold rx_hV at e1
  split at e1
  · next j' =>
    cases hj : (j' == j) with
    | false => rw [hj] at e1; cases e1
    | true =>
      rw [hj] at e1
      have hj2 : j' = j := by simpa using hj
      subst hj2
      simp only [cond_true] at e1
      split at e1
      · next as b' rest hpop =>
        split at e1
        · next hb =>
          subst hb
          obtain ⟨bs, q1, q2, q3⟩ := rx_pop_eq _ _ _ _ _ hpop
          rw [List.append_nil] at q3
          cases ef : f w as with
          | none => rw [ef] at e1; cases e1
          | some z =>
            obtain ⟨g, w1, r⟩ := z
            rw [ef] at e1
            cases e1
            intro hg kk
            have hMy := hM w as g w1 r ef hg.1
            refine tr_go (va_runV (C := C) (bytes := bytes) (maxL := maxL) (ret := ret) (n := n) (b := b') (As := as) (rest := rest) S hMy cw ⟨tr_blind tK, hrec w H hI.1, fun U hU hW => ⟨rfl, by rw [hU]; exact hI.1, tK.2 s U hW hKs⟩⟩ rfl (by rw [q3, List.length_reverse]; exact q1) hs (by rw [q3, List.reverse_reverse]; exact q2) (by rw [rx_sum_eq]; show 2 * 0 + _ ≤ 8; omega) hd ⟨hf.1, hf.2⟩) hI.2 (fun H1 locs1 h => kk H1 locs1 h)
        · cases e1
      · cases e1
  · cases e1
theorem rx_hS_ok {j n : Nat} {f : rx_F σ} {y : MethodName} {ws : List Cond} {rm : Room} {maxL : Nat} {bytes : ByteArray} {ret : Option FieldType}
    (S : CallFix p m c cc nL s args Ts own) (hf : cells ≤ R.cells ∧ slots ≤ R.slots) (tK : tr_K K) (hKs : K s)
    (cw : CallB R s args own j y bytes maxL ret ws rm 0 0 n ∧ (Cond.static y).before args s = true)
    (hM : ∀ (w : σ) (as : List Value) (g : Prop) (w1 : σ) (r : Option Value), f w as = some (g, w1, r) → g → tr l y ws rm K D cl A as (Wf w) (Wf w1) r) :
    rx_Eok (fun H locs g => W p l e R s m args below meth c H locs cells slots Qw g) m cc nL (tr_I D cl A s Wf) (rx_hS j n f) := by
  intro w H locs pc ls i st q hI hs e1 hd
  unfold rx_hS at e1
  split at e1
  · next j' =>
    cases hj : (j' == j) with
    | false => rw [hj] at e1; cases e1
    | true =>
      rw [hj] at e1
      have hj2 : j' = j := by simpa using hj
      subst hj2
      simp only [cond_true] at e1
      split at e1
      · next as rest hpop =>
        obtain ⟨bs, q1, q2, q3⟩ := rx_pop_eq _ _ _ _ _ hpop
        rw [List.append_nil] at q3
        cases ef : f w as with
        | none => rw [ef] at e1; cases e1
        | some z =>
          obtain ⟨g, w1, r⟩ := z
          rw [ef] at e1
          cases e1
          intro hg kk
          have hMy := hM w as g w1 r ef hg.1
          refine tr_go (va_runS (bytes := bytes) (maxL := maxL) (ret := ret) (n := n) (As := as) (rest := rest) S hMy cw ⟨tr_blind tK, fun U hU hW => ⟨rfl, by rw [hU]; exact hI.1, tK.2 s U hW hKs⟩⟩ rfl (by rw [q3, List.length_reverse]; exact q1) hs (by rw [q3, List.reverse_reverse]; exact q2) (by rw [rx_sum_eq]; show 2 * 0 + _ ≤ 8; omega) hd ⟨hf.1, hf.2⟩) hI.2 (fun H1 locs1 h => kk H1 locs1 h)
      · cases e1
  · cases e1
variable {I : σ → Heap → List Loc → Prop} {V : Heap → List Loc → JFrame → Prop}
theorem rx_hG_ok {j b : Nat} {fv : σ → Value} (h : ∀ (w : σ) (H : Heap) (locs : List Loc) (pc : Nat) (ls : Array Slot) (rest : List Value), I w H locs → decode cc pc = .ok (.getfield j, 3) → V H locs (F0 m (pc + 3) ls (fv w :: rest)) → V H locs (F0 m pc ls (.ref b :: rest))) : rx_Eok V m cc nL I (rx_hG j b fv) := by
  intro w H locs pc ls i st q hI hs e1 hd
  unfold rx_hG at e1
  split at e1
  · next j' =>
    cases hj : (j' == j) with
    | false => rw [hj] at e1; cases e1
    | true =>
      rw [hj] at e1
      have hj2 : j' = j := by simpa using hj
      subst hj2
      simp only [cond_true] at e1
      split at e1
      · next b' r =>
        split at e1
        · next hb =>
          subst hb
          cases e1
          intro _ kk
          exact h w H locs pc ls r hI hd (kk H locs hI)
        · cases e1
      · cases e1
  · cases e1
theorem rx_hP_ok {j b : Nat} {fv : σ → Value → Option (Prop × σ)} (h : ∀ (w : σ) (v : Value) (g : Prop) (w1 : σ) (H : Heap) (locs : List Loc) (pc : Nat) (ls : Array Slot) (rest : List Value), fv w v = some (g, w1) → g → I w H locs → decode cc pc = .ok (.putfield j, 3) → (∀ H1 locs1, I w1 H1 locs1 → V H1 locs1 (F0 m (pc + 3) ls rest)) → V H locs (F0 m pc ls (v :: .ref b :: rest))) : rx_Eok V m cc nL I (rx_hP j b fv) := by
  intro w H locs pc ls i st q hI hs e1 hd
  unfold rx_hP at e1
  split at e1
  · next j' =>
    cases hj : (j' == j) with
    | false => rw [hj] at e1; cases e1
    | true =>
      rw [hj] at e1
      have hj2 : j' = j := by simpa using hj
      subst hj2
      simp only [cond_true] at e1
      split at e1
      · next v b' r =>
        split at e1
        · next hb =>
          subst hb
          split at e1
          · next g w1 hfv =>
            cases e1
            intro hg kk
            exact h w v g w1 H locs pc ls r hfv hg hI hd kk
          · cases e1
        · cases e1
      · cases e1
  · cases e1
theorem rx_hAi_ok {b n : Nat} {f : σ → Nat → Int32} (h : ∀ (w : σ) (H : Heap) (locs : List Loc) (pc : Nat) (ls : Array Slot) (rest : List Value) (x : Int32), I w H locs → vp_in x n → decode cc pc = .ok (.iaload, 1) → V H locs (F0 m (pc + 1) ls (.int (f w x.toNatClampNeg) :: rest)) → V H locs (F0 m pc ls (.int x :: .ref b :: rest))) : rx_Eok V m cc nL I (rx_hAi b n f) := by
  intro w H locs pc ls i st q hI hs e1 hd
  unfold rx_hAi at e1
  split at e1
  · split at e1
    · next x b' r =>
      split at e1
      · next hb =>
        subst hb
        cases e1
        intro hin kk
        exact h w H locs pc ls r x hI hin hd (kk H locs hI)
      · cases e1
    · cases e1
  · cases e1
theorem rx_hAb_ok {b n : Nat} {f : σ → Nat → Int32} (h : ∀ (w : σ) (H : Heap) (locs : List Loc) (pc : Nat) (ls : Array Slot) (rest : List Value) (x : Int32), I w H locs → vp_in x n → decode cc pc = .ok (.baload, 1) → V H locs (F0 m (pc + 1) ls (.int (f w x.toNatClampNeg) :: rest)) → V H locs (F0 m pc ls (.int x :: .ref b :: rest))) : rx_Eok V m cc nL I (rx_hAb b n f) := by
  intro w H locs pc ls i st q hI hs e1 hd
  unfold rx_hAb at e1
  split at e1
  · split at e1
    · next x b' r =>
      split at e1
      · next hb =>
        subst hb
        cases e1
        intro hin kk
        exact h w H locs pc ls r x hI hin hd (kk H locs hI)
      · cases e1
    · cases e1
  · cases e1
theorem rx_hBi_ok {b n : Nat} {f : σ → Nat → Int32 → σ} (h : ∀ (w : σ) (H : Heap) (locs : List Loc) (pc : Nat) (ls : Array Slot) (rest : List Value) (x v : Int32), I w H locs → vp_in x n → decode cc pc = .ok (.iastore, 1) → (∀ H1 locs1, I (f w x.toNatClampNeg v) H1 locs1 → V H1 locs1 (F0 m (pc + 1) ls rest)) → V H locs (F0 m pc ls (.int v :: .int x :: .ref b :: rest))) : rx_Eok V m cc nL I (rx_hBi b n f) := by
  intro w H locs pc ls i st q hI hs e1 hd
  unfold rx_hBi at e1
  split at e1
  · split at e1
    · next v x b' r =>
      split at e1
      · next hb =>
        subst hb
        cases e1
        intro hin kk
        exact h w H locs pc ls r x v hI hin hd kk
      · cases e1
    · cases e1
  · cases e1
theorem rx_hBb_ok {b n : Nat} {f : σ → Nat → Int32 → σ} (h : ∀ (w : σ) (H : Heap) (locs : List Loc) (pc : Nat) (ls : Array Slot) (rest : List Value) (x v : Int32), I w H locs → vp_in x n → decode cc pc = .ok (.bastore, 1) → (∀ H1 locs1, I (f w x.toNatClampNeg v) H1 locs1 → V H1 locs1 (F0 m (pc + 1) ls rest)) → V H locs (F0 m pc ls (.int v :: .int x :: .ref b :: rest))) : rx_Eok V m cc nL I (rx_hBb b n f) := by
  intro w H locs pc ls i st q hI hs e1 hd
  unfold rx_hBb at e1
  split at e1
  · split at e1
    · next v x b' r =>
      split at e1
      · next hb =>
        subst hb
        cases e1
        intro hin kk
        exact h w H locs pc ls r x v hI hin hd kk
      · cases e1
    · cases e1
  · cases e1
theorem rx_hL_ok {j : Nat} {v : Int64} (S : CallFix p m c cc nL s args Ts own) (h : (Jvm.Cond.constantLong own j v).before args s = true) : rx_Eok (fun H locs g => W p l e R s m args below meth c H locs cells slots Qw g) m cc nL I (rx_hL j v) := by
  intro w H locs pc ls i st q hI hs e1 hd
  unfold rx_hL at e1
  split at e1
  · next j' =>
    cases hj : (j' == j) with
    | false => rw [hj] at e1; cases e1
    | true =>
      rw [hj] at e1
      have hj2 : j' = j := by simpa using hj
      subst hj2
      cases e1
      intro _ kk
      exact lv_ldc2 S.1 S.2.1 S.2.2.2.1 h hd (kk H locs hI)
  · cases e1
theorem rx_hLi_ok {j : Nat} {v : Int32} (S : CallFix p m c cc nL s args Ts own) (h : (Jvm.Cond.constant own j v).before args s = true) : rx_Eok (fun H locs g => W p l e R s m args below meth c H locs cells slots Qw g) m cc nL I (rx_hLi j v) := by
  intro w H locs pc ls i st q hI hs e1 hd
  unfold rx_hLi at e1
  split at e1
  · next j' =>
    cases hj : (j' == j) with
    | false => rw [hj] at e1; cases e1
    | true =>
      rw [hj] at e1
      have hj2 : j' = j := by simpa using hj
      subst hj2
      cases e1
      intro _ kk
      exact lv_ldc S.1 S.2.1 S.2.2.2.1 h hd (kk H locs hI)
  · cases e1
end TR
def tr_rt (ret : Option FieldType) (r : Option Value) : Prop := match r with
  | some (.int v) => ∃ ty, ret = some ty ∧ narrow ty (.int v) = .int v
  | some (.long _) => ret = some .long
  | none => ret = none
  | _ => False
section TRO
variable {σ : Type} {l : Launch} {K : State → Prop} {D : va_G} {cl : List vw_C} {A : Nat → Prop} {Wf : σ → va_W}
theorem tr_of {y : MethodName} {ws ws' : List Cond} {rm : Room} {As : List Value} {w0 w2 : σ} {r : Option Value} {cc : ByteArray} {maxL : Nat} {ret : Option FieldType} {own : String} {P : rx_P} {E : rx_E σ} (C : Nat → Option (Nat → σ → rx_L → Prop)) (f f0 M : Nat)
    (hy : plainName y.cls = true) (hw : ws = Cond.code y cc maxL ret :: ws') (hown : y.cls = own) (hlen : (lg_sl As).length ≤ maxL) (hP : ∀ q ∈ P, rx_ok cc q) (hret : tr_rt ret r)
    (hE : ∀ (p : Program) (e : Env) (s : State) (m : MethodId) (args : Array Value) (below : List Frame) (meth : Method) (c : Code) (Qw : State → Prop), CallFix p m c cc maxL s args ws own → K s → rx_Eok (fun H locs g => W p l e rm s m args below meth c H locs 0 0 Qw g) m cc maxL (tr_I D cl A s Wf) E)
    (hC : ∀ (pc : Nat) (g : Nat → σ → rx_L → Prop), C pc = some g → ∀ (u : Nat) (w : σ) (lv : rx_L), g u w lv → rx_step P E maxL (fun w v => w = w2 ∧ v = r) (rx P E maxL (fun w v => w = w2 ∧ v = r) (rx_cut C u) f) pc (rx_to pc P) w lv [])
    (h : rx P E maxL (fun w v => w = w2 ∧ v = r) (rx_cut C M) f0 0 (rx_to 0 P) w0 (lv_args 0 As) []) : tr l y ws rm K D cl A As (Wf w0) (Wf w2) r := by
  refine Met.ofW (cc := cc) (maxL := maxL) (ret := ret) hy hw ?_
  intro p e s m args below meth c s₁ B hml hv
  obtain ⟨rfl, hPs, hKs⟩ := hv
  have hx := B.exec
  have hb := B.bytes
  have hr := B.returns
  have hts := atoms_spec (ws := ws) B.pre
  have hfc : s.vm.findClass own = some m.cls := by rw [← hown]; exact findClass_of_methodNamed B.named
  have hlocks := B.notSynchronized
  have hl := lv_entry As hlen
  rw [lg_entry_eq]
  generalize (lg_sl As ++ List.replicate (maxL - (lg_sl As).length) Slot.unset).toArray = ls at hl ⊢
  refine rx_whole (I := tr_I D cl A s Wf) hx hb C f f0 M hP (hE p e s m _ below meth c _ ⟨hx, hb, hml, hfc, hts⟩ hKs) ?_ hC hl ⟨hPs, va_S.rf⟩ h
  intro w H locs pc ls i st v hI hrt hd hq
  obtain ⟨rfl, rfl⟩ := hq
  unfold rx_ret at hrt
  split at hrt
  · next x =>
    cases hrt
    obtain ⟨ty, e1, e2⟩ := hret
    exact W.zret hx hb (hr.trans e1) e2 (fun t ht hW => ⟨rfl, by rw [ht]; exact hI.1, hI.2.F ht⟩) hI.2.2.2 hd hlocks
  · next x =>
    cases hrt
    exact W.lret hx hb (hr.trans hret) (fun t ht hW => ⟨rfl, by rw [ht]; exact hI.1, hI.2.F ht⟩) hI.2.2.2 hd hlocks
  · cases hrt
    exact W.vret hx hb (hr.trans hret) (fun t ht hW => ⟨rfl, by rw [ht]; exact hI.1, hI.2.F ht⟩) hI.2.2.2 hd hlocks
  · cases hrt
end TRO
