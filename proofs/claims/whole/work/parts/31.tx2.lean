/-! Calls of methods that may throw, as oracles; a throw in the method's own text; from a run to a contract. -/
section TXC
variable {p : Program} {l : Launch} {e : Env} {R : Room} {s : State} {m : MethodId} {args : Array Value} {below : List Frame} {meth : Method} {c : Code} {locs : List Loc} {cells slots : Nat}
variable {D : va_G} {cl : List vw_C} {A : Nat → Prop} {W1 W2 : va_W} {r : tx_R} {H : Heap} {K : State → Prop} {Ts ws : List Cond} {cc bytes : ByteArray} {nL maxL index n : Nat} {own C : String} {y : MethodName} {ret : Option FieldType} {rm : Room} {b : Addr} {As rest : List Value} {g : JFrame}
theorem tx_To.pre {len : Nat} {st st1 : State} (h : tx_To p l e R s m args below meth c D cl A W2 r H locs cells slots g len st1) (hs : ∀ t, Steps p.tables e below st1 t → Steps p.tables e below st t) : tx_To p l e R s m args below meth c D cl A W2 r H locs cells slots g len st := by
  cases r with
  | inl v =>
    obtain ⟨T', L, h1, h2, h3, h4, h5⟩ := h
    exact ⟨T', L, h1, h2, h3, h4, hs _ h5⟩
  | inr E =>
    obtain ⟨q, ce, T', L, h1, h2, h3, h4, h5, h6, h7, h8⟩ := h
    exact ⟨q, ce, T', L, h1, h2, h3, h4, h5, h6, h7, hs _ h8⟩
theorem tx_callV (S : CallFix p m c cc nL s args Ts own) (hM : tx l y ws rm K D cl A (.ref b :: As) W1 W2 r) (tK : tr_K K) (hKs : K s) (cw : CallW R s args own C index y bytes maxL ret ws rm rm.cells rm.slots n)
    (hrec : ∃ cellB : Cell, H[b]? = some cellB ∧ cellB.vm.isStatics = false ∧ s.vm.findClass C = some cellB.cls) (hP : va_P D cl W1 H) (hz : tz A s H)
    (hg : g.method = m) (hn : As.length = n) (hsize : g.locals.size = nL) (hstack : g.stack = As.reverse ++ .ref b :: rest) (hW : 2 * g.monitorRoom + (rest.map fun v => v.category).sum ≤ 8) (hdg : decode cc g.pc = .ok (.invokevirtual index, 3)) (hf : cells + rm.cells ≤ R.cells ∧ slots + rm.slots ≤ R.slots)
    {T : State} (hT : T.heap = H) (X : Stand p l e R s m args below meth c T locs cells slots) : tx_To p l e R s m args below meth c D cl A W2 r H locs cells slots { g with stack := rest } 3 (T.setTop g) := by
  obtain ⟨⟨-, -, hfr, hlo, hws, hcw, hcode, hini, hy, hlen, hlink⟩, hin, hse⟩ := cw
  obtain ⟨hx, rfl, hml, hown, -⟩ := S
  obtain ⟨cellB, hcB, hoB, hclB⟩ := hrec
  subst hT
  obtain ⟨mk, methM, hnamed, hmethM, hstM, habM⟩ := Cond.instanceMethod_spec hin
  obtain ⟨methM', cM, hmethM', -, -, -, -, -, -, hsigM⟩ := Cond.code_spec hnamed hcode
  cases hmethM.symm.trans hmethM'
  obtain ⟨c2, r2, m2, q1, q2, q3, q4, kP, hkP, hkPi⟩ := Cond.selects_spec hse
  cases hclB.symm.trans q1
  cases (State.methodFound?_of_named hnamed hy).symm.trans q2
  cases hnamed.symm.trans q3
  have hselP : selectMethod e.platform s.vm cellB.cls mk = .method mk := by rw [Launch.admits_selectMethod X.admits]; exact q4
  obtain ⟨vm₁, X₁, hstep⟩ := X.invokevirtual hx hown hlink hnamed hmethM hstM hkP hkPi hy (a := b) (cell := cellB) hcB (fun z h => by rw [h] at hoB; cases hoB) hselP hmethM habM hkP hkPi (g := g) hg (argsL := As) (rest := rest) (hn.trans (hlen _ hsigM)) hstack hdg
  refine tx_To.pre (H := T.heap) (tx_back (T := T.setVm vm₁) (g := { g with stack := rest }) (ig := .invokevirtual index) (len := 3) hM tK hKs hfr hlo hws hcw hini X₁ hg (hsize.trans hml.symm) hdg hW (X₁.named hnamed) hf hP hz) (fun t ht => hstep _ fun acts => ?_)
  rw [doInvoke_state]
  exact ht
theorem tx_callS (S : CallFix p m c cc nL s args Ts own) (hM : tx l y ws rm K D cl A As W1 W2 r) (tK : tr_K K) (hKs : K s) (cw : CallB R s args own index y bytes maxL ret ws rm rm.cells rm.slots n ∧ (Cond.static y).before args s = true) (hP : va_P D cl W1 H) (hz : tz A s H)
    (hg : g.method = m) (hn : As.length = n) (hsize : g.locals.size = nL) (hstack : g.stack = As.reverse ++ rest) (hW : 2 * g.monitorRoom + (rest.map fun v => v.category).sum ≤ 8) (hdg : decode cc g.pc = .ok (.invokestatic index, 3)) (hf : cells + rm.cells ≤ R.cells ∧ slots + rm.slots ≤ R.slots)
    {T : State} (hT : T.heap = H) (X : Stand p l e R s m args below meth c T locs cells slots) : tx_To p l e R s m args below meth c D cl A W2 r H locs cells slots { g with stack := rest } 3 (T.setTop g) := by
  obtain ⟨⟨-, -, hfr, hlo, hws, hcw, hcode, hini, hy, hlen, hlink⟩, hst⟩ := cw
  obtain ⟨hx, rfl, hml, hown, -⟩ := S
  subst hT
  obtain ⟨mk, hnamed⟩ := Cond.code_named hcode
  obtain ⟨methM, cM, hmethM, -, -, -, -, -, -, hsigM⟩ := Cond.code_spec hnamed hcode
  have hstatic : methM.isStatic = true := Cond.static_spec hnamed hmethM hst
  obtain ⟨kP, hkP, -⟩ := className_of_methodNamed hnamed
  have hinitP : kP.init = .initialized := Cond.initialized_spec (findClass_of_methodNamed hnamed) hkP hini
  obtain ⟨vm₁, X₁, hstep⟩ := X.invokestatic hx hown hlink hnamed hmethM hstatic hkP hinitP hy (g := g) hg (argsL := As) (rest := rest) (hn.trans (hlen _ hsigM)) hstack hdg
  refine tx_To.pre (H := T.heap) (tx_back (T := T.setVm vm₁) (g := { g with stack := rest }) (ig := .invokestatic index) (len := 3) hM tK hKs hfr hlo hws hcw hini X₁ hg (hsize.trans hml.symm) hdg hW (X₁.named hnamed) hf hP hz) (fun t ht => hstep _ fun acts => ?_)
  rw [doInvoke_state]
  exact ht
/-- what a body that may throw owes at its end -/
def tx_MQ (below : List Frame) (D : va_G) (cl : List vw_C) (A : Nat → Prop) (W2 : va_W) (r : tx_R) (a : Array Value) (s : State) : State → Prop := fun t => ∃ o, t.status = .running ∧ Ended t below o ∧ tx_Q D cl A W2 r a s o t
/-- behind a call: on, or out of the method with the same exception -/
theorem tx_on {r1 : tx_R} {W3 : va_W} {pc len : Nat} {ls : Array Slot} {st0 : List Value} (hS : va_S A s.heap H locs) (hnh : c.exceptionTable.isEmpty = true) (hlocks : meth.locks = false)
    (hr : ∀ T : State, T.heap = H → Stand p l e R s m args below meth c T locs 0 0 → tx_To p l e R s m args below meth c D cl A W3 r1 H locs 0 0 (F0 m pc ls rest) len (T.setTop (F0 m pc ls st0)))
    (hx : ∀ E, r1 = .inr E → W3 = W2 ∧ r = .inr E)
    (kk : ∀ v, r1 = .inl v → ∀ H1 locs1, va_P D cl W3 H1 ∧ va_S A s.heap H1 locs1 → W p l e R s m args below meth c H1 locs1 0 0 (tx_MQ below D cl A W2 r args s) (F0 m (pc + len) ls (v.toList ++ rest))) :
    W p l e R s m args below meth c H locs 0 0 (tx_MQ below D cl A W2 r args s) (F0 m pc ls st0) := by
  intro T hT X
  have h := hr T hT X
  cases r1 with
  | inl v =>
    obtain ⟨T', L, h1, h2, h3, h4, h5⟩ := h
    obtain ⟨t2, a1, b1⟩ := kk v rfl T'.heap (locs ++ L) ⟨h3, h4.S hS h2⟩ T' rfl h1
    exact ⟨t2, h5.trans a1, b1⟩
  | inr E =>
    obtain ⟨q, ce, T', L, h1, h2, h3, h4, h5, h6, h7, h8⟩ := h
    obtain ⟨rfl, rfl⟩ := hx E rfl
    have hno : ∀ x ∈ c.exceptionTable.toList, covers x pc = false := by
      intro x hx
      have : c.exceptionTable.toList = [] := by simpa using hnh
      rw [this] at hx
      cases hx
    obtain ⟨st1, hrun, hend, hW, hsm⟩ := h1.leaveThrown q (g := F0 m pc ls rest) rfl rfl rfl hno hlocks
    have hS2 := h4.S hS h2
    exact ⟨_, h8.trans st1, .threw q, hrun, hend, h3, ⟨hS2.1, hS2.2.1⟩, q, ce, locs ++ L, rfl, h5, h6, h7, hW, hsm, hS2.2.2⟩
end TXC
abbrev rx_Fx (σ : Type) : Type := σ → List Value → Option (Prop × Prop × σ × Option Value × String)
def rx_gotx {σ : Type} (fin : σ → String → Prop) (w : σ) (rest : List Value) : Option (Prop × Prop × σ × Option Value × String) → Option (rx_R σ)
  | some (g, ok, w1, v, E) => some (.inr (ok ∧ g ∧ rx_sum rest ≤ 8, (g ∧ rx_sum rest ≤ 8) ∧ fin w E, w1, v.toList ++ rest))
  | none => none
def rx_hVx {σ : Type} (j n b : Nat) (fin : σ → String → Prop) (f : rx_Fx σ) : rx_E σ := fun w i st => match i with
  | .invokevirtual j' => bif j' == j then (match rx_pop n st [] with
    | some (as, .ref b' :: rest) => if b' = b then rx_gotx fin w rest (f w as) else none
    | _ => none) else none
  | _ => none
def rx_hSx {σ : Type} (j n : Nat) (fin : σ → String → Prop) (f : rx_Fx σ) : rx_E σ := fun w i st => match i with
  | .invokestatic j' => bif j' == j then (match rx_pop n st [] with
    | some (as, rest) => rx_gotx fin w rest (f w as)
    | _ => none) else none
  | _ => none
section TXO
variable {σ : Type} {p : Program} {l : Launch} {e : Env} {R : Room} {s : State} {m : MethodId} {args : Array Value} {below : List Frame} {meth : Method} {c : Code} {cc : ByteArray} {nL : Nat}
variable {K : State → Prop} {D : va_G} {cl : List vw_C} {A : Nat → Prop} {Wf : σ → va_W} {own : String} {Ts : List Cond} {W2 : va_W} {r : tx_R}
theorem rx_hVx_ok {j n b : Nat} {fin : σ → String → Prop} {f : rx_Fx σ} {y : MethodName} {ws : List Cond} {rm : Room} {C : String} {maxL : Nat} {bytes : ByteArray} {ret : Option FieldType}
    (S : CallFix p m c cc nL s args Ts own) (hf : rm.cells ≤ R.cells ∧ rm.slots ≤ R.slots) (tK : tr_K K) (hKs : K s) (hz : tz A s s.heap) (hnh : c.exceptionTable.isEmpty = true) (hlocks : meth.locks = false)
    (cw : CallW R s args own C j y bytes maxL ret ws rm rm.cells rm.slots n)
    (hM : ∀ (w : σ) (as : List Value) (g ok : Prop) (w1 : σ) (v : Option Value) (E : String), f w as = some (g, ok, w1, v, E) → g → (ok → tx l y ws rm K D cl A (.ref b :: as) (Wf w) (Wf w1) (.inl v)) ∧ (¬ ok → tx l y ws rm K D cl A (.ref b :: as) (Wf w) (Wf w) (.inr E)))
    (hfin : ∀ w E, fin w E → Wf w = W2 ∧ r = .inr E)
    (hrec : ∀ (w : σ) (H : Heap), va_P D cl (Wf w) H → ∃ cellB : Cell, H[b]? = some cellB ∧ cellB.vm.isStatics = false ∧ s.vm.findClass C = some cellB.cls) :
    rx_Eok (fun H locs g => W p l e R s m args below meth c H locs 0 0 (tx_MQ below D cl A W2 r args s) g) m cc nL (tr_I D cl A s Wf) (rx_hVx j n b fin f) := by
  intro w H locs pc ls i st q hI hs e1 hd
  unfold rx_hVx at e1
  split at e1
  · next j' =>
    cases hj : (j' == j) with
    | false => rw [hj] at e1; cases e1
    | true =>
      rw [hj] at e1
      have hj2 : j' = j := by simpa using hj
      subst hj2
      simp only [cond_true] at e1
      split at e1
      · next as b' rest hpop =>
        split at e1
        · next hb =>
          subst hb
          obtain ⟨bs, q1, q2, q3⟩ := rx_pop_eq _ _ _ _ _ hpop
          rw [List.append_nil] at q3
          cases ef : f w as with
          | none => rw [ef] at e1; cases e1
          | some z =>
            obtain ⟨g, ok, w1, v, E⟩ := z
            rw [ef] at e1
            cases e1
            intro kk hx
            have hzH : tz A s H := hz.kept hI.2.1 hI.2.2.1
            have hl1 : as.length = n := by rw [q3, List.length_reverse]; exact q1
            have hl2 : st = as.reverse ++ .ref b' :: rest := by rw [q3, List.reverse_reverse]; exact q2
            have hf0 : 0 + rm.cells ≤ R.cells ∧ 0 + rm.slots ≤ R.slots := by rw [Nat.zero_add, Nat.zero_add]; exact hf
            by_cases hok : ok ∧ g ∧ rx_sum rest ≤ 8
            · have hMy := (hM w as g ok w1 v E ef hok.2.1).1 hok.1
              refine tx_on (r1 := .inl v) (W3 := Wf w1) (len := 3) (rest := rest) hI.2 hnh hlocks (fun T hT X => tx_callV (g := F0 m pc ls st) S hMy tK hKs cw (hrec w H hI.1) hI.1 hzH rfl hl1 hs hl2 (by rw [rx_sum_eq]; show 2 * 0 + _ ≤ 8; omega) hd hf0 hT X) (fun E h => by cases h) (fun v' h H1 locs1 hi => ?_)
              cases h
              exact kk hok H1 locs1 hi
            · have hxx := hx hok
              have hnok : ¬ ok := fun h => hok ⟨h, hxx.1⟩
              have hMy := (hM w as g ok w1 v E ef hxx.1.1).2 hnok
              refine tx_on (r1 := .inr E) (W3 := Wf w) (len := 3) (rest := rest) hI.2 hnh hlocks (fun T hT X => tx_callV (g := F0 m pc ls st) S hMy tK hKs cw (hrec w H hI.1) hI.1 hzH rfl hl1 hs hl2 (by rw [rx_sum_eq]; show 2 * 0 + _ ≤ 8; have := hxx.1.2; omega) hd hf0 hT X) (fun E' h => ?_) (fun v' h => by cases h)
              cases h
              exact hfin w E hxx.2
        · cases e1
      · cases e1
  · cases e1
theorem rx_hSx_ok {j n : Nat} {fin : σ → String → Prop} {f : rx_Fx σ} {y : MethodName} {ws : List Cond} {rm : Room} {maxL : Nat} {bytes : ByteArray} {ret : Option FieldType}
    (S : CallFix p m c cc nL s args Ts own) (hf : rm.cells ≤ R.cells ∧ rm.slots ≤ R.slots) (tK : tr_K K) (hKs : K s) (hz : tz A s s.heap) (hnh : c.exceptionTable.isEmpty = true) (hlocks : meth.locks = false)
    (cw : CallB R s args own j y bytes maxL ret ws rm rm.cells rm.slots n ∧ (Cond.static y).before args s = true)
    (hM : ∀ (w : σ) (as : List Value) (g ok : Prop) (w1 : σ) (v : Option Value) (E : String), f w as = some (g, ok, w1, v, E) → g → (ok → tx l y ws rm K D cl A as (Wf w) (Wf w1) (.inl v)) ∧ (¬ ok → tx l y ws rm K D cl A as (Wf w) (Wf w) (.inr E)))
    (hfin : ∀ w E, fin w E → Wf w = W2 ∧ r = .inr E) :
    rx_Eok (fun H locs g => W p l e R s m args below meth c H locs 0 0 (tx_MQ below D cl A W2 r args s) g) m cc nL (tr_I D cl A s Wf) (rx_hSx j n fin f) := by
  intro w H locs pc ls i st q hI hs e1 hd
  unfold rx_hSx at e1
  split at e1
  · next j' =>
    cases hj : (j' == j) with
    | false => rw [hj] at e1; cases e1
    | true =>
      rw [hj] at e1
      have hj2 : j' = j := by simpa using hj
      subst hj2
      simp only [cond_true] at e1
      split at e1
      · next as rest hpop =>
        obtain ⟨bs, q1, q2, q3⟩ := rx_pop_eq _ _ _ _ _ hpop
        rw [List.append_nil] at q3
        cases ef : f w as with
        | none => rw [ef] at e1; cases e1
        | some z =>
          obtain ⟨g, ok, w1, v, E⟩ := z
          rw [ef] at e1
          cases e1
          intro kk hx
          have hzH : tz A s H := hz.kept hI.2.1 hI.2.2.1
          have hl1 : as.length = n := by rw [q3, List.length_reverse]; exact q1
          have hl2 : st = as.reverse ++ rest := by rw [q3, List.reverse_reverse]; exact q2
          have hf0 : 0 + rm.cells ≤ R.cells ∧ 0 + rm.slots ≤ R.slots := by rw [Nat.zero_add, Nat.zero_add]; exact hf
          by_cases hok : ok ∧ g ∧ rx_sum rest ≤ 8
          · have hMy := (hM w as g ok w1 v E ef hok.2.1).1 hok.1
            refine tx_on (r1 := .inl v) (W3 := Wf w1) (len := 3) (rest := rest) hI.2 hnh hlocks (fun T hT X => tx_callS (g := F0 m pc ls st) S hMy tK hKs cw hI.1 hzH rfl hl1 hs hl2 (by rw [rx_sum_eq]; show 2 * 0 + _ ≤ 8; omega) hd hf0 hT X) (fun E h => by cases h) (fun v' h H1 locs1 hi => ?_)
            cases h
            exact kk hok H1 locs1 hi
          · have hxx := hx hok
            have hnok : ¬ ok := fun h => hok ⟨h, hxx.1⟩
            have hMy := (hM w as g ok w1 v E ef hxx.1.1).2 hnok
            refine tx_on (r1 := .inr E) (W3 := Wf w) (len := 3) (rest := rest) hI.2 hnh hlocks (fun T hT X => tx_callS (g := F0 m pc ls st) S hMy tK hKs cw hI.1 hzH rfl hl1 hs hl2 (by rw [rx_sum_eq]; show 2 * 0 + _ ≤ 8; have := hxx.1.2; omega) hd hf0 hT X) (fun E' h => ?_) (fun v' h => by cases h)
            cases h
            exact hfin w E hxx.2
      · cases e1
  · cases e1
end TXO
