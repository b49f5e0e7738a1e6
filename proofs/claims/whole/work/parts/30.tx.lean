/-! Exceptions: contracts of methods that may throw; how a throw leaves. A contract tells, for one state and arguments, what comes: an answer, or an exception's class. -/
abbrev tx_R : Type := Option Value ⊕ String
def tz_ws : List Cond := [.isRef (.static Bundle.tN "UNASSIGNED_STACK" Bundle.steD), .isRef (.static Bundle.tN "SUPPRESSED_SENTINEL" Bundle.listD), .laysStatic Bundle.tN "UNASSIGNED_STACK" Bundle.steD, .laysStatic Bundle.tN "SUPPRESSED_SENTINEL" Bundle.listD]
/-- the words of Throwable's statics: one cell tells them, and it lies outside A -/
def tz (A : Nat → Prop) (s : State) (H : Heap) : Prop := ∃ aS : Nat, aS < H.size ∧ ¬ A aS ∧ ∀ (U : State) (a : Array Value), s.vm.Alike U.vm → U.heap[aS]? = H[aS]? → ∀ w ∈ tz_ws, w.before a U = true
theorem tz.moved {A : Nat → Prop} {s U : State} {H : Heap} (hv : s.vm.Alike U.vm) (h : tz A s H) : tz A U H := by
  obtain ⟨aS, h1, h2, h3⟩ := h
  exact ⟨aS, h1, h2, fun V a hV => h3 V a (hv.trans hV)⟩
theorem tz.kept {A : Nat → Prop} {s : State} {H H1 : Heap} (h : tz A s H) (hs : H.size ≤ H1.size) (hq : ∀ q : Nat, q < H.size → ¬ A q → H1[q]? = H[q]?) : tz A s H1 := by
  obtain ⟨aS, h1, h2, h3⟩ := h
  exact ⟨aS, Nat.lt_of_lt_of_le h1 hs, h2, fun V a hV e => h3 V a hV (e.trans (hq aS h1 h2))⟩
theorem tz.narrow {A B : Nat → Prop} {s : State} {H : Heap} (h : tz A s H) (hAB : ∀ q, B q → A q) : tz B s H := by
  obtain ⟨aS, h1, h2, h3⟩ := h
  exact ⟨aS, h1, fun z => h2 (hAB _ z), h3⟩
theorem tz.word {A : Nat → Prop} {s : State} {a : Array Value} (h : tz A s s.heap) {w : Cond} (hw : w ∈ tz_ws) : w.before a s = true := by
  obtain ⟨aS, h1, h2, h3⟩ := h
  exact h3 s a (Vm.Alike.refl s.vm) rfl w hw
def tx_F (A : Nat → Prop) (H H1 : Heap) : Prop := H.size ≤ H1.size ∧ ∀ q : Nat, q < H.size → ¬ A q → H1[q]? = H[q]?
theorem tx_F.tz {A : Nat → Prop} {s : State} {H H1 : Heap} (h : tx_F A H H1) (hz : tz A s H) : _root_.Jvm.Pilot.CFileJudgeLaw_law_r5696_267bc5.tz A s H1 := hz.kept h.1 h.2
theorem tx_F.S {A : Nat → Prop} {H0 H H1 : Heap} {locs L : List Loc} (h : tx_F A H H1) (hS : va_S A H0 H locs) (hL : ∀ q ∈ L, A q.base) : va_S A H0 H1 (locs ++ L) := by
  refine ⟨Nat.le_trans hS.1 h.1, fun q h1 h2 => (h.2 q (Nat.lt_of_lt_of_le h1 hS.1) h2).trans (hS.2.1 q h1 h2), fun q hq => ?_⟩
  rcases List.mem_append.mp hq with z | z
  · exact hS.2.2 q z
  · exact hL q z
def tx_Pc (K : State → Prop) (D : va_G) (cl : List vw_C) (A : Nat → Prop) (As : List Value) (W1 : va_W) : Array Value → State → Prop := fun a U => a = As.toArray ∧ va_P D cl W1 U.heap ∧ K U ∧ tz A U U.heap
/-- what comes, from the state st -/
def tx_Q (D : va_G) (cl : List vw_C) (A : Nat → Prop) (W2 : va_W) (r : tx_R) : Array Value → State → Outcome → State → Prop := fun _ st o t => va_P D cl W2 t.heap ∧ tx_F A st.heap t.heap ∧ match r with
  | .inl v => o = .returned v ∧ ∃ L : List Loc, FrameEnd st o t L 0 0 ∧ ∀ q ∈ L, A q.base
  | .inr E => ∃ (q : Addr) (ce : Cell) (L : List Loc), o = .threw q ∧ t.heap[q]? = some ce ∧ ce.vm = .none ∧ st.vm.findClass E = some ce.cls ∧ st.WarmedH t.vm ∧ st.sameButNew ({ t with vm := st.vm } : State) L 1 6 ∧ ∀ z ∈ L, A z.base
def tx (l : Launch) (y : MethodName) (ws : List Cond) (rm : Room) (K : State → Prop) (D : va_G) (cl : List vw_C) (A : Nat → Prop) (As : List Value) (W1 W2 : va_W) (r : tx_R) : Prop :=
  MetFree l y (headSpec ws rm) (tx_Pc K D cl A As W1) (fun _ _ _ _ _ => True) (tx_Q D cl A W2 r)
section TXB
variable {p : Program} {l : Launch} {e : Env} {R : Room} {s : State} {m : MethodId} {sargs : Array Value} {below : List Frame} {meth : Method} {c : Code}
/-- where a call has come to, from the heap H: behind it, or with a note of its exception over the frame -/
def tx_To (p : Program) (l : Launch) (e : Env) (R : Room) (s : State) (m : MethodId) (sargs : Array Value) (below : List Frame) (meth : Method) (c : Code) (D : va_G) (cl : List vw_C) (A : Nat → Prop) (W2 : va_W) (r : tx_R) (H : Heap) (locs : List Loc) (cells slots : Nat) (g : JFrame) (len : Nat) (st : State) : Prop := match r with
  | .inl v => ∃ (T' : State) (L : List Loc), Stand p l e R s m sargs below meth c T' (locs ++ L) cells slots ∧ (∀ q ∈ L, A q.base) ∧ va_P D cl W2 T'.heap ∧ tx_F A H T'.heap ∧ Steps p.tables e below st (T'.setTop { g with pc := g.pc + len, stack := v.toList ++ g.stack })
  | .inr E => ∃ (q : Addr) (ce : Cell) (T' : State) (L : List Loc), Stand p l e R s m sargs below meth c T' (locs ++ L) (cells + 1) (slots + 6) ∧ (∀ z ∈ L, A z.base) ∧ va_P D cl W2 T'.heap ∧ tx_F A H T'.heap ∧ T'.heap[q]? = some ce ∧ ce.vm = .none ∧ s.vm.findClass E = some ce.cls ∧ Steps p.tables e below st ((T'.setTop g).pushFrame (.throwing q))
theorem tx_back {y : MethodName} {ws : List Cond} {rm : Room} {K : State → Prop} {D : va_G} {cl : List vw_C} {A : Nat → Prop} {As : List Value} {W1 W2 : va_W} {r : tx_R} {bytes : ByteArray} {maxL : Nat} {ret : Option FieldType}
    (hM : tx l y ws rm K D cl A As W1 W2 r) (tK : tr_K K) (hKs : K s) (hframes : rm.frames + 1 ≤ R.frames) (hlocals : 8 + (maxL + 11) + rm.locals ≤ R.locals)
    (hws : ∀ w ∈ ws, ∀ (a' : Array Value) (U : State), s.WarmedH U.vm → w.before a' U = true) (hcode : Cond.code y bytes maxL ret ∈ ws) (hini : (Cond.initialized y.cls).before sargs s = true)
    {T : State} {locs : List Loc} {cells slots len : Nat} {g : JFrame} {ig : Instr} {mk : MethodId} (X : Stand p l e R s m sargs below meth c T locs cells slots) (hg : g.method = m) (hsize : g.locals.size = c.maxLocals) (hdg : decode c.code g.pc = .ok (ig, len))
    (hW : 2 * g.monitorRoom + (g.stack.map fun v => v.category).sum ≤ 8) (hn : T.methodNamed? y = some mk) (hroom : cells + rm.cells ≤ R.cells ∧ slots + rm.slots ≤ R.slots) (hP : va_P D cl W1 T.heap) (hz : tz A s T.heap) :
    tx_To p l e R s m sargs below meth c D cl A W2 r T.heap locs cells slots g len (doInvoke e (T.setTop g) [] mk As.toArray).1 := by
  subst hg
  have hwT : ∀ w ∈ ws, w.before As.toArray T = true := fun w hw => hws w hw _ _ X.warmed
  have hiT : (Cond.initialized y.cls).before As.toArray T = true := word_at X.warmed (Or.inl (by first | rfl | simp [Cond.onTables, Cond.keeps, Cond.steady])) hini
  obtain ⟨methY, cY, hmY, hcY, -, hlY, -, -, -, -⟩ := Cond.code_spec hn (hwT _ hcode)
  obtain ⟨kY, hkY, -⟩ := className_of_methodNamed hn
  have hinitY : kY.init = .initialized := Cond.initialized_spec (findClass_of_methodNamed hn) hkY hiT
  have h : At T g.method c below := X.here
  have happ : (headSpec ws rm).appliesLoose y e.platform (T.calling g mk As.toArray) = true :=
    Spec.appliesLoose_calling (g := g) h hdg hn hkY hinitY (X.room_calling (g := g) (R' := rm) hsize hmY hcY hframes (by rw [hlY]; omega) hroom.1 hroom.2) (atoms_intro hwT)
  obtain ⟨mid, hmid⟩ := h.above
  have hfr : (T.setTop g).frames = (.java g :: mid) ++ below := by rw [State.frames_setTop' g h.top, hmid]; rfl
  have hPc : tx_Pc K D cl A As W1 As.toArray (T.calling g mk As.toArray) := ⟨rfl, hP, tK.1 T g mk _ (tK.2 s T X.warmed hKs), hz.moved X.warmed.alike⟩
  obtain ⟨o, s₂, hsteps, -, hend, hq⟩ := Steps.callFree hM p X.admits X.cas X.clock (acts := []) hfr happ hPc trivial
  rw [State.frames_setTop' g h.top] at hend
  obtain ⟨hp2, hf2, hr⟩ := hq
  obtain ⟨g₀, hg0⟩ := Option.isSome_iff_exists.mp h.top
  obtain ⟨r0, hr0⟩ := State.topJava?_eq_some.mp hg0
  have mkS : ∀ (L : List Loc) (k n : Nat), (T.calling g mk As.toArray).WarmedH s₂.vm → (T.calling g mk As.toArray).sameButNew ({ s₂ with vm := (T.calling g mk As.toArray).vm } : State) L k n →
      Stand p l e R s g.method sargs below meth c (({ T with heap := s₂.heap, slotsUsed := s₂.slotsUsed } : State).setVm s₂.vm) (locs ++ L) (cells + k) (slots + n) ∧ s₂ = ({ (T.calling g mk As.toArray).setFrames s₂.frames with heap := s₂.heap, slotsUsed := s₂.slotsUsed } : State).setVm s₂.vm := by
    intro L k n hW2 hsm
    obtain ⟨e2, k2, k3, k4, k5, k6⟩ := hsm
    have hWT : T.WarmedH s₂.vm := hW2
    refine ⟨X.moved ((h.setHeapUsed s₂.heap s₂.slotsUsed).setVm hWT.alike) X.tail rfl rfl hWT ?_, ?_⟩
    · refine ⟨?_, k2, k3, k4, k5, k6⟩
      obtain ⟨t, ht, -⟩ := State.frames_cons hr0
      show ({ T with heap := s₂.heap, slotsUsed := s₂.slotsUsed } : State) = { T.setFrames T.frames with heap := s₂.heap, slotsUsed := s₂.slotsUsed }
      rw [State.setFrames_self ht]
    · have e9 : s₂ = ({ s₂ with vm := (T.calling g mk As.toArray).vm } : State).setVm s₂.vm := rfl
      rw [e2] at e9
      exact e9
  have hr' : (({ T with heap := s₂.heap, slotsUsed := s₂.slotsUsed } : State).setVm s₂.vm).frames = .java g₀ :: r0 := hr0
  cases r with
  | inl v =>
    obtain ⟨rfl, L, ⟨-, hW2, hsm⟩, hL⟩ := hr
    obtain ⟨X2, e3⟩ := mkS L 0 0 hW2 hsm
    obtain ⟨c₂, i₂, len₂, hc₂, hd₂, hf₂⟩ := hend
    have hWT : T.WarmedH s₂.vm := hW2
    have hcc : c₂ = c := by
      have h1 : s₂.code? g.method = T.code? g.method := by rw [State.code?_eq, State.code?_eq, hWT.alike.method?]
      exact Option.some.inj (hc₂.symm.trans (h1.trans h.code))
    subst hcc
    have hlen : len₂ = len := by rw [hdg] at hd₂; cases hd₂; rfl
    subst hlen
    refine ⟨_, L, X2, hL, hp2, hf2, ?_⟩
    have e4 : s₂ = (({ T with heap := s₂.heap, slotsUsed := s₂.slotsUsed } : State).setVm s₂.vm).setTop { g with pc := g.pc + len₂, stack := v.toList ++ g.stack } := by
      refine e3.trans ?_
      rw [hf₂, State.calling_eq h.top, State.setFrames_setFrames, State.setTop_of_frames _ hr', hr0]
      rfl
    rw [← e4]
    exact hsteps
  | inr E =>
    obtain ⟨q, ce, L, rfl, hce, hcv, hcl, hW2, hsm, hL⟩ := hr
    obtain ⟨X2, e3⟩ := mkS L 1 6 hW2 hsm
    have hf₂ : s₂.frames = .throwing q :: .java g :: T.frames.tail := hend
    have hcl' : s.vm.findClass E = some ce.cls := by
      have h1 : T.vm.findClass E = some ce.cls := hcl
      rw [X.warmed.alike.findClass] at h1
      exact h1
    refine ⟨q, ce, _, L, X2, hL, hp2, hf2, hce, hcv, hcl', ?_⟩
    have e4 : s₂ = ((({ T with heap := s₂.heap, slotsUsed := s₂.slotsUsed } : State).setVm s₂.vm).setTop g).pushFrame (.throwing q) := by
      refine e3.trans ?_
      rw [hf₂, State.calling_eq h.top, State.setFrames_setFrames, State.pushFrame, State.frames_setTop _ hr', State.setTop_of_frames _ hr', State.setFrames_setFrames, hr0]
      rfl
    rw [← e4]
    exact hsteps
end TXB
