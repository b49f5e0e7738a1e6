/-! The law's own methods, that catch: they make at most one cell, of six slots. -/
def tw_Q (D : va_G) (cl : List vw_C) (A : Nat → Prop) (W2 : va_W) (v : Value) : Array Value → State → Outcome → State → Prop := fun _ st o t => va_P D cl W2 t.heap ∧ tx_F A st.heap t.heap ∧ o = .returned (some v) ∧ ∃ L : List Loc, FrameEnd st o t L 1 6 ∧ ∀ q ∈ L, A q.base
def tw (l : Launch) (y : MethodName) (ws : List Cond) (rm : Room) (K : State → Prop) (D : va_G) (cl : List vw_C) (A : Nat → Prop) (As : List Value) (W1 W2 : va_W) (v : Value) : Prop :=
  MetFree l y (headSpec ws rm) (tx_Pc K D cl A As W1) (fun _ _ _ _ _ => True) (tw_Q D cl A W2 v)
def tw_MQ (below : List Frame) (D : va_G) (cl : List vw_C) (A : Nat → Prop) (W2 : va_W) (v : Value) (a : Array Value) (s : State) : State → Prop := fun t => ∃ o, t.status = .running ∧ Ended t below o ∧ tw_Q D cl A W2 v a s o t
section TWM
variable {p : Program} {l : Launch} {e : Env} {R : Room} {s : State} {m : MethodId} {args : Array Value} {below : List Frame} {meth : Method} {c : Code} {H : Heap} {locs : List Loc} {cells slots : Nat} {Q : State → Prop} {g : JFrame}
theorem st_more {T : State} {c' s' : Nat} (h1 : cells ≤ c') (h2 : slots ≤ s') (X : Stand p l e R s m args below meth c T locs cells slots) : Stand p l e R s m args below meth c T locs c' s' := by
  obtain ⟨k1, k2, k3, k4, k5, k6⟩ := X.same
  exact ⟨X.admits, X.cas, X.clock, X.frames, X.room, X.hears, X.method, X.code, X.here, X.tail, X.warmed, X.limits, X.bytes, k1, k2, by omega, k4, by omega, k6⟩
theorem w_more {c' s' : Nat} (h1 : cells ≤ c') (h2 : slots ≤ s') (h : W p l e R s m args below meth c H locs c' s' Q g) : W p l e R s m args below meth c H locs cells slots Q g := fun T hT X => h T hT (st_more h1 h2 X)
variable {D : va_G} {cl : List vw_C} {A : Nat → Prop} {W1 W2 : va_W} {v : Value} {K : State → Prop} {Ts ws : List Cond} {cc bytes : ByteArray} {nL maxL index n : Nat} {own : String} {y : MethodName} {ret : Option FieldType} {hh : List (Nat × Nat × Nat × Nat)} {rm : Room} {As rest : List Value}
theorem tw_enter {ws' : List Cond}
    (hy : plainName y.cls = true) (hw : ws = Cond.codeWith y cc maxL ret hh :: ws') (hlen : (lg_sl As).length ≤ maxL)
    (body : ∀ (p : Program) (e : Env) (s : State) (m : MethodId) (below : List Frame) (meth : Method) (c : Code) (ls : Array Slot), CallFix p m c cc maxL s As.toArray ws y.cls → meth.sig.returnType = ret → K s → va_P D cl W1 s.heap → tz A s s.heap → c.exceptionTable.toList.map (fun h => (h.startPc, h.endPc, h.handlerPc, h.catchType)) = hh → meth.locks = false → lv_has ls maxL (lv_args 0 As) →
      W p l e rm s m As.toArray below meth c s.heap [] 0 0 (tw_MQ below D cl A W2 v As.toArray s) (F0 m 0 ls [])) : tw l y ws rm K D cl A As W1 W2 v := by
  refine MetFree.of_bodyS (code := cc) (maxLocals := maxL) (ret := ret) hy ?_ ?_
  · intro args s m h hn
    obtain ⟨m9, meth, c, hn9, h1, h2, h3, h4, -, h5, h6, -⟩ := Cond.codeWith_spec (atoms_spec (ws := ws) h _ (by rw [hw]; exact List.mem_cons_self))
    cases hn.symm.trans hn9
    exact ⟨meth, c, h1, h2, h3, h4, h5, h6⟩
  · intro p e s m args below meth c s₁ B hml hP _
    obtain ⟨rfl, hPs, hKs, hz⟩ := hP
    have hh0 : s₁.heap = s.heap := by rw [B.state]; rfl
    have hts := atoms_spec (ws := ws) B.pre
    have X := Stand.of_body B
    obtain ⟨m9, meth9, c9, hn9, h1, h2, -, -, h3, -⟩ := Cond.codeWith_spec (hts _ (by rw [hw]; exact List.mem_cons_self))
    cases B.named.symm.trans hn9
    cases X.method.symm.trans h1
    cases X.code.symm.trans h2
    have hl := lv_entry As hlen
    have hb := body p e s m below meth c (lg_sl As ++ List.replicate (maxL - (lg_sl As).length) Slot.unset).toArray ⟨B.exec, B.bytes, hml, findClass_of_methodNamed B.named, hts⟩ B.returns hKs hPs hz h3 B.notSynchronized hl
    obtain ⟨t, a1, o, b1, b2, b3⟩ := hb s₁ hh0 X
    refine ⟨t, o, ?_, b1, b2, b3⟩
    rw [lg_entry_eq]
    exact a1
theorem tw_back (hM : tw l y ws rm K D cl A As W1 W2 v) (tK : tr_K K) (hKs : K s) (hframes : rm.frames + 1 ≤ R.frames) (hlocals : 8 + (maxL + 11) + rm.locals ≤ R.locals)
    (hws : ∀ w ∈ ws, ∀ (a' : Array Value) (U : State), s.WarmedH U.vm → w.before a' U = true) (hcode : Cond.codeWith y bytes maxL ret hh ∈ ws) (hini : (Cond.initialized y.cls).before args s = true)
    {T : State} {len : Nat} {ig : Instr} {mk : MethodId} (X : Stand p l e R s m args below meth c T locs cells slots) (hg : g.method = m) (hsize : g.locals.size = c.maxLocals) (hdg : decode c.code g.pc = .ok (ig, len))
    (hW : 2 * g.monitorRoom + (g.stack.map fun v => v.category).sum ≤ 8) (hn : T.methodNamed? y = some mk) (hroom : cells + rm.cells ≤ R.cells ∧ slots + rm.slots ≤ R.slots) (hP : va_P D cl W1 T.heap) (hz : tz A s T.heap) :
    ∃ (T' : State) (L : List Loc), Stand p l e R s m args below meth c T' (locs ++ L) (cells + 1) (slots + 6) ∧ (∀ q ∈ L, A q.base) ∧ va_P D cl W2 T'.heap ∧ tx_F A T.heap T'.heap ∧ Steps p.tables e below (doInvoke e (T.setTop g) [] mk As.toArray).1 (T'.setTop { g with pc := g.pc + len, stack := v :: g.stack }) := by
  subst hg
  have hwT : ∀ w ∈ ws, w.before As.toArray T = true := fun w hw => hws w hw _ _ X.warmed
  have hiT : (Cond.initialized y.cls).before As.toArray T = true := word_at X.warmed (Or.inl (by first | rfl | simp [Cond.onTables, Cond.keeps, Cond.steady])) hini
  obtain ⟨m9, methY, cY, hn9, hmY, hcY, -, hlY, -⟩ := Cond.codeWith_spec (hwT _ hcode)
  cases hn.symm.trans hn9
  obtain ⟨kY, hkY, -⟩ := className_of_methodNamed hn
  have hinitY : kY.init = .initialized := Cond.initialized_spec (findClass_of_methodNamed hn) hkY hiT
  have h : At T g.method c below := X.here
  have happ : (headSpec ws rm).appliesLoose y e.platform (T.calling g mk As.toArray) = true :=
    Spec.appliesLoose_calling (g := g) h hdg hn hkY hinitY (X.room_calling (g := g) (R' := rm) hsize hmY hcY hframes (by rw [hlY]; omega) hroom.1 hroom.2) (atoms_intro hwT)
  obtain ⟨mid, hmid⟩ := h.above
  have hfr : (T.setTop g).frames = (.java g :: mid) ++ below := by rw [State.frames_setTop' g h.top, hmid]; rfl
  have hPc : tx_Pc K D cl A As W1 As.toArray (T.calling g mk As.toArray) := ⟨rfl, hP, tK.1 T g mk _ (tK.2 s T X.warmed hKs), hz.moved X.warmed.alike⟩
  obtain ⟨o, s₂, hsteps, -, hend, hq⟩ := Steps.callFree hM p X.admits X.cas X.clock (acts := []) hfr happ hPc trivial
  rw [State.frames_setTop' g h.top] at hend
  obtain ⟨hp2, hf2, rfl, L, ⟨-, hW2, hsm⟩, hL⟩ := hq
  obtain ⟨g₀, hg0⟩ := Option.isSome_iff_exists.mp h.top
  obtain ⟨r0, hr0⟩ := State.topJava?_eq_some.mp hg0
  have hsm : (T.calling g mk As.toArray).sameButNew ({ s₂ with vm := (T.calling g mk As.toArray).vm } : State) L 1 6 := hsm
  obtain ⟨e2, k2, k3, k4, k5, k6⟩ := hsm
  have hWT : T.WarmedH s₂.vm := hW2
  have X2 : Stand p l e R s g.method args below meth c (({ T with heap := s₂.heap, slotsUsed := s₂.slotsUsed } : State).setVm s₂.vm) (locs ++ L) (cells + 1) (slots + 6) := by
    refine X.moved ((h.setHeapUsed s₂.heap s₂.slotsUsed).setVm hWT.alike) X.tail rfl rfl hWT ?_
    refine ⟨?_, k2, k3, k4, k5, k6⟩
    obtain ⟨t, ht, -⟩ := State.frames_cons hr0
    show ({ T with heap := s₂.heap, slotsUsed := s₂.slotsUsed } : State) = { T.setFrames T.frames with heap := s₂.heap, slotsUsed := s₂.slotsUsed }
    rw [State.setFrames_self ht]
  have e3 : s₂ = ({ (T.calling g mk As.toArray).setFrames s₂.frames with heap := s₂.heap, slotsUsed := s₂.slotsUsed } : State).setVm s₂.vm := by
    have e9 : s₂ = ({ s₂ with vm := (T.calling g mk As.toArray).vm } : State).setVm s₂.vm := rfl
    rw [e2] at e9
    exact e9
  have hr' : (({ T with heap := s₂.heap, slotsUsed := s₂.slotsUsed } : State).setVm s₂.vm).frames = .java g₀ :: r0 := hr0
  obtain ⟨c₂, i₂, len₂, hc₂, hd₂, hf₂⟩ := hend
  have hcc : c₂ = c := by
    have h1 : s₂.code? g.method = T.code? g.method := by rw [State.code?_eq, State.code?_eq, hWT.alike.method?]
    exact Option.some.inj (hc₂.symm.trans (h1.trans h.code))
  subst hcc
  have hlen : len₂ = len := by rw [hdg] at hd₂; cases hd₂; rfl
  subst hlen
  refine ⟨_, L, X2, hL, hp2, hf2, ?_⟩
  have e4 : s₂ = (({ T with heap := s₂.heap, slotsUsed := s₂.slotsUsed } : State).setVm s₂.vm).setTop { g with pc := g.pc + len₂, stack := v :: g.stack } := by
    refine e3.trans ?_
    rw [hf₂, State.calling_eq h.top, State.setFrames_setFrames, State.setTop_of_frames _ hr', hr0]
    rfl
  rw [← e4]
  exact hsteps
/-- what a static call of such a method owes -/
def tw_C (R : Room) (s : State) (args : Array Value) (own : String) (index : Nat) (y : MethodName) (bytes : ByteArray) (maxL : Nat) (ret : Option FieldType) (hh : List (Nat × Nat × Nat × Nat)) (ws : List Cond) (rm : Room) (n : Nat) : Prop :=
  (rm.frames + 1 ≤ R.frames ∧ 8 + (maxL + 11) + rm.locals ≤ R.locals) ∧ (∀ w ∈ ws, ∀ (a' : Array Value) (U : State), s.WarmedH U.vm → w.before a' U = true) ∧ Cond.codeWith y bytes maxL ret hh ∈ ws ∧ (Cond.codeWith y bytes maxL ret hh).before args s = true ∧ (Cond.initialized y.cls).before args s = true ∧ (y.cls ≠ "java/lang/invoke/MethodHandle" ∧ y.cls ≠ "java/lang/invoke/VarHandle") ∧ (∀ sig, parseMethodDescriptor y.desc = some sig → n = sig.parameters.length) ∧ (Cond.methodLink own index y).before args s = true ∧ (Cond.static y).before args s = true
theorem tw_C_of {ws' : List Cond} (n : Nat) (ht : ∀ w ∈ Ts, w.before args s = true) (hT : GoodIn Ts (va_wsS own index y ws)) (hw : ws = Cond.codeWith y bytes maxL ret hh :: ws')
    (hd : y.cls ≠ "java/lang/invoke/MethodHandle" ∧ y.cls ≠ "java/lang/invoke/VarHandle" ∧ (parseMethodDescriptor y.desc).map (fun d => d.parameters.length) = some n) (hR : rm.frames + 1 ≤ R.frames ∧ 8 + (maxL + 11) + rm.locals ≤ R.locals) : tw_C R s args own index y bytes maxL ret hh ws rm n := by
  have ok : ∀ w ∈ va_wsS own index y ws, w.before args s = true := fun w h => ht w (hT w h).1
  have hG : GoodIn Ts ws := fun w h => hT w (by unfold va_wsS; exact List.mem_append_right _ h)
  have hc : Cond.codeWith y bytes maxL ret hh ∈ ws := by rw [hw]; exact List.mem_cons_self
  refine ⟨hR, pay_in ht hG, hc, ht _ (hG _ hc).1, ok _ (by simp [va_wsS]), ⟨hd.1, hd.2.1⟩, fun sig h => ?_, ok _ (by simp [va_wsS]), ok _ (by simp [va_wsS])⟩
  have h2 := hd.2.2
  rw [h] at h2
  exact (Option.some.inj h2).symm
theorem tw_callS {pc : Nat} {ls : Array Slot} {st : List Value} (S : CallFix p m c cc nL s args Ts own) (hM : tw l y ws rm K D cl A As W1 W2 v) (tK : tr_K K) (hKs : K s) (cw : tw_C R s args own index y bytes maxL ret hh ws rm n) (hP : va_P D cl W1 H) (hz : tz A s H)
    (hn : As.length = n) (hsize : ls.size = nL) (hstack : st = As.reverse ++ rest) (hW : (rest.map fun v => v.category).sum ≤ 8) (hdg : decode cc pc = .ok (.invokestatic index, 3)) (hf : cells + rm.cells ≤ R.cells ∧ slots + rm.slots ≤ R.slots)
    (kk : ∀ (H1 : Heap) (L : List Loc), va_P D cl W2 H1 → tx_F A H H1 → (∀ q ∈ L, A q.base) → W p l e R s m args below meth c H1 (locs ++ L) (cells + 1) (slots + 6) Q (F0 m (pc + 3) ls (v :: rest))) : W p l e R s m args below meth c H locs cells slots Q (F0 m pc ls st) := by
  intro T hT X
  obtain ⟨⟨hfr, hlo⟩, hws, hcw, hcode, hini, hy, hlen, hlink, hst⟩ := cw
  obtain ⟨hx, rfl, hml, hown, -⟩ := S
  subst hT
  obtain ⟨mk, methM, cM, hnamed, hmethM, -, -, -, -, -, -, hsigM⟩ := Cond.codeWith_spec hcode
  have hstatic : methM.isStatic = true := Cond.static_spec hnamed hmethM hst
  obtain ⟨kP, hkP, -⟩ := className_of_methodNamed hnamed
  have hinitP : kP.init = .initialized := Cond.initialized_spec (findClass_of_methodNamed hnamed) hkP hini
  obtain ⟨vm₁, X₁, hstep⟩ := X.invokestatic hx hown hlink hnamed hmethM hstatic hkP hinitP hy (g := F0 m pc ls st) rfl (argsL := As) (rest := rest) (hn.trans (hlen _ hsigM)) hstack hdg
  obtain ⟨T', L, XT, hL, hP2, hF2, hsteps⟩ := tw_back (T := T.setVm vm₁) (g := F0 m pc ls rest) (ig := .invokestatic index) (len := 3) hM tK hKs hfr hlo hws hcw hini X₁ rfl (hsize.trans hml.symm) hdg (by show 2 * 0 + _ ≤ 8; rw [Nat.zero_add]; exact hW) (X₁.named hnamed) hf hP hz
  obtain ⟨t2, a1, b1⟩ := kk T'.heap L hP2 hF2 hL T' rfl XT
  refine ⟨t2, hstep _ fun acts => ?_, b1⟩
  rw [doInvoke_state]
  exact hsteps.trans a1
end TWM
