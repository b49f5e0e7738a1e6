/-! Catching: a search through rows that all hold the pc and name classes, cold or warm. -/
def kc (pl : Platform) (s : State) (d t : ClassId) (pc h : Nat) : List ExceptionTableEntry → Prop
  | [] => False
  | x :: r => covers x pc = true ∧ x.catchType ≠ 0 ∧ ∃ c, s.vm.ClassLinks pl d x.catchType c ∧ ((s.vm.assignable t c = true ∧ h = x.handlerPc) ∨ (s.vm.assignable t c = false ∧ kc pl s d t pc h r))
theorem kc_go {e : Env} {s : State} {f : JFrame} {a : Addr} {ce : Cell} {h : Nat} (hv : ce.vm = .none) (hk : ∃ k, s.vm.classes[ce.cls]? = some k) : ∀ (rows : List ExceptionTableEntry) (S : State), s.WarmedH S.vm → S.heap[a]? = some ce → kc e.platform s f.method.cls ce.cls f.pc h rows → ∃ vm', s.WarmedH vm' ∧ ∀ (Q : Handler → Pre) (E : CtlPost) (d : Bool) (acts : List Action), wp (findHandler.go f a rows) Q E e d acts S ↔ Q (.found h) d acts (S.setVm vm')
  | [], _, _, _, hc => absurd hc id
  | x :: r, S, hW, hce, hc => by
    obtain ⟨h1, h2, c, hl, hc⟩ := hc
    obtain ⟨dk, _, _, kt, hd, _, _, _, _, hkt, _, hopen⟩ := hl.here
    obtain ⟨ka, hka⟩ := hk
    have hW1 : s.WarmedH (S.vm.noted f.method.cls x.catchType (.cls c)) := hW.noted hd hopen (State.rightAt_cls hl)
    obtain ⟨k1, hk1, -⟩ := hW1.alike.2.2 _ _ hka
    obtain ⟨k2, hk2, -⟩ := hW1.alike.2.2 _ _ hkt
    obtain ⟨ha, ht⟩ := (resolveClass_links e.toSetting (hW.classLinks hl)).op (op := VmOp.resolveClass f.method.cls x.catchType) rfl
    have es : (S.vm.noted f.method.cls x.catchType (.cls c)).assignable ce.cls c = s.vm.assignable ce.cls c := by rw [hW1.alike.assignable]
    have ho : ∀ k, ce.vm ≠ .statics k := fun k q => by rw [hv] at q; cases q
    simp only [covers] at h1
    rcases hc with ⟨hy, rfl⟩ | ⟨hn, hr⟩
    · rw [hy] at es
      exact ⟨_, hW1, fun Q E d acts => by simp [findHandler.go, h1, h2, ha, ht, hce, ho, hk1, hk2, es, VmOp.dirties, VmOp.acts]⟩
    · rw [hn] at es
      obtain ⟨vm', hW', hq⟩ := kc_go hv ⟨ka, hka⟩ r (S.setVm (S.vm.noted f.method.cls x.catchType (.cls c))) hW1 hce hr
      refine ⟨vm', hW', fun Q E d acts => Iff.trans ?_ (hq Q E d acts)⟩
      simp [findHandler.go, h1, h2, ha, ht, hce, ho, hk1, hk2, es, VmOp.dirties, VmOp.acts]
section KC
variable {p : Program} {l : Launch} {e : Env} {R : Room} {s : State} {m : MethodId} {sargs : Array Value} {below : List Frame} {meth : Method} {c : Code} {T : State} {locs : List Loc} {cells slots : Nat}
theorem kc_caught (X : Stand p l e R s m sargs below meth c T locs cells slots) {q : Addr} {g : JFrame} {ce : Cell} {h : Nat} (hg : g.method = m) (hce : T.heap[q]? = some ce) (hv : ce.vm = .none) (hk : ∃ k, s.vm.classes[ce.cls]? = some k) (hc : kc e.platform s m.cls ce.cls g.pc h c.exceptionTable.toList) :
    ∃ vm', Stand p l e R s m sargs below meth c (T.setVm vm') locs cells slots ∧ Steps p.tables e below ((T.setTop g).pushFrame (.throwing q)) ((T.setVm vm').setTop { g with pc := h, stack := [.ref q] }) := by
  subst hg
  obtain ⟨vm', hW', hq⟩ := kc_go hv hk _ ((T.setTop g).pushFrame (.throwing q)) X.warmed hce hc
  refine ⟨vm', X.noted hW', ?_⟩
  obtain ⟨hgo, hw⟩ := X.here.throwing q
  refine Steps.head hgo hw ?_
  obtain ⟨g₀, hg0⟩ := Option.isSome_iff_exists.mp X.here.top
  obtain ⟨r, hr⟩ := State.topJava?_eq_some.mp hg0
  have hr' : (T.setVm vm').frames = .java g₀ :: r := hr
  have key : (stepThrowing e ((T.setTop g).pushFrame (.throwing q)) q (.java g :: T.frames.tail)).1 = (((T.setTop g).pushFrame (.throwing q)).setVm vm').setFrames (.java { g with pc := h, stack := [.ref q] } :: T.frames.tail) := by
    simp only [stepThrowing, searchFrame, vmDo]
    generalize hz : Sem.go _ e false [] _ = res
    obtain ⟨as, rfl, ha⟩ := Sem.eq_ok_of hz (a := Handler.found h) (s' := ((T.setTop g).pushFrame (.throwing q)).setVm vm') (acts' := []) (by simp [W.findHandler_eq (s := (T.setTop g).pushFrame (.throwing q)) (f := g) X.method' X.code, hq])
    rfl
  rw [stepThread_throwing (frames_entered X.here.top _), key, State.setTop_of_frames _ hr', hr, List.tail_cons]
  have e1 : (((T.setTop g).pushFrame (.throwing q)).setVm vm').setFrames (.java { g with pc := h, stack := [.ref q] } :: r) = (T.setVm vm').setFrames (.java { g with pc := h, stack := [.ref q] } :: r) := by
    rw [State.pushFrame, State.setTop_of_frames _ hr, State.setFrames_setFrames]
    have e2 : ∀ F : List Frame, (T.setFrames F).setVm vm' = (T.setVm vm').setFrames F := fun _ => rfl
    rw [e2, State.setFrames_setFrames]
  rw [e1]
  exact Steps.refl _
end KC
/-- objects of the class E aren't of the class N -/
def kn (E N : String) (s : State) : Prop := ∃ a b : ClassId, s.vm.findClass E = some a ∧ s.vm.findClass N = some b ∧ s.vm.assignable a b = false
theorem kn_moved {E N : String} {s U : State} (hv : s.vm.Alike U.vm) (h : kn E N s) : kn E N U := by
  obtain ⟨a, b, h1, h2, h3⟩ := h
  exact ⟨a, b, by rw [hv.findClass]; exact h1, by rw [hv.findClass]; exact h2, by rw [hv.assignable]; exact h3⟩
theorem kn_of {E N : String} {a : Array Value} {s : State} (h : (Cond.not (.castable E N)).before a s = true) : kn E N s := by
  have hv := Cond.holds_not_iff.mp h
  cases h1 : s.vm.findClass E with
  | none => simp [Cond.value, h1] at hv
  | some x =>
    cases h2 : s.vm.findClass N with
    | none => simp [Cond.value, h1, h2] at hv
    | some z =>
      simp only [Cond.value, h1, h2] at hv
      exact ⟨x, z, h1, h2, Option.some.inj hv⟩
/-- the same search, told by words: rows as the word 'codeWith' has them -/
def kq (s : State) (a : Array Value) (own E : String) (pc h : Nat) : List (Nat × Nat × Nat × Nat) → Prop
  | [] => False
  | (b, e, hp, ct) :: r => (b ≤ pc ∧ pc < e) ∧ ct ≠ 0 ∧ ∃ N, (Cond.classLink own ct N).before a s = true ∧ ((N = E ∧ h = hp) ∨ (kn E N s ∧ kq s a own E pc h r))
theorem kc_of {pl : Platform} (hpl : pl.magicAccessors = ({} : Platform).magicAccessors) {s : State} {a : Array Value} {own E : String} {d t : ClassId} {pc h : Nat} (hd : s.vm.findClass own = some d) (ht : s.vm.findClass E = some t) : ∀ (rows : List ExceptionTableEntry) (hh : List (Nat × Nat × Nat × Nat)), rows.map (fun h => (h.startPc, h.endPc, h.handlerPc, h.catchType)) = hh → kq s a own E pc h hh → kc pl s d t pc h rows
  | [], _, e, hq => by
    subst e
    exact hq
  | x :: r, _, e, hq => by
    subst e
    obtain ⟨h1, h2, N, hl, hq⟩ := hq
    obtain ⟨cN, hN, hcl⟩ := Cond.classLink_spec hd hl pl hpl
    refine ⟨by simp [covers, h1.1, h1.2], h2, cN, hcl, ?_⟩
    rcases hq with ⟨rfl, rfl⟩ | ⟨hno, hr⟩
    · cases ht.symm.trans hN
      refine Or.inl ⟨?_, rfl⟩
      show s.vm.assignableAux (255 + 1) t t = true
      rw [Vm.assignableAux]
      simp
    · obtain ⟨x, z, a1, a2, a3⟩ := hno
      cases ht.symm.trans a1
      cases hN.symm.trans a2
      exact Or.inr ⟨a3, kc_of hpl hd ht r _ rfl hr⟩
