/-! From a run to a contract of a method that may throw. -/
theorem tk_warm {w : Cond} {a a' : Array Value} {s U : State} (ho : w.onTables = true) (hok : w.warmOk s) (hW : s.WarmedH U.vm) (h : w.before a s = true) : w.before a' U = true := by
  have h1 := Cond.before_warmed hW w hok h
  rw [Cond.onTables_vm (A' := a') (U' := U) U.vm w ho, State.setVm_self] at h1
  exact h1
theorem tr_K_words {L : List Cond} (h : ∀ w ∈ L, w.onTables = true ∧ ∀ s, w.warmOk s) : tr_K (fun U => ∀ w ∈ L, w.before #[] U = true) :=
  ⟨fun U g mk a hU w hw => tk_warm (s := U) (U := U.calling g mk a) (h w hw).1 ((h w hw).2 U) (State.WarmedH.refl U) (hU w hw), fun s U hW hs w hw => tk_warm (h w hw).1 ((h w hw).2 s) hW (hs w hw)⟩
theorem tr_K_str {own : String} {L : List (Nat × String)} : tr_K (fun U => ∀ q ∈ L, ∃ a, vk_R own q.1 q.2 a U) :=
  ⟨fun U g mk a hU q hq => (hU q hq).imp fun a h => vk_R.same rfl h, fun s U hW hs q hq => (hs q hq).imp fun a h => vk_R.warm hW h⟩
section TXW
variable {p : Program} {l : Launch} {e : Env} {R : Room} {s : State} {m : MethodId} {args : Array Value} {below : List Frame} {meth : Method} {c : Code} {D : va_G} {cl : List vw_C} {A : Nat → Prop} {W1 : va_W}
theorem tx_throw {cc : ByteArray} {pc : Nat} {ls : Array Slot} (hexec : p.tables.exec = Jvm.exec) (hb : c.code = cc) (hl : l.stackTraces = false) {own cls text : String} {ik is ic i1 sa : Nat} {b1 : ByteArray}
    (hown : s.vm.findClass own = some m.cls) (hfit : Bundle.fit cls = true) (k0 : decode b1 0 = .ok (.aload_n 0, 1)) (k1 : decode b1 1 = .ok (.aload_n 1, 1)) (k2 : decode b1 2 = .ok (.invokespecial i1, 3)) (k5 : decode b1 5 = .ok (.return_, 1))
    (hk : (Cond.classLink own ik cls).before args s = true) (hini : (Cond.initialized cls).before args s = true) (hstr : vk_R own is text sa s) (h : ∀ a ∈ txA own ic cls i1 b1, a.before args s = true) (hsize : ls.size = c.maxLocals)
    (d0 : decode cc pc = .ok (.new ik, 3)) (d3 : decode cc (pc + 3) = .ok (.dup, 1)) (d4 : decode cc (pc + 4) = .ok (.ldc is, 2)) (d6 : decode cc (pc + 6) = .ok (.invokespecial ic, 3)) (d9 : decode cc (pc + 9) = .ok (.athrow, 1))
    (hnh : c.exceptionTable.isEmpty = true) (hRframes : 5 < R.frames) (hRlocals : 83 ≤ R.locals) (hRcells : 1 ≤ R.cells) (hRslots : 6 ≤ R.slots) (hlocks : meth.locks = false) (hP : va_P D cl W1 s.heap) :
    W p l e R s m args below meth c s.heap [] 0 0 (tx_MQ below D cl A W1 (.inr cls) args s) (F0 m pc ls []) := by
  have hins : (Cond.instantiable cls 6).before args s = true := h _ (by unfold txA; simp)
  refine W.newc hexec hb hown hk hins hini (g := F0 m pc ls []) rfl d0 (by omega) (by omega) (fun cC kC h1 h2 h3 h4 => ?_)
  show W p l e R s m args below meth c _ [] (0 + 1) (0 + 6) _ (F0 m (pc + 3) ls [.ref s.heap.size])
  refine lv_dup hexec hb d3 rfl ?_
  show W p l e R s m args below meth c _ [] (0 + 1) (0 + 6) _ (F0 m (pc + 4) ls [.ref s.heap.size, .ref s.heap.size])
  refine va_ldcS hexec hb hown hstr d4 ?_
  intro T hT X
  have htr : e.platform.stackTraces = false := (show e.platform.stackTraces = l.stackTraces by rw [X.admits.platform]).trans hl
  have hno : ∀ x ∈ c.exceptionTable.toList, covers x (pc + 6 + 3) = false := by
    intro x hx
    have : c.exceptionTable.toList = [] := by simpa using hnh
    rw [this] at hx
    cases hx
  obtain ⟨U, st, hrun, hend, hW, hsm, ce, hce, hcc, hcv⟩ := tx_ctor X hexec htr hown hfit k0 k1 k2 k5 h h1 h2 (a := s.heap.size) (by rw [hT]; simp) (Nat.le_refl _) (msg := .ref sa) rfl
    (g := F0 m (pc + 6) ls [.ref sa, .ref s.heap.size, .ref s.heap.size]) rfl hsize rfl rfl (rest := []) rfl (by rw [hb]; exact d6) (by rw [hb]; exact d9) hno hRframes (by show 2 * 0 + (1 + 0) + 81 ≤ _; omega) hlocks
  have hold : ∀ q, q < s.heap.size → U.heap[q]? = s.heap[q]? := fun q hq => by
    have h9 := State.sameButNew.old_cell hsm (Array.getElem?_eq_getElem hq)
    rw [Array.getElem?_eq_getElem hq]
    exact h9
  exact ⟨U, st, .threw s.heap.size, hrun, hend, fun k q hq => (hP k q hq).kept (hold _ (hP k q hq).lt), ⟨hsm.2.1, fun q hq _ => hold q hq⟩, s.heap.size, ce, [], rfl, hce, hcv, by rw [hcc]; exact h1, hW, hsm, fun _ h => by cases h⟩
theorem tx_ret {r : Option Value} {W2 : va_W} {H : Heap} {locs : List Loc} {g : JFrame} (h : W p l e R s m args below meth c H locs 0 0 (MQ below (tr_Qc D cl A W2 r) args s 0 0 A) g) : W p l e R s m args below meth c H locs 0 0 (tx_MQ below D cl A W2 (.inl r) args s) g := by
  intro T hT X
  obtain ⟨t, a1, o, b1, b2, ⟨b3, b4, b5⟩, b6⟩ := h T hT X
  exact ⟨t, a1, o, b1, b2, b4, b5, b3, b6⟩
end TXW
/-- the places of throws, and where the first part of a method ends -/
def tx_X {σ : Type} (w2 : σ) (r : tx_R) : List (Nat × String) → rx_X σ → rx_X σ
  | [], ex => ex
  | (t, E) :: rr, ex => fun pc => bif pc == t then some (fun w lv st => st = [] ∧ w = w2 ∧ r = .inr E) else tx_X w2 r rr ex pc
theorem tx_X_0 {σ : Type} {w2 : σ} {r : tx_R} {ex : rx_X σ} {pc : Nat} : tx_X w2 r [] ex pc = ex pc := rfl
theorem tx_X_c {σ : Type} {w2 : σ} {r : tx_R} {ex : rx_X σ} {pc t : Nat} {E : String} {rr : List (Nat × String)} : tx_X w2 r ((t, E) :: rr) ex pc = bif pc == t then some (fun w lv st => st = [] ∧ w = w2 ∧ r = .inr E) else tx_X w2 r rr ex pc := rfl
def tx_n {σ : Type} : rx_X σ := fun _ => none
def tx_e {σ : Type} (t : Nat) (G : σ → rx_L → Prop) : rx_X σ := fun pc => bif pc == t then some (fun w lv st => st = [] ∧ G w lv) else none
theorem tx_n_e {σ : Type} {pc : Nat} : (tx_n : rx_X σ) pc = none := rfl
theorem tx_e_e {σ : Type} {t pc : Nat} {G : σ → rx_L → Prop} : tx_e t G pc = bif pc == t then some (fun w lv st => st = [] ∧ G w lv) else none := rfl
theorem tx_X_of {σ : Type} {w2 : σ} {r : tx_R} {ex : rx_X σ} {pc : Nat} {g : σ → rx_L → List Value → Prop} : ∀ {ts : List (Nat × String)}, tx_X w2 r ts ex pc = some g → (∃ E, (pc, E) ∈ ts ∧ ∀ w lv st, g w lv st → st = [] ∧ w = w2 ∧ r = .inr E) ∨ ex pc = some g
  | [], h => Or.inr h
  | (t, E) :: rr, h => by
    rw [tx_X_c] at h
    cases e : (pc == t) with
    | true =>
      rw [e] at h
      cases h
      have e2 : pc = t := by simpa using e
      subst e2
      exact Or.inl ⟨E, List.mem_cons_self, fun w lv st h => h⟩
    | false =>
      rw [e] at h
      rcases tx_X_of h with ⟨E', h1, h2⟩ | h
      · exact Or.inl ⟨E', List.mem_cons_of_mem _ h1, h2⟩
      · exact Or.inr h
section TXV
variable {σ : Type} {l : Launch} {K : State → Prop} {D : va_G} {cl : List vw_C} {A : Nat → Prop} {Wf : σ → va_W}
theorem tx_enter {y : MethodName} {ws ws' : List Cond} {rm : Room} {As : List Value} {W1 W2 : va_W} {r : tx_R} {cc : ByteArray} {maxL : Nat} {ret : Option FieldType}
    (hy : plainName y.cls = true) (hw : ws = Cond.code y cc maxL ret :: ws') (hlen : (lg_sl As).length ≤ maxL)
    (body : ∀ (p : Program) (e : Env) (s : State) (m : MethodId) (below : List Frame) (meth : Method) (c : Code) (ls : Array Slot), CallFix p m c cc maxL s As.toArray ws y.cls → meth.sig.returnType = ret → K s → va_P D cl W1 s.heap → tz A s s.heap → c.exceptionTable.isEmpty = true → meth.locks = false → lv_has ls maxL (lv_args 0 As) →
      W p l e rm s m As.toArray below meth c s.heap [] 0 0 (tx_MQ below D cl A W2 r As.toArray s) (F0 m 0 ls [])) : tx l y ws rm K D cl A As W1 W2 r := by
  refine MetFree.of_bodyS (code := cc) (maxLocals := maxL) (ret := ret) hy ?_ ?_
  · intro args s m h hn
    obtain ⟨meth, c, h1, h2, h3, h4, h5, h6, -, -⟩ := Cond.code_spec hn (atoms_spec (ws := ws) h _ (by rw [hw]; exact List.mem_cons_self))
    exact ⟨meth, c, h1, h2, h3, h4, h5, h6⟩
  · intro p e s m args below meth c s₁ B hml hP _
    obtain ⟨rfl, hPs, hKs, hz⟩ := hP
    have hh0 : s₁.heap = s.heap := by rw [B.state]; rfl
    have hts := atoms_spec (ws := ws) B.pre
    have hnh := B.noHandlers (hts _ (by rw [hw]; exact List.mem_cons_self))
    have hl := lv_entry As hlen
    have hb := body p e s m below meth c (lg_sl As ++ List.replicate (maxL - (lg_sl As).length) Slot.unset).toArray ⟨B.exec, B.bytes, hml, findClass_of_methodNamed B.named, hts⟩ B.returns hKs hPs hz hnh B.notSynchronized hl
    obtain ⟨t, a1, o, b1, b2, b3⟩ := hb s₁ hh0 (Stand.of_body B)
    refine ⟨t, o, ?_, b1, b2, b3⟩
    rw [lg_entry_eq]
    exact a1
theorem tx_back1 {p : Program} {e : Env} {R : Room} {s : State} {m : MethodId} {args : Array Value} {below : List Frame} {meth : Method} {c : Code} {cc : ByteArray} {ret : Option FieldType} {r : tx_R} {w2 : σ} (hx : p.tables.exec = Jvm.exec) (hb : c.code = cc) (hr : meth.sig.returnType = ret) (hret : ∀ v, r = .inl v → tr_rt ret v) (hlocks : meth.locks = false) (w : σ) (H : Heap) (locs : List Loc) (pc : Nat) (ls : Array Slot) (i : Instr) (st : List Value) (v : Option Value)
    (hI : tr_I D cl A s Wf w H locs) (hrt : rx_ret i st = some v) (hd : decode cc pc = .ok (i, 1)) (hq : w = w2 ∧ r = .inl v) : W p l e R s m args below meth c H locs 0 0 (tx_MQ below D cl A (Wf w2) r args s) (F0 m pc ls st) := by
  obtain ⟨rfl, rfl⟩ := hq
  have hret := hret v rfl
  unfold rx_ret at hrt
  split at hrt
  · next x =>
    cases hrt
    obtain ⟨ty, e1, e2⟩ := hret
    exact tx_ret (W.zret hx hb (hr.trans e1) e2 (fun t ht hW => ⟨rfl, by rw [ht]; exact hI.1, hI.2.F ht⟩) hI.2.2.2 hd hlocks)
  · next x =>
    cases hrt
    exact tx_ret (W.lret hx hb (hr.trans hret) (fun t ht hW => ⟨rfl, by rw [ht]; exact hI.1, hI.2.F ht⟩) hI.2.2.2 hd hlocks)
  · cases hrt
    exact tx_ret (W.vret hx hb (hr.trans hret) (fun t ht hW => ⟨rfl, by rw [ht]; exact hI.1, hI.2.F ht⟩) hI.2.2.2 hd hlocks)
  · cases hrt
/-- a method that calls methods that may throw -/
theorem tx_of {y : MethodName} {ws ws' : List Cond} {rm : Room} {As : List Value} {w0 w2 : σ} {r : tx_R} {cc : ByteArray} {maxL : Nat} {ret : Option FieldType} {P : rx_P} {E : rx_E σ} (C : Nat → Option (Nat → σ → rx_L → Prop)) (f f0 M : Nat)
    (hy : plainName y.cls = true) (hw : ws = Cond.code y cc maxL ret :: ws') (hlen : (lg_sl As).length ≤ maxL) (hP : ∀ q ∈ P, rx_ok cc q) (hret : ∀ v, r = .inl v → tr_rt ret v)
    (hE : ∀ (p : Program) (e : Env) (s : State) (m : MethodId) (args : Array Value) (below : List Frame) (meth : Method) (c : Code), CallFix p m c cc maxL s args ws y.cls → K s → tz A s s.heap → c.exceptionTable.isEmpty = true → meth.locks = false → rx_Eok (fun H locs g => W p l e rm s m args below meth c H locs 0 0 (tx_MQ below D cl A (Wf w2) r args s) g) m cc maxL (tr_I D cl A s Wf) E)
    (hC : ∀ (pc : Nat) (g : Nat → σ → rx_L → Prop), C pc = some g → ∀ (u : Nat) (w : σ) (lv : rx_L), g u w lv → rx_step P E maxL (fun w v => w = w2 ∧ r = .inl v) (rx P E maxL (fun w v => w = w2 ∧ r = .inl v) (rx_cut C u) f) pc (rx_to pc P) w lv [])
    (h : rx P E maxL (fun w v => w = w2 ∧ r = .inl v) (rx_cut C M) f0 0 (rx_to 0 P) w0 (lv_args 0 As) []) : tx l y ws rm K D cl A As (Wf w0) (Wf w2) r := by
  refine tx_enter hy hw hlen (fun p e s m below meth c ls S hr hK hPs hz hnh hlocks hl => ?_)
  exact rx_whole (I := tr_I D cl A s Wf) S.1 S.2.1 C f f0 M hP (hE p e s m _ below meth c S hK hz hnh hlocks) (fun w H locs pc ls i st v hI hrt hd hq => tx_back1 S.1 S.2.1 hr hret hlocks w H locs pc ls i st v hI hrt hd hq) hC hl ⟨hPs, va_S.rf⟩ h
/-- a method with throws of its own, ahead of all that it writes -/
theorem tx_ofT {y : MethodName} {ws ws' : List Cond} {rm : Room} {As : List Value} {w0 w2 : σ} {r : tx_R} {cc : ByteArray} {maxL : Nat} {ret : Option FieldType} {P : rx_P} {E1 : rx_E σ} (ts : List (Nat × String)) (ex : rx_X σ) (f0 : Nat)
    (hy : plainName y.cls = true) (hw : ws = Cond.code y cc maxL ret :: ws') (hlen : (lg_sl As).length ≤ maxL) (hP : ∀ q ∈ P, rx_ok cc q) (hret : ∀ v, r = .inl v → tr_rt ret v)
    (hT : ∀ (t : Nat) (X : String), (t, X) ∈ ts → ∀ (p : Program) (e : Env) (s : State) (m : MethodId) (args : Array Value) (below : List Frame) (meth : Method) (c : Code) (ls : Array Slot) (W1 : va_W), CallFix p m c cc maxL s args ws y.cls → K s → tz A s s.heap → c.exceptionTable.isEmpty = true → meth.locks = false → ls.size = maxL → va_P D cl W1 s.heap → W p l e rm s m args below meth c s.heap [] 0 0 (tx_MQ below D cl A W1 (.inr X) args s) (F0 m t ls []))
    (hE1 : ∀ (p : Program) (e : Env) (s : State) (m : MethodId) (args : Array Value) (below : List Frame) (meth : Method) (c : Code) (Qw : State → Prop), CallFix p m c cc maxL s args ws y.cls → K s → rx_Eok (fun H locs g => W p l e rm s m args below meth c H locs 0 0 Qw g) m cc maxL (fun w H locs => va_P D cl (Wf w) H ∧ H = s.heap ∧ locs = []) E1)
    (hX : ∀ (p : Program) (e : Env) (s : State) (m : MethodId) (args : Array Value) (below : List Frame) (meth : Method) (c : Code), CallFix p m c cc maxL s args ws y.cls → meth.sig.returnType = ret → K s → tz A s s.heap → c.exceptionTable.isEmpty = true → meth.locks = false → ∀ (pc : Nat) (g : σ → rx_L → List Value → Prop), ex pc = some g → ∀ (w : σ) (lv : rx_L) (st : List Value) (ls : Array Slot), lv_has ls maxL lv → va_P D cl (Wf w) s.heap → g w lv st → W p l e rm s m args below meth c s.heap [] 0 0 (tx_MQ below D cl A (Wf w2) r args s) (F0 m pc ls st))
    (h : rx P E1 maxL (fun w v => w = w2 ∧ r = .inl v) (tx_X w2 r ts ex) f0 0 (rx_to 0 P) w0 (lv_args 0 As) []) : tx l y ws rm K D cl A As (Wf w0) (Wf w2) r := by
  refine tx_enter hy hw hlen (fun p e s m below meth c ls S hr hK hPs hz hnh hlocks hl => ?_)
  refine rx_sound (I := fun w H locs => va_P D cl (Wf w) H ∧ H = s.heap ∧ locs = []) S.1 S.2.1 hP (hE1 p e s m _ below meth c _ S hK) (fun w H locs pc ls i st v hI hrt hd hq => ?_) (fun pc g hg w lv st ls H locs hl hI hgw => ?_) f0 0 _ (fun q hq => hP q (rx_to_sub q hq)) w0 (lv_args 0 As) [] ls s.heap [] hl ⟨hPs, rfl, rfl⟩ h
  · obtain ⟨h1, rfl, rfl⟩ := hI
    exact tx_back1 S.1 S.2.1 hr hret hlocks w _ _ pc ls i st v ⟨h1, va_S.rf⟩ hrt hd hq
  · obtain ⟨h1, rfl, rfl⟩ := hI
    rcases tx_X_of hg with ⟨X, hm, hx⟩ | he
    · obtain ⟨rfl, rfl, rfl⟩ := hx w lv st hgw
      exact hT pc X hm p e s m _ below meth c ls _ S hK hz hnh hlocks hl.1 h1
    · exact hX p e s m _ below meth c S hr hK hz hnh hlocks pc g he w lv st ls hl h1 hgw
end TXV
