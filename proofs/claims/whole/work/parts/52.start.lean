/-! The law's entry: what the Statement gives of the start. -/
theorem tz_of {s : State} {a : Array Value} (h : ∀ w ∈ tz_ws, w.before a s = true) : tz (lZs s) s s.heap := by
  have g1 := h (.isRef (.static Bundle.tN "UNASSIGNED_STACK" Bundle.steD)) (by simp [tz_ws])
  have g2 := h (.isRef (.static Bundle.tN "SUPPRESSED_SENTINEL" Bundle.listD)) (by simp [tz_ws])
  have g3 := h (.laysStatic Bundle.tN "UNASSIGNED_STACK" Bundle.steD) (by simp [tz_ws])
  have g4 := h (.laysStatic Bundle.tN "SUPPRESSED_SENTINEL" Bundle.listD) (by simp [tz_ws])
  obtain ⟨c, k, i, f, aS, cell, hc, hf, hst, ha, hcell, hss, hcls, hlt, hty⟩ := Cond.laysStatic_spec g3
  obtain ⟨c2, k2, i2, f2, aS2, cell2, hc2, hf2, hst2, ha2, hcell2, hss2, hcls2, hlt2, hty2⟩ := Cond.laysStatic_spec g4
  cases hc.symm.trans hc2
  have at' : ∀ {n d : String} {k : Class} {i : Nat} {f : Field}, s.fieldFound? Bundle.tN n d = some (c, k, i, f) → s.vm.classes[c]? = some k := by
    intro n d k i f hf
    simp only [State.fieldFound?, Option.bind_eq_bind, Option.bind_eq_some_iff, Option.pure_def, Option.some.injEq, Prod.mk.injEq, Prod.exists] at hf
    obtain ⟨_, _, _, _, _, _, _, _, h1, _, _, h2, h3, h4⟩ := hf
    subst h2
    subst h3
    exact h1
  have hk1 := at' hf
  cases hk1.symm.trans (at' hf2)
  cases ha.symm.trans ha2
  cases hcell.symm.trans hcell2
  refine ⟨aS, (Array.getElem?_eq_some_iff.mp hcell).1, fun q => absurd (Array.getElem?_eq_some_iff.mp hcell).1 (Nat.not_lt.mpr q), fun U a' hal hU w hw => ?_⟩
  obtain ⟨k', hf', hk'⟩ := State.fieldFound?_setVm (s := s) hal hf
  obtain ⟨k2', hf2', hk2'⟩ := State.fieldFound?_setVm (s := s) hal hf2
  have hf' : U.fieldFound? Bundle.tN "UNASSIGNED_STACK" Bundle.steD = some (c, k', i, f) := hf'
  have hf2' : U.fieldFound? Bundle.tN "SUPPRESSED_SENTINEL" Bundle.listD = some (c, k2', i2, f2) := hf2'
  have hs1 : k'.statics = some aS := by rw [hk']; exact ha
  have hs2 : k2'.statics = some aS := by rw [hk2']; exact ha
  have ht1 : k'.staticTypes[f.slot]? = some f.type := by rw [hk']; exact hty
  have ht2 : k2'.staticTypes[f2.slot]? = some f2.type := by rw [hk2']; exact hty2
  have hcU : U.vm.findClass Bundle.tN = some c := by rw [hal.findClass]; exact hc
  have hUc : U.heap[aS]? = some cell := hU.trans hcell
  simp only [tz_ws, List.mem_cons, List.not_mem_nil, or_false] at hw
  rcases hw with rfl | rfl | rfl | rfl
  · simp [Cond.before, Cond.holds, Cond.value, Term.eval, State.fieldNamed?, hf, hst, ha, hcell, hss] at g1
    simp [Cond.before, Cond.holds, Cond.value, Term.eval, State.fieldNamed?, hf', hst, hs1, hUc, hss]
    exact g1
  · simp [Cond.before, Cond.holds, Cond.value, Term.eval, State.fieldNamed?, hf2, hst2, ha, hcell, hss] at g2
    simp [Cond.before, Cond.holds, Cond.value, Term.eval, State.fieldNamed?, hf2', hst2, hs2, hUc, hss]
    exact g2
  · simp [Cond.before, Cond.holds, Cond.value, hcU, hf', hst, hs1, hUc, hss, hcls, hlt, ht1]
  · simp [Cond.before, Cond.holds, Cond.value, hcU, hf2', hst2, hs2, hUc, hss, hcls, hlt2, ht2]
section WSG
variable {p : Program} {l : Launch} {e : Env} {R : Room} {s : State} {m : MethodId} {args : Array Value} {below : List Frame} {meth : Method} {c : Code} {cc : ByteArray} {nL cells slots : Nat} {Q : State → Prop} {H : Heap} {locs : List Loc}
theorem ws_seg {P : rx_P} {t pc : Nat} {lv0 lv1 : rx_L} {st0 st1 : List Value} {ls : Array Slot} (hx : p.tables.exec = Jvm.exec) (hb : c.code = cc) (hP : ∀ q ∈ P, rx_ok cc q) (h : rx P (rx_any []) nL (fun _ _ => False) (tw_X t lv1 st1) 20 pc (rx_to pc P) () lv0 st0) (hl : lv_has ls nL lv0)
    (k : ∀ ls', lv_has ls' nL lv1 → W p l e R s m args below meth c H locs cells slots Q (F0 m t ls' st1)) : W p l e R s m args below meth c H locs cells slots Q (F0 m pc ls st0) := by
  refine rx_sound (σ := Unit) (I := fun _ H' locs' => H' = H ∧ locs' = locs) (P := P) hx hb hP rx_any_0 (fun _ _ _ _ _ _ _ _ _ _ _ hq => False.elim hq) ?_ 20 pc _ (fun q hq => hP q (rx_to_sub q hq)) () lv0 st0 ls H locs hl ⟨rfl, rfl⟩ h
  intro pc g hg _ lv st ls1 H1 locs1 hl1 hI hgw
  obtain ⟨rfl, rfl⟩ := hI
  rw [tw_X_e] at hg
  cases e9 : (pc == t) with
  | false => rw [e9] at hg; cases hg
  | true =>
    rw [e9] at hg
    cases hg
    have e8 : pc = t := by simpa using e9
    subst e8
    obtain ⟨rfl, rfl⟩ := hgw
    exact k ls1 hl1
end WSG
