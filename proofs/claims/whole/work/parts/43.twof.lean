/-! From runs to a contract of a method of the law that catches; the world of the class with the law's array of one long. -/
def rx_hBl {σ : Type} (b n : Nat) (f : σ → Nat → Int64 → σ) : rx_E σ := fun w i st => match i with
  | .lastore => (match st with
    | .long v :: .int x :: .ref b' :: r => if b' = b then some (.inl (vp_in x n, f w x.toNatClampNeg v, r)) else none
    | _ => none)
  | _ => none
def rx_hAl {σ : Type} (b n : Nat) (f : σ → Nat → Int64) : rx_E σ := fun w i st => match i with
  | .laload => (match st with
    | .int x :: .ref b' :: r => if b' = b then some (.inl (vp_in x n, w, .long (f w x.toNatClampNeg) :: r)) else none
    | _ => none)
  | _ => none
def rx_hN {σ : Type} (b : Nat) (v : Int32) : rx_E σ := fun w i st => match i with
  | .arraylength => (match st with
    | .ref b' :: r => if b' = b then some (.inl (True, w, .int v :: r)) else none
    | _ => none)
  | _ => none
section TWH
variable {σ : Type} {V : Heap → List Loc → JFrame → Prop} {m : MethodId} {cc : ByteArray} {nL : Nat} {I : σ → Heap → List Loc → Prop}
theorem rx_hBl_ok {b n : Nat} {f : σ → Nat → Int64 → σ} (h : ∀ (w : σ) (H : Heap) (locs : List Loc) (pc : Nat) (ls : Array Slot) (rest : List Value) (x : Int32) (v : Int64), I w H locs → vp_in x n → decode cc pc = .ok (.lastore, 1) → (∀ H1 locs1, I (f w x.toNatClampNeg v) H1 locs1 → V H1 locs1 (F0 m (pc + 1) ls rest)) → V H locs (F0 m pc ls (.long v :: .int x :: .ref b :: rest))) : rx_Eok V m cc nL I (rx_hBl b n f) := by
  intro w H locs pc ls i st q hI hs e1 hd
  unfold rx_hBl at e1
  split at e1
  · split at e1
    · next v x b' r =>
      split at e1
      · next hb =>
        subst hb
        cases e1
        intro hin kk
        exact h w H locs pc ls r x v hI hin hd kk
      · cases e1
    · cases e1
  · cases e1
theorem rx_hAl_ok {b n : Nat} {f : σ → Nat → Int64} (h : ∀ (w : σ) (H : Heap) (locs : List Loc) (pc : Nat) (ls : Array Slot) (rest : List Value) (x : Int32), I w H locs → vp_in x n → decode cc pc = .ok (.laload, 1) → V H locs (F0 m (pc + 1) ls (.long (f w x.toNatClampNeg) :: rest)) → V H locs (F0 m pc ls (.int x :: .ref b :: rest))) : rx_Eok V m cc nL I (rx_hAl b n f) := by
  intro w H locs pc ls i st q hI hs e1 hd
  unfold rx_hAl at e1
  split at e1
  · split at e1
    · next x b' r =>
      split at e1
      · next hb =>
        subst hb
        cases e1
        intro hin kk
        exact h w H locs pc ls r x hI hin hd (kk H locs hI)
      · cases e1
    · cases e1
  · cases e1
theorem rx_hN_ok {b : Nat} {v : Int32} (h : ∀ (w : σ) (H : Heap) (locs : List Loc) (pc : Nat) (ls : Array Slot) (rest : List Value), I w H locs → decode cc pc = .ok (.arraylength, 1) → V H locs (F0 m (pc + 1) ls (.int v :: rest)) → V H locs (F0 m pc ls (.ref b :: rest))) : rx_Eok V m cc nL I (rx_hN b v) := by
  intro w H locs pc ls i st q hI hs e1 hd
  unfold rx_hN at e1
  split at e1
  · split at e1
    · next b' r =>
      split at e1
      · next hb =>
        subst hb
        cases e1
        intro hin kk
        exact h w H locs pc ls r hI hd (kk H locs hI)
      · cases e1
    · cases e1
  · cases e1
end TWH
abbrev cU (ao : Nat) (cL : ClassId) (f : Nat → Int64) : va_W := [(ao, .inl (cL, 1, .inr (.inl f)))]
abbrev lC (ad : Nat → Nat) (cB : ClassId) (ao : Nat) (cL : ClassId) (w : cS) (f : Nat → Int64) : va_W := cW ad cB w ++ cU ao cL f
def lA (ad : Nat → Nat) (ao : Nat) : Nat → Prop := fun q => cA ad q ∨ q = ao
def lwK (D : va_G) (cB cL : ClassId) (U : State) : Prop := xK D cB U ∧ va_K D vwCl [(cL, .long)] U ∧ kn xIS xIA U ∧ kn xNE xIA U ∧ kn xNE xIS U
theorem tr_K_kn {E N : String} : tr_K (kn E N) := ⟨fun U g mk a h => kn_moved (s := U) (U := U.calling g mk a) (Vm.Alike.refl U.vm) h, fun _ _ hW h => kn_moved hW.alike h⟩
theorem lwK_tr {D : va_G} {cB cL : ClassId} : tr_K (lwK D cB cL) := tr_K_and xK_tr (tr_K_and tr_K_va (tr_K_and tr_K_kn (tr_K_and tr_K_kn tr_K_kn)))
theorem va_P_l {D : va_G} {cl : List vw_C} {W1 W2 : va_W} {H : Heap} (h : va_P D cl (W1 ++ W2) H) : va_P D cl W1 H := fun k q hq => h k q (by rw [List.getElem?_append_left (List.getElem?_eq_some_iff.mp hq).1]; exact hq)
theorem va_P_r {D : va_G} {cl : List vw_C} {W1 W2 : va_W} {H : Heap} (h : va_P D cl (W1 ++ W2) H) : va_P D cl W2 H := fun k q hq => h (W1.length + k) q (by rw [List.getElem?_append_right (by omega), Nat.add_sub_cancel_left]; exact hq)
/-- what a change within A leaves of a world outside -/
theorem va_P_o {D : va_G} {cl : List vw_C} {A : Nat → Prop} {W1 : va_W} {H H1 : Heap} (h : va_P D cl W1 H) (hF : tx_F A H H1) (hA : ∀ (k : Nat) (q : Nat × va_E), W1[k]? = some q → ¬ A q.1) : va_P D cl W1 H1 := fun k q hq => (h k q hq).kept (hF.2 q.1 (h k q hq).lt (hA k q hq))
theorem lC_D {ad : Nat → Nat} (hj : cJ ad) {ao : Nat} (ha : ¬ cA ad ao) (cB cL : ClassId) (w : cS) (f : Nat → Int64) : va_D (lA ad ao) (lC ad cB ao cL w f) := by
  have hD := cD hj cB w
  have at' : ∀ (k : Nat) (q : Nat × va_E), (lC ad cB ao cL w f)[k]? = some q → (k < 5 ∧ q.1 = ad k) ∨ (k = 5 ∧ q.1 = ao) := by
    intro k q hq
    by_cases hk : k < 5
    · rw [List.getElem?_append_left hk] at hq
      exact Or.inl (cW_at hq)
    · rw [List.getElem?_append_right (by show 5 ≤ k; omega)] at hq
      have h1 : k - 5 < 1 := (List.getElem?_eq_some_iff.mp hq).1
      have h2 : k = 5 := by omega
      subst h2
      cases hq
      exact Or.inr ⟨rfl, rfl⟩
  refine ⟨fun i j p q h1 h2 e => ?_, fun k q h => ?_⟩
  · rcases at' i p h1 with ⟨a1, a2⟩ | ⟨a1, a2⟩
    · rcases at' j q h2 with ⟨b1, b2⟩ | ⟨b1, b2⟩
      · exact hj i j a1 b1 (by rw [← a2, ← b2]; exact e)
      · exact absurd ⟨i, a1, by rw [← a2, ← b2]; exact e.symm⟩ ha
    · rcases at' j q h2 with ⟨b1, b2⟩ | ⟨b1, b2⟩
      · exact absurd ⟨j, b1, by rw [← a2, ← b2]; exact e⟩ ha
      · rw [a1, b1]
  · rcases at' k q h with ⟨a1, a2⟩ | ⟨a1, a2⟩
    · exact Or.inl ⟨k, a1, a2⟩
    · exact Or.inr a2
def tw_X (t : Nat) (lv0 : rx_L) (st0 : List Value) : rx_X Unit := fun pc => bif pc == t then some (fun _ lv st => lv = lv0 ∧ st = st0) else none
theorem tw_X_e {t pc : Nat} {lv0 : rx_L} {st0 : List Value} : tw_X t lv0 st0 pc = bif pc == t then some (fun _ lv st => lv = lv0 ∧ st = st0) else none := rfl
theorem tw_ret {p : Program} {l : Launch} {e : Env} {R : Room} {s : State} {m : MethodId} {args : Array Value} {below : List Frame} {meth : Method} {c : Code} {D : va_G} {cl : List vw_C} {A : Nat → Prop} {W2 : va_W} {v : Value} {H : Heap} {locs : List Loc} {cells slots : Nat} {g : JFrame} (h : W p l e R s m args below meth c H locs cells slots (MQ below (tr_Qc D cl A W2 (some v)) args s 1 6 A) g) : W p l e R s m args below meth c H locs cells slots (tw_MQ below D cl A W2 v args s) g := by
  intro T hT X
  obtain ⟨t, a1, o, b1, b2, ⟨b3, b4, b5⟩, b6⟩ := h T hT X
  exact ⟨t, a1, o, b1, b2, b4, b5, b3, b6⟩
theorem rx_hOut {p : Program} {l : Launch} {e : Env} {R : Room} {s : State} {m : MethodId} {args : Array Value} {below : List Frame} {meth : Method} {c : Code} {cc : ByteArray} {nL cells slots : Nat} {Q : State → Prop} {D : va_G} {ad : Nat → Nat} {cB cL : ClassId} {ao : Nat} {w : cS} (hx : p.tables.exec = Jvm.exec) (hb : c.code = cc) (hj : cJ ad) (ha : ¬ cA ad ao) (hK : va_K D vwCl [(cL, .long)] s) :
    rx_Eok (fun H locs g => W p l e R s m args below meth c H locs cells slots Q g) m cc nL (tr_I D vwCl (lA ad ao) s (lC ad cB ao cL w)) (rx_hBl ao 1 (fun f i v => vp_updL f i v)) :=
  rx_hBl_ok (fun f H locs pc ls rest x v hI hin hd kk => va_last hx hb hK hI.1 (lC_D hj ha cB cL w f) hI.2 5 0 (cA := cL) (n := 1) (f := f) rfl rfl hin hd (fun H1 locs1 hP _ hS => kk H1 locs1 ⟨hP, hS⟩))
theorem tw_of {l : Launch} {D : va_G} {ad : Nat → Nat} {cB cL : ClassId} {ao : Nat} (hj : cJ ad) (ha : ¬ cA ad ao) {y yX : MethodName} {ws : List Cond} {rm rX : Room} {As As1 rest : List Value} {w w3 : cS} {fo fo2 : Nat → Int64} {r : tx_R} {k : Int32} {cc bX : ByteArray} {maxL mX n t j : Nat} {retX : Option FieldType} {hh : List (Nat × Nat × Nat × Nat)} {P : rx_P}
    (hy : plainName y.cls = true) (hyL : y.cls = RL) (hw : ws = Cond.codeWith y cc maxL (some .int) hh :: wsA) (hlen : (lg_sl As).length ≤ maxL) (hP : ∀ q ∈ P, rx_ok cc q)
    (hM : tx l yX (Cond.code yX bX mX retX :: wsA) rX (xK D cB) D vwCl (cA ad) (.ref (ad 0) :: As1) (cW ad cB w) (cW ad cB w3) r)
    (cw : ∀ (s : State) (args : Array Value), (∀ q ∈ ws, q.before args s = true) → CallW rm s args RL RX3 j yX bX mX retX (Cond.code yX bX mX retX :: wsA) rX rX.cells rX.slots n)
    (hroom : rX.cells ≤ rm.cells ∧ rX.slots ≤ rm.slots) (hrest : rx_sum rest ≤ 8) (hn : As1.length = n) (hdec : decode cc t = .ok (.invokevirtual j, 3))
    (h1 : rx P (rx_any []) maxL (fun _ _ => False) (tw_X t (lv_args 0 As) (As1.reverse ++ .ref (ad 0) :: rest)) 50 0 (rx_to 0 P) () (lv_args 0 As) [])
    (h2 : ∀ v, r = .inl v → rx P (rx_any [rx_hBl ao 1 (fun f i v => vp_updL f i v)]) maxL (fun f v => f = fo2 ∧ v = some (.int k)) tx_n 50 (t + 3) (rx_to (t + 3) P) fo (lv_args 0 As) (v.toList ++ rest))
    (h3 : ∀ E, r = .inr E → ∃ h, (∀ (s : State) (args : Array Value), lwK D cB cL s → (∀ q ∈ ws, q.before args s = true) → kq s args RL E t h hh) ∧ ∀ q, rx P (rx_any [rx_hBl ao 1 (fun f i v => vp_updL f i v)]) maxL (fun f v => f = fo2 ∧ v = some (.int k)) tx_n 50 h (rx_to h P) fo (lv_args 0 As) [.ref q]) :
    tw l y ws rm (lwK D cB cL) D vwCl (lA ad ao) As (lC ad cB ao cL w fo) (lC ad cB ao cL w3 fo2) (.int k) := by
  refine tw_enter hy hw hlen (fun p e s m below meth c ls S hr hK hPs hz hnh hlocks hl => ?_)
  refine rx_sound (σ := Unit) (I := fun _ H locs => H = s.heap ∧ locs = []) (P := P) S.1 S.2.1 hP rx_any_0 (fun _ _ _ _ _ _ _ _ _ _ _ hq => False.elim hq) ?_ 50 0 _ (fun q hq => hP q (rx_to_sub q hq)) () (lv_args 0 As) [] ls s.heap [] hl ⟨rfl, rfl⟩ h1
  intro pc g hg _ lv st ls1 H locs hl1 hI hgw
  obtain ⟨rfl, rfl⟩ := hI
  rw [tw_X_e] at hg
  cases e9 : (pc == t) with
  | false => rw [e9] at hg; cases hg
  | true =>
    rw [e9] at hg
    cases hg
    have e8 : pc = t := by simpa using e9
    subst e8
    obtain ⟨rfl, rfl⟩ := hgw
    have hPc := va_P_l hPs
    have hout := va_P_r hPs
    have hz1 : tz (cA ad) s s.heap := hz.narrow (fun q h => Or.inl h)
    have hR : ∀ (w9 : Nat → Int64) (H : Heap) (locs : List Loc) (pc : Nat) (ls : Array Slot) (i : Instr) (st : List Value) (v : Option Value), tr_I D vwCl (lA ad ao) s (lC ad cB ao cL w3) w9 H locs → rx_ret i st = some v → decode cc pc = .ok (i, 1) → w9 = fo2 ∧ v = some (.int k) → W p l e rm s m As.toArray below meth c H locs 1 6 (tw_MQ below D vwCl (lA ad ao) (lC ad cB ao cL w3 fo2) (.int k) As.toArray s) (F0 m pc ls st) := by
      intro w9 H locs pc ls i st v hI hrt hd hq
      obtain ⟨rfl, rfl⟩ := hq
      unfold rx_ret at hrt
      split at hrt
      · next x =>
        cases hrt
        obtain ⟨ty, q1, q2⟩ := rt_i k
        exact tw_ret (W.zret S.1 S.2.1 (hr.trans q1) q2 (fun t ht hW => ⟨rfl, by rw [ht]; exact hI.1, hI.2.F ht⟩) hI.2.2.2 hd hlocks)
      · cases hrt
      · cases hrt
      · cases hrt
    have go : ∀ (T' : State) (L : List Loc) (pc : Nat) (st : List Value), va_P D vwCl (cW ad cB w3) T'.heap → tx_F (cA ad) s.heap T'.heap → (∀ q ∈ L, cA ad q.base) → rx P (rx_any [rx_hBl ao 1 (fun f i v => vp_updL f i v)]) maxL (fun f v => f = fo2 ∧ v = some (.int k)) tx_n 50 pc (rx_to pc P) fo (lv_args 0 As) st → W p l e rm s m As.toArray below meth c T'.heap ([] ++ L) 1 6 (tw_MQ below D vwCl (lA ad ao) (lC ad cB ao cL w3 fo2) (.int k) As.toArray s) (F0 m pc ls1 st) := by
      intro T' L pc st hP' hF hL hrx
      refine rx_sound (σ := Nat → Int64) (I := tr_I D vwCl (lA ad ao) s (lC ad cB ao cL w3)) (P := P) S.1 S.2.1 hP (rx_any_c (rx_hOut S.1 S.2.1 hj ha hK.2.1) rx_any_0) hR (fun pc g h => by cases h) 50 pc _ (fun q hq => hP q (rx_to_sub q hq)) fo (lv_args 0 As) st ls1 T'.heap ([] ++ L) hl1 ⟨?_, hF.1, fun q h1 h2 => hF.2 q h1 (fun z => h2 (Or.inl z)), fun q hq => Or.inl (hL q (by simpa using hq))⟩ hrx
      refine va_P.app hP' (va_P_o hout hF (fun k q hq => ?_))
      have h1 : k < 1 := (List.getElem?_eq_some_iff.mp hq).1
      have h2 : k = 0 := by omega
      subst h2
      cases hq
      exact ha
    intro T hT X
    have h9 := tx_callV (g := F0 m pc ls1 (As1.reverse ++ .ref (ad 0) :: rest)) (own := RL) (by rw [← hyL]; exact S) hM xK_tr hK.1 (cw s _ S.2.2.2.2) (va_recv hK.1.1.1 hPc (rfl : vwCl[3]? = some (RX3, TX3, 5)) (rfl : (cW ad cB w)[0]? = some _)) hPc hz1 rfl hn hl1.1 rfl (by rw [rx_sum_eq]; show 2 * 0 + _ ≤ 8; omega) hdec (by rw [Nat.zero_add, Nat.zero_add]; exact hroom) hT X
    cases r with
    | inl v =>
      obtain ⟨T', L, X', hL, hP', hF, hst⟩ := h9
      obtain ⟨t2, a1, b1⟩ := w_more (Nat.zero_le 1) (Nat.zero_le 6) (go T' L (pc + 3) (v.toList ++ rest) hP' hF hL (h2 v rfl)) T' rfl X'
      exact ⟨t2, hst.trans a1, b1⟩
    | inr E =>
      obtain ⟨q, ce, T', L, X', hL, hP', hF, hce, hcv, hcl, hst⟩ := h9
      obtain ⟨h, hkq, h3⟩ := h3 E rfl
      have hown : s.vm.findClass RL = some m.cls := by rw [← hyL]; exact S.2.2.2.1
      obtain ⟨vm', X2, hst2⟩ := kc_caught X' (g := F0 m pc ls1 rest) rfl hce hcv (Vm.classAt_of_findClass hcl) (kc_of (by rw [X.admits.platform]) hown hcl _ _ hnh (hkq s _ hK S.2.2.2.2))
      obtain ⟨t2, a1, b1⟩ := go (T'.setVm vm') L h [.ref q] hP' hF hL (h3 q) (T'.setVm vm') rfl X2
      exact ⟨t2, (hst.trans hst2).trans a1, b1⟩
