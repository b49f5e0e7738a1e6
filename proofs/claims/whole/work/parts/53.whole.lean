/-! THE CLAIM OUT OF ONE WALK OF THE LAW'S BODY. Your part is whole_start (and what it stands on); all else here is the same for every law, but numbers. -/
def R_law : String := "FileJudgeLaw"
def lw_P (b : Addr) (xs : List Int32) (args : Array Value) (s : State) : Prop := args = #[.ref b] ∧ s.IntsAt b xs ∧ xs.length ≤ 2048 ∧ (Jvm.Cond.and given_1 narrow_1).before args s = true
def lw_Q (_ : Array Value) (s : State) (o : Outcome) (t : State) : Prop := o = .returned (some (.int 1)) ∧ Framed s o t [] 1040 10173
def lw_Z (below : List Frame) (a : Array Value) (s : State) : State → Prop := fun t => ∃ o, t.status = .running ∧ Ended t below o ∧ lw_Q a s o t
/-- the law's own end, with 1 on the stack, nothing written that was there before, its room as the claim has it -/
theorem lw_ret {p : Program} {l : Launch} {e : Env} {s : State} {m : MethodId} {below : List Frame} {meth : Method} {c : Code} {b : Nat} (hx : p.tables.exec = Jvm.exec) (hb : c.code = code) (hr : meth.sig.returnType = ret) (hlocks : meth.locks = false) {pc : Nat} {H : Heap} {ls : Array Slot} (hdg : decode code pc = .ok (.ireturn, 1)) : W p l e room_1 s m #[Value.ref b] below meth c H [] 1040 10173 (lw_Z below #[Value.ref b] s) (F0 m pc ls [.int 1]) := by
  intro T hT X
  obtain ⟨fs, hret, hrun, hended, hW, hframe⟩ := X.leave (v := some (.int 1)) (hlocks := hlocks) (fun h => by rw [hr] at h; cases h)
  have hmeth' : T.vm.method? m = some meth := X.method'
  refine ⟨T.setFrames fs, ?_, .returned (some (.int 1)), hrun, hended, rfl, ⟨_, rfl⟩, hW, hframe⟩
  jvm_step X.here [X.here.top, hx, hb, hdg, hmeth', hr, ret, narrow_b1]
  (try refine ⟨rfl, ?_⟩); (try refine ⟨rfl, ?_⟩)
  first | (intro acts; rw [hret _ acts rfl rfl rfl]) | rw [hret _ _ rfl rfl rfl]
  exact Steps.refl _
/-- what holds at the law's entry: the machine, the code, the tables' words (any of lw_tbl by 'hts w (by decide +kernel)'), the script of L ints xs at the cell b, what the Statement gives of the start (any of its parts by flat_of_before) -/
def lw_At (p : Program) (s : State) (m : MethodId) (meth : Method) (c : Code) (b L : Nat) (xs : Nat → Int32) : Prop :=
  p.tables.exec = Jvm.exec ∧ c.code = code ∧ meth.sig.returnType = ret ∧ c.maxLocals = 8 ∧ s.vm.findClass R_law = some m.cls ∧ (∀ w ∈ lw_tbl, w.before #[Value.ref b] s = true) ∧ va_X b L xs s s.heap ∧ b < s.heap.size ∧ meth.locks = false ∧ (Jvm.Cond.and given_1 narrow_1).before #[Value.ref b] s = true
def b0 : bF := ⟨(0, fun _ => 0), by decide, fun _ => Nat.le_of_ble_eq_true rfl⟩
def w0 : LSt := ((b0, 0, 0, -1), (b0, 0, fun _ => 0, 0, 0, -1), fun _ => 0)
def fn5 (a b c d e : Nat) : Nat → Nat := fun k => match k with
  | 0 => a
  | 1 => b
  | 2 => c
  | 3 => d
  | _ => e
def fn3 (a b c : Nat) : Nat → Nat := fun k => match k with
  | 0 => a
  | 1 => b
  | _ => c
def pLs : rx_P := [(7, .astore_n 1, 0), (15, .astore_n 2, 0), (16, .iconst 1, 0), (19, .astore_n 3, 0), (20, .iconst 0, 0), (21, .istore 4, 0)]
theorem pLs_ok : ∀ q ∈ pLs, rx_ok code q := rx_ok_all (by decide +kernel)
set_option maxHeartbeats 4000000 in
set_option maxRecDepth 100000 in
theorem whole_start {p : Program} {e : Env} {s : State} {m : MethodId} {below : List Frame} {meth : Method} {c : Code} (l : Launch) (hlt : l.stackTraces = false) {b L : Nat} {xs : Nat → Int32} (hL : L ≤ 2048) (C0 : lw_At p s m meth c b L xs) : W p l e room_1 s m #[Value.ref b] below meth c s.heap [] 0 0 (lw_Z below #[Value.ref b] s) (entryFrame m ([Value.ref b] : List Value).toArray 8) := by
  obtain ⟨hx, hb, hr, hml, hown, htw, hX, hbl, hlocks, hgv⟩ := C0
  have ht : ∀ w ∈ wsA, w.before #[Value.ref b] s = true := fun w h => htw w (List.mem_filter.mp h).1
  have hts : ∀ w ∈ Cond.initialized RX3 :: wsA, w.before #[Value.ref b] s = true := List.forall_mem_cons.mpr ⟨ht _ winiX3, ht⟩
  have hgs := flat_of_before _ hgv
  obtain ⟨d0, i0, k0⟩ := u_known (C := RX0) (T := TX0) (N := 1) (n := 1) ht inX0 (ht (.instantiable RX0 1) (wA 37 (by decide +kernel) (by decide +kernel)))
  obtain ⟨d1, i1, k1⟩ := u_known (C := RX1) (T := TX1) (N := 2) (n := 2) ht inX1 (ht (.instantiable RX1 2) (wA 21 (by decide +kernel) (by decide +kernel)))
  obtain ⟨d2, i2, k2⟩ := u_known (C := RX2) (T := TX2) (N := 3) (n := 3) ht inX2 (ht (.instantiable RX2 3) (wA 47 (by decide +kernel) (by decide +kernel)))
  obtain ⟨d3, i3, k3⟩ := u_known (C := RX3) (T := TX3) (N := 5) (n := 5) ht inX3 (ht (.instantiable RX3 5) (wA 13 (by decide +kernel) (by decide +kernel)))
  obtain ⟨d4, i4, k4⟩ := u_known (C := RX4) (T := TX4) (N := 7) (n := 7) ht inX4 (ht (.instantiable RX4 7) (wA 542 (by decide +kernel) (by decide +kernel)))
  obtain ⟨D, hDK⟩ : ∃ D : va_G, va_K D vwCl [] s := by
    refine ⟨(fun c => match c with
      | 0 => d0
      | 1 => d1
      | 2 => d2
      | 3 => d3
      | _ => d4, fun c => match c with
      | 0 => i0
      | 1 => i1
      | 2 => i2
      | 3 => i3
      | _ => i4), fun c q hq => ?_, fun k q hk => by cases hk⟩
    match c, hq with
    | 0, hq => cases hq; exact k0
    | 1, hq => cases hq; exact k1
    | 2, hq => cases hq; exact k2
    | 3, hq => cases hq; exact k3
    | 4, hq => cases hq; exact k4
    | n + 5, hq => simp at hq
  have hK := hDK
  have hA : ∀ q : Nat, s.heap.size ≤ q → lZs s q := fun _ h => h
  have hS : va_S (lZs s) s.heap s.heap [] := va_S.rf
  have hP : va_P D vwCl [] s.heap := fun k q h => by cases h
  have hD : va_D (lZs s) [] := ⟨fun i j p q h => (by cases h), fun k q h => by cases h⟩
  have hl := lv_entry ([.ref b]) (n := 8) (Nat.le_of_ble_eq_true rfl)
  rw [lg_entry_eq]
  generalize (lg_sl ([.ref b]) ++ List.replicate (8 - (lg_sl ([.ref b])).length) Slot.unset).toArray = ls at hl ⊢
  have hl : lv_has ls 8 [(0, .ref b)] := hl
  refine va_new (ci := 3) (fs := [.null, .null, .null, .int 0, .int 0]) (C := RX3) (T := TX3) (N := 5) hx hb ht inX3 tyX3 tyX3_ok hown (ht (.classLink RL 8 RX3) (wA 12 (by decide +kernel) (by decide +kernel))) (ht (.instantiable RX3 5) (wA 13 (by decide +kernel) (by decide +kernel))) (ht (.initialized RX3) winiX3) hK hP hD hS hA rfl (fun j hj => by rcases (show j = 0 ∨ j = 1 ∨ j = 2 ∨ j = 3 ∨ j = 4 by omega) with rfl | rfl | rfl | rfl | rfl <;> rfl) (Nat.le_of_ble_eq_true rfl) (Nat.le_of_ble_eq_true rfl) (show decode code 0 = .ok (.new 8, 3) by decide +kernel) (fun h0 H hP hD hS => ?_)
  have hP : va_P D vwCl [(h0, .inr (3, [.null, .null, .null, .int 0, .int 0]))] H := hP
  have hD : va_D (lZs s) [(h0, .inr (3, [.null, .null, .null, .int 0, .int 0]))] := hD
  refine W.widen (k := 1) (n := 5) (Nat.le_of_ble_eq_true rfl) (Nat.le_of_ble_eq_true rfl) ?_
  refine lv_dup hx hb (show decode code 3 = .ok (.dup, 1) by decide +kernel) rfl ?_
  have hPc := hP.sub (ws' := [(h0, .inr (3, [.null, .null, .null, .int 0, .int 0]))]) [0] rfl
  have hDc := hD.sub (ws' := [(h0, .inr (3, [.null, .null, .null, .int 0, .int 0]))]) [0] (by decide) rfl
  have hKc := hK.sub (tys' := []) [] rfl
  have hFc := va_free (wc := [(h0, .inr (3, [.null, .null, .null, .int 0, .int 0]))]) hD hS hA [0] rfl
  refine va_callv (va_runI (As := []) (rest := [.ref h0]) ⟨hx, hb, hml, hown, hts⟩ (ct_X3_init l D h0 H.size) (cwI 0 hts (wsA_I wX3_init) rfl rfl rfl (ht (.initialized RX3) winiX3) (ht _ wkL_53) (ht (.instanceMethod yX3_init) (wA 15 (by decide +kernel) (by decide +kernel))) rfl (by decide +kernel) ⟨Nat.le_of_ble_eq_true rfl, Nat.le_of_ble_eq_true rfl⟩) ⟨fun a U g mk q => by obtain ⟨q0, q1, qP, qK, qD⟩ := q; exact ⟨q0, q1, qP, va_K.moved (u := U) (U := U.calling g mk a) (Vm.Alike.refl U.vm) qK, qD⟩, fun U hU hW => ⟨rfl, by rw [hU], by rw [hU]; exact hPc, va_K.moved hW.alike hKc, hDc.weaken (fun _ _ _ _ => trivial)⟩⟩ rfl rfl hl.1 rfl (lv_room (Nat.le_of_ble_eq_true rfl)) (show decode code 4 = .ok (.invokespecial 53, 3) by decide +kernel) ⟨Nat.le_of_ble_eq_true rfl, Nat.le_of_ble_eq_true rfl⟩) hS (fun q _ h => hFc q h) hFc (fun u t H1 locs htt hvm h5 hB hz1 hk1 hS => ?_)
  obtain ⟨q5_4, q8_9_4, c8_9_4, q16_4, q31_4⟩ := u
  obtain ⟨hP1, hK1, hD1⟩ := hB
  rw [htt] at hP1
  have hK1 := va_K.moved hvm.symm hK1
  obtain ⟨hP, hD⟩ := va_join (wr := []) (w1 := [(h0, .inr (3, [.ref q5_4, .ref q16_4, .ref q31_4, .int 0, .int 0])), (q5_4, .inr (1, [.ref q8_9_4, .int 0])), (q8_9_4, .inl (c8_9_4, 640, .inl (fun _ => 0))), (q16_4, .inr (0, [.ref q5_4])), (q31_4, .inr (2, [.ref q5_4, .ref q16_4, .int (-1)]))]) hP hD [0] [] rfl rfl (by decide) (by decide) hk1 hFc hP1 hD1
  have hK := (hK.sub (tys' := []) [] rfl).app hK1
  generalize H1 = H at hP hS ⊢
  have hP : va_P D vwCl [(h0, .inr (3, [.ref q5_4, .ref q16_4, .ref q31_4, .int 0, .int 0])), (q5_4, .inr (1, [.ref q8_9_4, .int 0])), (q8_9_4, .inl (c8_9_4, 640, .inl (fun _ => 0))), (q16_4, .inr (0, [.ref q5_4])), (q31_4, .inr (2, [.ref q5_4, .ref q16_4, .int (-1)]))] H := hP
  have hD : va_D (lZs s) [(h0, .inr (3, [.ref q5_4, .ref q16_4, .ref q31_4, .int 0, .int 0])), (q5_4, .inr (1, [.ref q8_9_4, .int 0])), (q8_9_4, .inl (c8_9_4, 640, .inl (fun _ => 0))), (q16_4, .inr (0, [.ref q5_4])), (q31_4, .inr (2, [.ref q5_4, .ref q16_4, .int (-1)]))] := hD
  have hK : va_K D vwCl [(c8_9_4, .byte)] s := hK
  refine W.widen (k := 5) (n := 651) (Nat.le_of_ble_eq_true rfl) (Nat.le_of_ble_eq_true rfl) ?_
  refine ws_seg (t := 8) (lv1 := [(1, .ref h0), (0, .ref b)]) (st1 := []) hx hb pLs_ok (by simp only [rx_n, rx_s, rx_to, rx_get, rx_f1, rx_f2, rx_two, rx_ext, rx_any, rx_len, rx_c, rx_m1, rx_iconst, rx_istore, rx_astore_n, tw_X_e, pLs, Nat.reduceBEq, Nat.reduceAdd, Nat.reduceLT, Nat.reduceLeDiff, Int.reduceLT, Int.reduceNeg, Int.reduceToNat, Fin.isValue, rx_fv0, rx_fv1, rx_fv2, rx_fv3, Bool.or_false, Bool.false_or, Bool.and_false, Bool.false_and, Bool.or_self, cond_true, cond_false, ↓reduceIte, eq_self, and_self, true_and, and_true]) hl (fun ls hl => ?_)
  refine va_new (ci := 4) (fs := [.int 0, .int 0, .null, .null, .int 0, .int 0, .int 0]) (C := RX4) (T := TX4) (N := 7) hx hb ht inX4 tyX4 tyX4_ok hown (ht (.classLink RL 54 RX4) (wA 541 (by decide +kernel) (by decide +kernel))) (ht (.instantiable RX4 7) (wA 542 (by decide +kernel) (by decide +kernel))) (ht (.initialized RX4) winiX4) hK hP hD hS hA rfl (fun j hj => by rcases (show j = 0 ∨ j = 1 ∨ j = 2 ∨ j = 3 ∨ j = 4 ∨ j = 5 ∨ j = 6 by omega) with rfl | rfl | rfl | rfl | rfl | rfl | rfl <;> rfl) (Nat.le_of_ble_eq_true rfl) (Nat.le_of_ble_eq_true rfl) (show decode code 8 = .ok (.new 54, 3) by decide +kernel) (fun h1 H hP hD hS => ?_)
  have hP : va_P D vwCl [(h0, .inr (3, [.ref q5_4, .ref q16_4, .ref q31_4, .int 0, .int 0])), (q5_4, .inr (1, [.ref q8_9_4, .int 0])), (q8_9_4, .inl (c8_9_4, 640, .inl (fun _ => 0))), (q16_4, .inr (0, [.ref q5_4])), (q31_4, .inr (2, [.ref q5_4, .ref q16_4, .int (-1)])), (h1, .inr (4, [.int 0, .int 0, .null, .null, .int 0, .int 0, .int 0]))] H := hP
  have hD : va_D (lZs s) [(h0, .inr (3, [.ref q5_4, .ref q16_4, .ref q31_4, .int 0, .int 0])), (q5_4, .inr (1, [.ref q8_9_4, .int 0])), (q8_9_4, .inl (c8_9_4, 640, .inl (fun _ => 0))), (q16_4, .inr (0, [.ref q5_4])), (q31_4, .inr (2, [.ref q5_4, .ref q16_4, .int (-1)])), (h1, .inr (4, [.int 0, .int 0, .null, .null, .int 0, .int 0, .int 0]))] := hD
  refine W.widen (k := 6) (n := 658) (Nat.le_of_ble_eq_true rfl) (Nat.le_of_ble_eq_true rfl) ?_
  refine lv_dup hx hb (show decode code 11 = .ok (.dup, 1) by decide +kernel) rfl ?_
  have hPc := hP.sub (ws' := [(h1, .inr (4, [.int 0, .int 0, .null, .null, .int 0, .int 0, .int 0]))]) [5] rfl
  have hDc := hD.sub (ws' := [(h1, .inr (4, [.int 0, .int 0, .null, .null, .int 0, .int 0, .int 0]))]) [5] (by decide) rfl
  have hKc := hK.sub (tys' := []) [] rfl
  have hFc := va_free (wc := [(h1, .inr (4, [.int 0, .int 0, .null, .null, .int 0, .int 0, .int 0]))]) hD hS hA [5] rfl
  refine va_callv (va_runI (As := []) (rest := [.ref h1]) ⟨hx, hb, hml, hown, hts⟩ (ct_X4_init l D h1 H.size) (cwI 0 hts (wsA_I wX4_init) rfl rfl rfl (ht (.initialized RX4) winiX4) (ht _ wkL_56) (ht (.instanceMethod yX4_init) (wA 544 (by decide +kernel) (by decide +kernel))) rfl (by decide +kernel) ⟨Nat.le_of_ble_eq_true rfl, Nat.le_of_ble_eq_true rfl⟩) ⟨fun a U g mk q => by obtain ⟨q0, q1, qP, qK, qD⟩ := q; exact ⟨q0, q1, qP, va_K.moved (u := U) (U := U.calling g mk a) (Vm.Alike.refl U.vm) qK, qD⟩, fun U hU hW => ⟨rfl, by rw [hU], by rw [hU]; exact hPc, va_K.moved hW.alike hKc, hDc.weaken (fun _ _ _ _ => trivial)⟩⟩ rfl rfl hl.1 rfl (lv_room (Nat.le_of_ble_eq_true rfl)) (show decode code 12 = .ok (.invokespecial 56, 3) by decide +kernel) ⟨Nat.le_of_ble_eq_true rfl, Nat.le_of_ble_eq_true rfl⟩) hS (fun q _ h => hFc q h) hFc (fun u t H1 locs htt hvm h5 hB hz1 hk1 hS => ?_)
  obtain ⟨q8_12, c8_12, q17_12, c17_12⟩ := u
  obtain ⟨hP1, hK1, hD1⟩ := hB
  rw [htt] at hP1
  have hK1 := va_K.moved hvm.symm hK1
  obtain ⟨hP, hD⟩ := va_join (wr := [(h0, .inr (3, [.ref q5_4, .ref q16_4, .ref q31_4, .int 0, .int 0])), (q5_4, .inr (1, [.ref q8_9_4, .int 0])), (q8_9_4, .inl (c8_9_4, 640, .inl (fun _ => 0))), (q16_4, .inr (0, [.ref q5_4])), (q31_4, .inr (2, [.ref q5_4, .ref q16_4, .int (-1)]))]) (w1 := [(h1, .inr (4, [.int 0, .int 0, .ref q8_12, .ref q17_12, .int 0, .int 0, .int (-1)])), (q8_12, .inl (c8_12, 640, .inl (fun _ => 0))), (q17_12, .inl (c17_12, 640, .inl (fun _ => 0)))]) hP hD [5] [0, 1, 2, 3, 4] rfl rfl (by decide) (by decide) hk1 hFc hP1 hD1
  have hK := (hK.sub (tys' := [(c8_9_4, .byte)]) [0] rfl).app hK1
  generalize H1 = H at hP hS ⊢
  have hP : va_P D vwCl [(h0, .inr (3, [.ref q5_4, .ref q16_4, .ref q31_4, .int 0, .int 0])), (q5_4, .inr (1, [.ref q8_9_4, .int 0])), (q8_9_4, .inl (c8_9_4, 640, .inl (fun _ => 0))), (q16_4, .inr (0, [.ref q5_4])), (q31_4, .inr (2, [.ref q5_4, .ref q16_4, .int (-1)])), (h1, .inr (4, [.int 0, .int 0, .ref q8_12, .ref q17_12, .int 0, .int 0, .int (-1)])), (q8_12, .inl (c8_12, 640, .inl (fun _ => 0))), (q17_12, .inl (c17_12, 640, .inl (fun _ => 0)))] H := hP
  have hD : va_D (lZs s) [(h0, .inr (3, [.ref q5_4, .ref q16_4, .ref q31_4, .int 0, .int 0])), (q5_4, .inr (1, [.ref q8_9_4, .int 0])), (q8_9_4, .inl (c8_9_4, 640, .inl (fun _ => 0))), (q16_4, .inr (0, [.ref q5_4])), (q31_4, .inr (2, [.ref q5_4, .ref q16_4, .int (-1)])), (h1, .inr (4, [.int 0, .int 0, .ref q8_12, .ref q17_12, .int 0, .int 0, .int (-1)])), (q8_12, .inl (c8_12, 640, .inl (fun _ => 0))), (q17_12, .inl (c17_12, 640, .inl (fun _ => 0)))] := hD
  have hK : va_K D vwCl [(c8_9_4, .byte), (c8_12, .int), (c17_12, .boolean)] s := hK
  refine W.widen (k := 8) (n := 1938) (Nat.le_of_ble_eq_true rfl) (Nat.le_of_ble_eq_true rfl) ?_
  refine ws_seg (t := 17) (lv1 := [(2, .ref h1), (1, .ref h0), (0, .ref b)]) (st1 := [.int (nI 1)]) hx hb pLs_ok (by simp only [rx_n, rx_s, rx_to, rx_get, rx_f1, rx_f2, rx_two, rx_ext, rx_any, rx_len, rx_c, rx_m1, rx_iconst, rx_istore, rx_astore_n, tw_X_e, pLs, Nat.reduceBEq, Nat.reduceAdd, Nat.reduceLT, Nat.reduceLeDiff, Int.reduceLT, Int.reduceNeg, Int.reduceToNat, Fin.isValue, rx_fv0, rx_fv1, rx_fv2, rx_fv3, Bool.or_false, Bool.false_or, Bool.and_false, Bool.false_and, Bool.or_self, cond_true, cond_false, ↓reduceIte, eq_self, and_self, true_and, and_true]) hl (fun ls hl => ?_)
  refine va_newa (atype := .long) (ty := .long) (N' := 1) (a0 := (1, .inr (.inl (fun _ => 0)))) hx hb (ht (.arrayClass (newarray.typeOf .long)) (wA 794 (by decide +kernel) (by decide +kernel))) rfl hK hP hD hS hA (fun _ => rfl) (by decide) (by decide) (by decide) (Nat.le_of_ble_eq_true rfl) (Nat.le_of_ble_eq_true rfl) (show decode code 17 = .ok (.newarray .long, 2) by decide +kernel) (fun h2 c2 H hK hP hD hS => ?_)
  refine W.widen (k := 9) (n := 1939) (Nat.le_of_ble_eq_true rfl) (Nat.le_of_ble_eq_true rfl) ?_
  refine ws_seg (t := 23) (lv1 := [(4, .int (nI 0)), (3, .ref h2), (2, .ref h1), (1, .ref h0), (0, .ref b)]) (st1 := []) hx hb pLs_ok (by simp only [rx_n, rx_s, rx_to, rx_get, rx_f1, rx_f2, rx_two, rx_ext, rx_any, rx_len, rx_c, rx_m1, rx_iconst, rx_istore, rx_astore_n, tw_X_e, pLs, Nat.reduceBEq, Nat.reduceAdd, Nat.reduceLT, Nat.reduceLeDiff, Int.reduceLT, Int.reduceNeg, Int.reduceToNat, Fin.isValue, rx_fv0, rx_fv1, rx_fv2, rx_fv3, Bool.or_false, Bool.false_or, Bool.and_false, Bool.false_and, Bool.or_self, cond_true, cond_false, ↓reduceIte, eq_self, and_self, true_and, and_true]) hl (fun ls hl => ?_)
  have hPf : va_P D vwCl (lW (fn5 h0 q5_4 q16_4 q31_4 q8_9_4) (fn3 h1 q8_12 q17_12) c8_9_4 c8_12 c17_12 c2 h2 w0) H := hP.sub (ws' := lW (fn5 h0 q5_4 q16_4 q31_4 q8_9_4) (fn3 h1 q8_12 q17_12) c8_9_4 c8_12 c17_12 c2 h2 w0) [0, 1, 3, 4, 2, 5, 6, 7, 8] rfl
  have hDf : va_D (lZs s) (lW (fn5 h0 q5_4 q16_4 q31_4 q8_9_4) (fn3 h1 q8_12 q17_12) c8_9_4 c8_12 c17_12 c2 h2 w0) := hD.sub (ws' := lW (fn5 h0 q5_4 q16_4 q31_4 q8_9_4) (fn3 h1 q8_12 q17_12) c8_9_4 c8_12 c17_12 c2 h2 w0) [0, 1, 3, 4, 2, 5, 6, 7, 8] (by decide) rfl
  have hKb : va_K D vwCl [(c8_9_4, .byte)] s := hK.sub (tys' := [(c8_9_4, .byte)]) [0] rfl
  have hKm : va_K D vwCl [(c8_12, .int), (c17_12, .boolean)] s := hK.sub (tys' := [(c8_12, .int), (c17_12, .boolean)]) [1, 2] rfl
  have hKl : va_K D vwCl [(c2, .long)] s := hK.sub (tys' := [(c2, .long)]) [3] rfl
  have hcK : cK D c8_9_4 s := ⟨hKb, va_Nw.of rfl (htw _ (List.mem_append_right _ (List.mem_of_getElem? (i := 28) (by decide +kernel)))), va_Nw.of rfl (htw _ (List.mem_append_right _ (List.mem_of_getElem? (i := 29) (by decide +kernel)))), va_Nw.of rfl (htw _ (List.mem_append_right _ (List.mem_of_getElem? (i := 55) (by decide +kernel))))⟩
  have hW3 : ∀ w ∈ tkW, w.before #[] s = true := List.forall_mem_cons.mpr ⟨tk_warm (tkW_ok _ (by simp [tkW])).1 ((tkW_ok _ (by simp [tkW])).2 s) (State.WarmedH.refl s) (htw _ (List.mem_append_right _ (List.mem_of_getElem? (i := 336) (by decide +kernel)))), List.forall_mem_cons.mpr ⟨tk_warm (tkW_ok _ (by simp [tkW])).1 ((tkW_ok _ (by simp [tkW])).2 s) (State.WarmedH.refl s) (htw _ (List.mem_append_right _ (List.mem_of_getElem? (i := 338) (by decide +kernel)))), List.forall_mem_cons.mpr ⟨tk_warm (tkW_ok _ (by simp [tkW])).1 ((tkW_ok _ (by simp [tkW])).2 s) (State.WarmedH.refl s) (htw _ (List.mem_append_right _ (List.mem_of_getElem? (i := 340) (by decide +kernel)))), fun _ h => by cases h⟩⟩⟩
  have hst : ∀ (k : Nat) (tx : String), (Cond.stringRef RX3 k tx).before #[Value.ref b] s = true → (Cond.exactly (.string RX3 k) "java/lang/String").before #[Value.ref b] s = true → ∃ a, vk_R RX3 k tx a s := by
    intro k tx h1 h2
    obtain ⟨a, _, _, _, q1, _⟩ := Cond.exactly_spec (args := #[Value.ref b]) (first := s) (o := none) (s := s) (idx := []) (t := .string RX3 k) (cls := "java/lang/String") h2
    exact ⟨a, vk_R.of h1 q1⟩
  have hW4 : ∀ q ∈ tsS, ∃ a, vk_R RX3 q.1 q.2 a s := List.forall_mem_cons.mpr ⟨hst 44 _ (htw _ (List.mem_append_right _ (List.mem_of_getElem? (i := 373) (by decide +kernel)))) (hgs _ (by decide +kernel)), List.forall_mem_cons.mpr ⟨hst 54 _ (htw _ (List.mem_append_right _ (List.mem_of_getElem? (i := 408) (by decide +kernel)))) (hgs _ (by decide +kernel)), List.forall_mem_cons.mpr ⟨hst 61 _ (htw _ (List.mem_append_right _ (List.mem_of_getElem? (i := 426) (by decide +kernel)))) (hgs _ (by decide +kernel)), List.forall_mem_cons.mpr ⟨hst 74 _ (htw _ (List.mem_append_right _ (List.mem_of_getElem? (i := 438) (by decide +kernel)))) (hgs _ (by decide +kernel)), List.forall_mem_cons.mpr ⟨hst 133 _ (htw _ (List.mem_append_right _ (List.mem_of_getElem? (i := 449) (by decide +kernel)))) (hgs _ (by decide +kernel)), List.forall_mem_cons.mpr ⟨hst 135 _ (htw _ (List.mem_append_right _ (List.mem_of_getElem? (i := 454) (by decide +kernel)))) (hgs _ (by decide +kernel)), List.forall_mem_cons.mpr ⟨hst 139 _ (htw _ (List.mem_append_right _ (List.mem_of_getElem? (i := 477) (by decide +kernel)))) (hgs _ (by decide +kernel)), fun _ h => by cases h⟩⟩⟩⟩⟩⟩⟩
  have hlw : lwK D c8_9_4 c2 s := ⟨⟨hcK, hW3, hW4⟩, hKl, kn_of (hgs (.not (.castable xIS xIA)) (by decide +kernel)), kn_of (hgs (.not (.castable xNE xIA)) (by decide +kernel)), kn_of (hgs (.not (.castable xNE xIS)) (by decide +kernel))⟩
  have hz : tz (lZs s) s s.heap := tz_of (a := #[Value.ref b]) (List.forall_mem_cons.mpr ⟨hgs _ (by decide +kernel), List.forall_mem_cons.mpr ⟨hgs _ (by decide +kernel), List.forall_mem_cons.mpr ⟨htw _ (List.mem_append_right _ (List.mem_of_getElem? (i := 359) (by decide +kernel))), List.forall_mem_cons.mpr ⟨htw _ (List.mem_append_right _ (List.mem_of_getElem? (i := 361) (by decide +kernel))), fun _ h => by cases h⟩⟩⟩⟩)
  have hat : ∀ i j : Nat, i < 9 → j < 9 → (lW (fn5 h0 q5_4 q16_4 q31_4 q8_9_4) (fn3 h1 q8_12 q17_12) c8_9_4 c8_12 c17_12 c2 h2 w0)[i]?.map Prod.fst = (lW (fn5 h0 q5_4 q16_4 q31_4 q8_9_4) (fn3 h1 q8_12 q17_12) c8_9_4 c8_12 c17_12 c2 h2 w0)[j]?.map Prod.fst → i = j := by
    intro i j hi hj h
    cases ei : (lW (fn5 h0 q5_4 q16_4 q31_4 q8_9_4) (fn3 h1 q8_12 q17_12) c8_9_4 c8_12 c17_12 c2 h2 w0)[i]? with
    | none => exact absurd (List.getElem?_eq_none_iff.mp ei) (Nat.not_le.mpr hi)
    | some x =>
      cases ej : (lW (fn5 h0 q5_4 q16_4 q31_4 q8_9_4) (fn3 h1 q8_12 q17_12) c8_9_4 c8_12 c17_12 c2 h2 w0)[j]? with
      | none => exact absurd (List.getElem?_eq_none_iff.mp ej) (Nat.not_le.mpr hj)
      | some z =>
        rw [ei, ej] at h
        exact hDf.1 i j x z ei ej (Option.some.inj h)
  have hcat : ∀ i, i < 5 → (lW (fn5 h0 q5_4 q16_4 q31_4 q8_9_4) (fn3 h1 q8_12 q17_12) c8_9_4 c8_12 c17_12 c2 h2 w0)[i]?.map Prod.fst = some ((fn5 h0 q5_4 q16_4 q31_4 q8_9_4) i) := fun i hi => by
    match i, hi with
    | 0, _ => rfl
    | 1, _ => rfl
    | 2, _ => rfl
    | 3, _ => rfl
    | 4, _ => rfl
  have hmat : ∀ i, i < 3 → (lW (fn5 h0 q5_4 q16_4 q31_4 q8_9_4) (fn3 h1 q8_12 q17_12) c8_9_4 c8_12 c17_12 c2 h2 w0)[5 + i]?.map Prod.fst = some ((fn3 h1 q8_12 q17_12) i) := fun i hi => by
    match i, hi with
    | 0, _ => rfl
    | 1, _ => rfl
    | 2, _ => rfl
  have hoat : (lW (fn5 h0 q5_4 q16_4 q31_4 q8_9_4) (fn3 h1 q8_12 q17_12) c8_9_4 c8_12 c17_12 c2 h2 w0)[8]?.map Prod.fst = some h2 := rfl
  have hlD : lD (fn5 h0 q5_4 q16_4 q31_4 q8_9_4) (fn3 h1 q8_12 q17_12) h2 := by
    refine ⟨fun i j hi hj h => hat i j (by omega) (by omega) (by rw [hcat i hi, hcat j hj, h]), fun i j hi hj h => ?_, fun q h1 h2 => ?_, fun h1 => ?_, fun h1 => ?_⟩
    · have := hat (5 + i) (5 + j) (by omega) (by omega) (by rw [hmat i hi, hmat j hj, h])
      omega
    · obtain ⟨i, hi, e1⟩ := h1
      obtain ⟨j, hj, e2⟩ := h2
      have := hat i (5 + j) (by omega) (by omega) (by rw [hcat i hi, hmat j hj, ← e1, ← e2])
      omega
    · obtain ⟨i, hi, e1⟩ := h1
      have := hat i 8 (by omega) (by omega) (by rw [hcat i hi, hoat, ← e1])
      omega
    · obtain ⟨i, hi, e1⟩ := h1
      have := hat (5 + i) 8 (by omega) (by omega) (by rw [hmat i hi, hoat, ← e1])
      omega
  have hge : ∀ q, cA (fn5 h0 q5_4 q16_4 q31_4 q8_9_4) q ∨ mA (fn3 h1 q8_12 q17_12) q ∨ q = h2 → s.heap.size ≤ q := by
    have up : ∀ (k q : Nat), (lW (fn5 h0 q5_4 q16_4 q31_4 q8_9_4) (fn3 h1 q8_12 q17_12) c8_9_4 c8_12 c17_12 c2 h2 w0)[k]?.map Prod.fst = some q → s.heap.size ≤ q := by
      intro k q h
      cases ei : (lW (fn5 h0 q5_4 q16_4 q31_4 q8_9_4) (fn3 h1 q8_12 q17_12) c8_9_4 c8_12 c17_12 c2 h2 w0)[k]? with
      | none => rw [ei] at h; cases h
      | some x =>
        rw [ei] at h
        cases h
        exact hDf.2 k x ei
    intro q h
    rcases h with ⟨i, hi, e1⟩ | ⟨i, hi, e1⟩ | e1
    · exact up i q (by rw [hcat i hi, e1])
    · exact up (5 + i) q (by rw [hmat i hi, e1])
    · exact up 8 q (by rw [hoat, e1])
  have LXh : LX p l s m #[Value.ref b] c D (fn5 h0 q5_4 q16_4 q31_4 q8_9_4) (fn3 h1 q8_12 q17_12) c8_9_4 c8_12 c17_12 c2 h2 b L xs := ⟨⟨hx, hb, hml, hown, hts⟩, hlt, hlw, ⟨hKm, trivial⟩, hlD, hge, hX, hbl, hL, hz⟩
  have hret : lRet p l e s m #[Value.ref b] below meth c (lw_Z below #[Value.ref b] s) D (fn5 h0 q5_4 q16_4 q31_4 q8_9_4) (fn3 h1 q8_12 q17_12) c8_9_4 c8_12 c17_12 c2 h2 := by
    intro cells slots w H locs pc ls i st v hf hI hrt hd hq
    have hq : v = some (.int (nI 1)) := hq
    subst hq
    unfold rx_ret at hrt
    split at hrt
    · cases hrt
      refine va_forget (fun q hq => hI.2.2.2 q hq) (W.widen (k := 1040) (n := 10173) hf.1 hf.2 ?_)
      exact lw_ret hx hb hr hlocks hd
    · cases hrt
    · cases hrt
    · cases hrt
  exact lw_loop LXh hret 512 0 9 1939 (by omega) (by omega) (by decide) (by decide) H _ ls w0 ⟨hPf, hS⟩ ⟨rfl, rfl, fun h => absurd rfl h⟩ (rx_sub_has hl (by simp [lv5, rx_get, fn5, fn3]))
set_option maxHeartbeats 4000000 in
theorem lw_walk (l : Launch) (hlt : l.stackTraces = false) (b : Addr) (xs : List Int32) : MetFree l x (headSpec (Jvm.Cond.code x code maxLocals ret :: tables_1) room_1) (lw_P b xs) (fun _ _ _ _ _ => True) lw_Q := by
  refine MetFree.of_bodyS (code := code) (maxLocals := maxLocals) (ret := ret) (by decide) ?_ ?_
  · intro args s m h hn
    obtain ⟨meth, c, h1, h2, h3, h4, h5, h6, -, -⟩ := Cond.code_spec hn (atoms_spec (ws := Jvm.Cond.code x code maxLocals ret :: tables_1) h _ List.mem_cons_self)
    exact ⟨meth, c, h1, h2, h3, h4, h5, h6⟩
  · intro p e s m args below meth c s₁ B hml0 hP _
    obtain ⟨rfl, hx, hbd, hgv⟩ := hP
    obtain ⟨scr, harrAt, hlist, hof, hsmall⟩ := hx
    obtain ⟨hcb, hkn, -, -⟩ := State.arrayAt?_spec harrAt
    have hown : s.vm.findClass R_law = some m.cls := findClass_of_methodNamed B.named
    have hts0 : ∀ c ∈ (Jvm.Cond.code x code maxLocals ret :: tables_1), c.before #[Value.ref b] s = true := atoms_spec (ws := Jvm.Cond.code x code maxLocals ret :: tables_1) B.pre
    have hts : ∀ w ∈ lw_tbl, w.before #[Value.ref b] s = true := k2_hts_sels lw_privs (fun w hw => hts0 w (List.mem_cons_of_mem _ hw)) lw_privs_ok
    have hml : c.maxLocals = 8 := B.maxLocals_eq (hts0 _ List.mem_cons_self)
    have X₀ : Stand p l e room_1 s m #[Value.ref b] below meth c s₁ [] 0 0 := Stand.of_body B
    have hh0 : s₁.heap = s.heap := by rw [B.state]; rfl
    have hsz : scr.slots.size = xs.length := by rw [← Array.length_toList, hlist, List.length_map]
    have hval : ∀ j : Nat, j < xs.length → scr.slots[j]? = some (.int (xs.getD j 0)) := fun j hj => by
      rw [← Array.getElem?_toList, hlist]
      simp [hj]
    have hbl : b < s.heap.size := (Array.getElem?_eq_some_iff.mp hcb).1
    have hX : va_X b xs.length (fun j => xs.getD j 0) s s.heap := ⟨scr, hcb, hof, hkn, hsz, hval⟩
    have K : W p l e room_1 s m #[Value.ref b] below meth c s₁.heap [] 0 0 (lw_Z below #[Value.ref b] s) (entryFrame m ([Value.ref b] : List Value).toArray 8) := by
      rw [hh0]
      exact whole_start l hlt hbd ⟨B.exec, B.bytes, B.returns, hml, hown, hts, hX, hbl, B.notSynchronized, hgv⟩
    obtain ⟨t, a1, o, b1, b2, b3⟩ := K s₁ rfl X₀
    exact ⟨t, o, a1, b1, b2, b3⟩
theorem lw_pre_spec {args : Array Value} {s : State} (h : (Jvm.Cond.and given_1 narrow_1).before args s = true) (hr : rest_1_c.before args s = true) : ∃ (b : Addr) (xs : List Int32), lw_P b xs args s := by
  have hs := flat_of_before _ h
  have hq := flat_of_before _ hr
  have hc : (Cond.count 1).before args s = true := hs _ (by decide +kernel)
  have harr : (Cond.arrayOf (.arg 0) .int).before args s = true := hs _ (by decide +kernel)
  have hle : (Cond.le (.length (.arg 0)) (.int 2048)).before args s = true := hs _ (by decide +kernel)
  have hlen : (Cond.isInt (.length (.arg 0))).before args s = true := hq _ (by decide +kernel)
  have hall : (Cond.all (.arg 0) (.isInt (.elem (.arg 0) (.index 0)))).before args s = true := hq _ (by decide +kernel)
  obtain ⟨b, xs, hb, hx⟩ := State.ints_of_pre rfl harr hlen hall
  have hsm : xs.length < 2 ^ 31 := hx.choose_spec.2.2.2
  have hev : (Term.length (.arg 0)).eval args s none [] s = some (.int xs.length.toInt32) := hx.length_eval hb
  have hv := Cond.le_ints hev (show (Term.int 2048).eval args s none [] s = some (.int 2048) from rfl)
  have hd : xs.length.toInt32 ≤ 2048 := by
    simpa [Cond.before, Cond.holds, hv] using hle
  have hN : xs.length ≤ 2048 := (Int32.ofNat_le_ofNat hsm (by decide)).mp (show Int32.ofNat xs.length ≤ Int32.ofNat 2048 from hd)
  exact ⟨b, xs, Cond.one_arg hc (show args[0]? = some (.ref b) from hb), hx, hN, h⟩
theorem lw_comes (l : Launch) (hlt : l.stackTraces = false) : Comes l x (Jvm.Cond.code x code maxLocals ret :: tables_1) room_1 (fun tb e args s => Calls_1 tb e args s ∧ rest_1 tb e args s ∧ Pre_1 tb e args s)
    (fun _ _ args s o t => lw_Q args s o t) := by
  intro p e ha hc hk s m args below hf hfit hheap happ hpre
  obtain ⟨b, xs, hP⟩ := lw_pre_spec hpre.2.2 hpre.2.1
  obtain ⟨k, o, h1, h2, h3, hQ⟩ := lw_walk l hlt b xs p e ha hc hk s m args below hf ((Spec.applies_iff_loose hf).mp happ).1 hP trivial
  exact ⟨k, o, h1, h2, h3, hQ⟩
theorem lw_frame {s t : State} {o : Outcome} {args : Array Value} (h : Framed s o t [] 1040 10173) :
    Framed s o t (fieldLocs frame_1_writes args s ++ arrayLocs frame_1_arrays args s ++ staticLocs frame_1_statics s) 1040 10173 := h
theorem lw_limb (L : Cond) (hL : ∀ (args : Array Value) (s t : State), L.after args s (.returned (some (.int 1))) t = true) :
    ArmFor flags0 classFile x code maxLocals ret World_1 tables_1 room_1 Calls_1 rest_1 Pre_1
      (fun tb e a s o t => postC L tb e a s o t ∧ Framed s o t (fieldLocs frame_1_writes a s ++ arrayLocs frame_1_arrays a s ++ staticLocs frame_1_statics s) 1040 10173) := by
  intro l hfl _ _ p e ha hc hk s m args below hf hfit hheap happ hpre
  obtain ⟨k, o, h1, h2, h3, rfl, hF⟩ := lw_comes l (by unfold Launch.stackTraces; rw [hfl]; decide) p e ha hc hk s m args below hf hfit hheap happ hpre
  exact ⟨k, _, h1, h2, h3, hL args s _, lw_frame hF⟩
theorem i_vc : Claimed_1_1 ∧ Claimed_1_2 := ⟨lw_limb limb_1_1 (fun args s t => by simp [limb_1_1, Cond.after, Cond.holds, Cond.value]), lw_limb limb_1_2 (fun args s t => Cond.after_iff.mpr (by
  first | (rw [show limb_1_2 = Cond.eq .result (.int 1) from rfl, Cond.eq_ints (x := 1) (y := 1) rfl rfl]; simp; done) | (simp [limb_1_2, Cond.value, Term.eval]; done)))⟩
