/-! The constructors. -/
abbrev rX1_init : Room := { frames := 1, cells := 1, slots := 640, locals := 12 }
set_option maxHeartbeats 4000000 in
set_option maxRecDepth 100000 in
theorem ct_X1_init (l : Launch) (D : va_G) (h0 sz : Nat) : Met l yX1_init (Cond.code yX1_init cX1_init 1 none :: wsA) rX1_init (va_Pc [.ref h0] (fun U => U.heap.size = sz ∧ va_P D vwCl [(h0, .inr (1, [.null, .int 0]))] U.heap ∧ va_K D vwCl [] U ∧ va_D (fun _ => True) [(h0, .inr (1, [.null, .int 0]))])) (va_Qv (fun _ : Nat × ClassId => True) (fun u t => match u with | (q8, c8) => va_P D vwCl [(h0, .inr (1, [.ref q8, .int 0])), (q8, .inl (c8, 640, .inl (fun _ => 0)))] t.heap ∧ va_K D vwCl [(c8, .byte)] t ∧ va_D (va_A [(h0, .inr (1, [.null, .int 0]))] sz) [(h0, .inr (1, [.ref q8, .int 0])), (q8, .inl (c8, 640, .inl (fun _ => 0)))]) (va_A [(h0, .inr (1, [.null, .int 0]))] sz)) 1 640 (va_A [(h0, .inr (1, [.null, .int 0]))] sz) := by
  refine Met.ofW (cc := cX1_init) (maxL := 1) (ret := none) (by decide) rfl ?_
  intro p e s m args below meth c s₁ B hml hv
  obtain ⟨rfl, hsz, hP, hK, hD0⟩ := hv
  have hx := B.exec
  have hb := B.bytes
  have hr := B.returns
  have hts := atoms_spec (ws := Cond.code yX1_init cX1_init 1 none :: wsA) B.pre
  have ht : ∀ w ∈ wsA, w.before _ s = true := fun w h => hts w (wsA_in h)
  have hown : s.vm.findClass RX1 = some m.cls := findClass_of_methodNamed B.named
  have hlocks := B.notSynchronized
  have hin : meth.name = "<init>" := (name_of_methodNamed B.named B.method).1
  subst hsz
  have hD := hD0.self (sz := s.heap.size)
  generalize hAe : va_A [(h0, .inr (1, [.null, .int 0]))] s.heap.size = A at hD ⊢
  have hA : ∀ q : Nat, s.heap.size ≤ q → A q := fun q h => by rw [← hAe]; exact Or.inr h
  have hS : va_S A s.heap s.heap [] := va_S.rf
  have hP : va_P D vwCl [(h0, .inr (1, [.null, .int 0]))] s.heap := hP
  have hl := lv_entry ([.ref h0]) (n := 1) (Nat.le_of_ble_eq_true rfl)
  rw [lg_entry_eq]
  generalize (lg_sl ([.ref h0]) ++ List.replicate (1 - (lg_sl ([.ref h0])).length) Slot.unset).toArray = ls at hl ⊢
  have hl : lv_has ls 1 [(0, .ref h0)] := hl
  refine lv_aload_n hx hb (show decode cX1_init 0 = .ok (.aload_n 0, 1) by decide +kernel) rfl (lv_at hl 0 rfl) ?_
  refine W.objInit hx hb hown (ht (.methodLink RX1 3 objectInit) (wA 25 (by decide +kernel) (by decide +kernel))) (ht (.instanceMethod objectInit) (wA 18 (by decide +kernel) (by decide +kernel))) (ht (.code objectInit ⟨#[0xb1]⟩ 1 none) (wA 19 (by decide +kernel) (by decide +kernel))) rfl (by rw [hml]; exact hl.1) rfl (show decode cX1_init 1 = .ok (.invokespecial 3, 3) by decide +kernel) (Nat.le_of_ble_eq_true rfl) (Nat.le_of_ble_eq_true rfl) ?_
  refine W.eq (g2 := F0 m 4 ls []) rfl ?_
  refine lv_aload_n hx hb (show decode cX1_init 4 = .ok (.aload_n 0, 1) by decide +kernel) rfl (lv_at hl 0 rfl) ?_
  refine lv_sipush (v := 640) hx hb (show decode cX1_init 5 = .ok (.sipush 640, 3) by decide +kernel) (by decide) ?_
  refine va_newa (atype := .byte) (ty := .byte) (N' := 640) (a0 := (640, .inl (fun _ => 0))) hx hb (ht (.arrayClass (newarray.typeOf .byte)) (wA 35 (by decide +kernel) (by decide +kernel))) rfl hK hP hD hS hA (fun _ => rfl) (by decide) (by decide) (by decide) (Nat.le_of_ble_eq_true rfl) (Nat.le_of_ble_eq_true rfl) (show decode cX1_init 8 = .ok (.newarray .byte, 2) by decide +kernel) (fun q8 c8 H hK hP hD hS => ?_)
  have hP : va_P D vwCl [(h0, .inr (1, [.null, .int 0])), (q8, .inl (c8, 640, .inl (fun _ => 0)))] H := hP
  have hD : va_D A [(h0, .inr (1, [.null, .int 0])), (q8, .inl (c8, 640, .inl (fun _ => 0)))] := hD
  have hK : va_K D vwCl [(c8, .byte)] s := hK
  refine W.widen (k := 1) (n := 640) (Nat.le_of_ble_eq_true rfl) (Nat.le_of_ble_eq_true rfl) ?_
  refine va_putF (D := D) (ci := 1) (v := .ref q8) (ty := .array .byte) (C := RX1) (T := TX1) (N := 2) hx hb ht inX1 tyX1 tyX1_ok nmX1 hown hK hP hD hS 0 rfl rfl 0 (by decide) (ht _ wfX1_9) (fun _ h9 => h9) rfl hin rfl (by decide +kernel) rfl rfl (Nat.le_of_ble_eq_true rfl) (show decode cX1_init 10 = .ok (.putfield 9, 3) by decide +kernel) (fun H locs hP hD hS => ?_)
  have hP : va_P D vwCl [(h0, .inr (1, [.ref q8, .int 0])), (q8, .inl (c8, 640, .inl (fun _ => 0)))] H := hP
  have hD : va_D A [(h0, .inr (1, [.ref q8, .int 0])), (q8, .inl (c8, 640, .inl (fun _ => 0)))] := hD
  refine lv_aload_n hx hb (show decode cX1_init 13 = .ok (.aload_n 0, 1) by decide +kernel) rfl (lv_at hl 0 rfl) ?_
  refine lv_iconst (v := 0) hx hb (show decode cX1_init 14 = .ok (.iconst 0, 1) by decide +kernel) (by decide) ?_
  refine va_put (D := D) (ci := 1) (v := .int 0) (ty := .int) (C := RX1) (T := TX1) (N := 2) hx hb ht inX1 tyX1 tyX1_ok nmX1 hown hK hP hD hS 0 rfl rfl 1 (by decide) (ht _ wfX1_15) (fun _ h9 => h9) rfl (by decide +kernel) rfl rfl (Nat.le_of_ble_eq_true rfl) (show decode cX1_init 15 = .ok (.putfield 15, 3) by decide +kernel) (fun H locs hP hD hS => ?_)
  have hP : va_P D vwCl [(h0, .inr (1, [.ref q8, .int 0])), (q8, .inl (c8, 640, .inl (fun _ => 0)))] H := hP
  have hD : va_D A [(h0, .inr (1, [.ref q8, .int 0])), (q8, .inl (c8, 640, .inl (fun _ => 0)))] := hD
  refine W.widen (k := 1) (n := 640) (Nat.le_of_ble_eq_true rfl) (Nat.le_of_ble_eq_true rfl) ?_
  exact W.vret hx hb hr (fun t htt hW => ⟨⟨(q8, c8), rfl, trivial, by rw [htt]; exact hP, va_K.moved hW.alike hK, hD⟩, hS.F htt⟩) hS.2.2 (show decode cX1_init 18 = .ok (.return_, 1) by decide +kernel)
abbrev rX0_init : Room := { frames := 1, cells := 0, slots := 0, locals := 12 }
set_option maxHeartbeats 4000000 in
set_option maxRecDepth 100000 in
theorem ct_X0_init (l : Launch) (D : va_G) (h0 a1 sz : Nat) : Met l yX0_init (Cond.code yX0_init cX0_init 2 none :: wsA) rX0_init (va_Pc [.ref h0, .ref a1] (fun U => U.heap.size = sz ∧ va_P D vwCl [(h0, .inr (0, [.null]))] U.heap ∧ va_K D vwCl [] U ∧ va_D (fun _ => True) [(h0, .inr (0, [.null]))])) (va_Qv (fun _ : Unit => True) (fun u t => match u with | () => va_P D vwCl [(h0, .inr (0, [.ref a1]))] t.heap ∧ va_K D vwCl [] t ∧ va_D (va_A [(h0, .inr (0, [.null]))] sz) [(h0, .inr (0, [.ref a1]))]) (va_A [(h0, .inr (0, [.null]))] sz)) 0 0 (va_A [(h0, .inr (0, [.null]))] sz) := by
  refine Met.ofW (cc := cX0_init) (maxL := 2) (ret := none) (by decide) rfl ?_
  intro p e s m args below meth c s₁ B hml hv
  obtain ⟨rfl, hsz, hP, hK, hD0⟩ := hv
  have hx := B.exec
  have hb := B.bytes
  have hr := B.returns
  have hts := atoms_spec (ws := Cond.code yX0_init cX0_init 2 none :: wsA) B.pre
  have ht : ∀ w ∈ wsA, w.before _ s = true := fun w h => hts w (wsA_in h)
  have hown : s.vm.findClass RX0 = some m.cls := findClass_of_methodNamed B.named
  have hlocks := B.notSynchronized
  have hin : meth.name = "<init>" := (name_of_methodNamed B.named B.method).1
  subst hsz
  have hD := hD0.self (sz := s.heap.size)
  generalize hAe : va_A [(h0, .inr (0, [.null]))] s.heap.size = A at hD ⊢
  have hA : ∀ q : Nat, s.heap.size ≤ q → A q := fun q h => by rw [← hAe]; exact Or.inr h
  have hS : va_S A s.heap s.heap [] := va_S.rf
  have hP : va_P D vwCl [(h0, .inr (0, [.null]))] s.heap := hP
  have hl := lv_entry ([.ref h0, .ref a1]) (n := 2) (Nat.le_of_ble_eq_true rfl)
  rw [lg_entry_eq]
  generalize (lg_sl ([.ref h0, .ref a1]) ++ List.replicate (2 - (lg_sl ([.ref h0, .ref a1])).length) Slot.unset).toArray = ls at hl ⊢
  have hl : lv_has ls 2 [(0, .ref h0), (1, .ref a1)] := hl
  refine lv_aload_n hx hb (show decode cX0_init 0 = .ok (.aload_n 0, 1) by decide +kernel) rfl (lv_at hl 0 rfl) ?_
  refine W.objInit hx hb hown (ht (.methodLink RX0 3 objectInit) (wA 41 (by decide +kernel) (by decide +kernel))) (ht (.instanceMethod objectInit) (wA 18 (by decide +kernel) (by decide +kernel))) (ht (.code objectInit ⟨#[0xb1]⟩ 1 none) (wA 19 (by decide +kernel) (by decide +kernel))) rfl (by rw [hml]; exact hl.1) rfl (show decode cX0_init 1 = .ok (.invokespecial 3, 3) by decide +kernel) (Nat.le_of_ble_eq_true rfl) (Nat.le_of_ble_eq_true rfl) ?_
  refine W.eq (g2 := F0 m 4 ls []) rfl ?_
  refine lv_aload_n hx hb (show decode cX0_init 4 = .ok (.aload_n 0, 1) by decide +kernel) rfl (lv_at hl 0 rfl) ?_
  refine lv_aload_n hx hb (show decode cX0_init 5 = .ok (.aload_n 1, 1) by decide +kernel) rfl (lv_at hl 1 rfl) ?_
  refine va_putF (D := D) (ci := 0) (v := .ref a1) (ty := .object "FileJudge$Row") (C := RX0) (T := TX0) (N := 1) hx hb ht inX0 tyX0 tyX0_ok nmX0 hown hK hP hD hS 0 rfl rfl 0 (by decide) (ht _ wfX0_9) (fun _ h9 => h9) rfl hin rfl (by decide +kernel) rfl rfl (Nat.le_of_ble_eq_true rfl) (show decode cX0_init 6 = .ok (.putfield 9, 3) by decide +kernel) (fun H locs hP hD hS => ?_)
  have hP : va_P D vwCl [(h0, .inr (0, [.ref a1]))] H := hP
  have hD : va_D A [(h0, .inr (0, [.ref a1]))] := hD
  refine W.widen (k := 0) (n := 0) (Nat.le_of_ble_eq_true rfl) (Nat.le_of_ble_eq_true rfl) ?_
  exact W.vret hx hb hr (fun t htt hW => ⟨⟨(), rfl, trivial, by rw [htt]; exact hP, va_K.moved hW.alike hK, hD⟩, hS.F htt⟩) hS.2.2 (show decode cX0_init 9 = .ok (.return_, 1) by decide +kernel)
abbrev rX2_init : Room := { frames := 1, cells := 0, slots := 0, locals := 12 }
set_option maxHeartbeats 4000000 in
set_option maxRecDepth 100000 in
theorem ct_X2_init (l : Launch) (D : va_G) (h0 a1 a2 sz : Nat) : Met l yX2_init (Cond.code yX2_init cX2_init 3 none :: wsA) rX2_init (va_Pc [.ref h0, .ref a1, .ref a2] (fun U => U.heap.size = sz ∧ va_P D vwCl [(h0, .inr (2, [.null, .null, .int 0]))] U.heap ∧ va_K D vwCl [] U ∧ va_D (fun _ => True) [(h0, .inr (2, [.null, .null, .int 0]))])) (va_Qv (fun _ : Unit => True) (fun u t => match u with | () => va_P D vwCl [(h0, .inr (2, [.ref a1, .ref a2, .int (-1)]))] t.heap ∧ va_K D vwCl [] t ∧ va_D (va_A [(h0, .inr (2, [.null, .null, .int 0]))] sz) [(h0, .inr (2, [.ref a1, .ref a2, .int (-1)]))]) (va_A [(h0, .inr (2, [.null, .null, .int 0]))] sz)) 0 0 (va_A [(h0, .inr (2, [.null, .null, .int 0]))] sz) := by
  refine Met.ofW (cc := cX2_init) (maxL := 3) (ret := none) (by decide) rfl ?_
  intro p e s m args below meth c s₁ B hml hv
  obtain ⟨rfl, hsz, hP, hK, hD0⟩ := hv
  have hx := B.exec
  have hb := B.bytes
  have hr := B.returns
  have hts := atoms_spec (ws := Cond.code yX2_init cX2_init 3 none :: wsA) B.pre
  have ht : ∀ w ∈ wsA, w.before _ s = true := fun w h => hts w (wsA_in h)
  have hown : s.vm.findClass RX2 = some m.cls := findClass_of_methodNamed B.named
  have hlocks := B.notSynchronized
  have hin : meth.name = "<init>" := (name_of_methodNamed B.named B.method).1
  subst hsz
  have hD := hD0.self (sz := s.heap.size)
  generalize hAe : va_A [(h0, .inr (2, [.null, .null, .int 0]))] s.heap.size = A at hD ⊢
  have hA : ∀ q : Nat, s.heap.size ≤ q → A q := fun q h => by rw [← hAe]; exact Or.inr h
  have hS : va_S A s.heap s.heap [] := va_S.rf
  have hP : va_P D vwCl [(h0, .inr (2, [.null, .null, .int 0]))] s.heap := hP
  have hl := lv_entry ([.ref h0, .ref a1, .ref a2]) (n := 3) (Nat.le_of_ble_eq_true rfl)
  rw [lg_entry_eq]
  generalize (lg_sl ([.ref h0, .ref a1, .ref a2]) ++ List.replicate (3 - (lg_sl ([.ref h0, .ref a1, .ref a2])).length) Slot.unset).toArray = ls at hl ⊢
  have hl : lv_has ls 3 [(0, .ref h0), (1, .ref a1), (2, .ref a2)] := hl
  refine lv_aload_n hx hb (show decode cX2_init 0 = .ok (.aload_n 0, 1) by decide +kernel) rfl (lv_at hl 0 rfl) ?_
  refine W.objInit hx hb hown (ht (.methodLink RX2 3 objectInit) (wA 51 (by decide +kernel) (by decide +kernel))) (ht (.instanceMethod objectInit) (wA 18 (by decide +kernel) (by decide +kernel))) (ht (.code objectInit ⟨#[0xb1]⟩ 1 none) (wA 19 (by decide +kernel) (by decide +kernel))) rfl (by rw [hml]; exact hl.1) rfl (show decode cX2_init 1 = .ok (.invokespecial 3, 3) by decide +kernel) (Nat.le_of_ble_eq_true rfl) (Nat.le_of_ble_eq_true rfl) ?_
  refine W.eq (g2 := F0 m 4 ls []) rfl ?_
  refine lv_aload_n hx hb (show decode cX2_init 4 = .ok (.aload_n 0, 1) by decide +kernel) rfl (lv_at hl 0 rfl) ?_
  refine lv_aload_n hx hb (show decode cX2_init 5 = .ok (.aload_n 1, 1) by decide +kernel) rfl (lv_at hl 1 rfl) ?_
  refine va_putF (D := D) (ci := 2) (v := .ref a1) (ty := .object "FileJudge$Row") (C := RX2) (T := TX2) (N := 3) hx hb ht inX2 tyX2 tyX2_ok nmX2 hown hK hP hD hS 0 rfl rfl 0 (by decide) (ht _ wfX2_9) (fun _ h9 => h9) rfl hin rfl (by decide +kernel) rfl rfl (Nat.le_of_ble_eq_true rfl) (show decode cX2_init 6 = .ok (.putfield 9, 3) by decide +kernel) (fun H locs hP hD hS => ?_)
  have hP : va_P D vwCl [(h0, .inr (2, [.ref a1, .null, .int 0]))] H := hP
  have hD : va_D A [(h0, .inr (2, [.ref a1, .null, .int 0]))] := hD
  refine lv_aload_n hx hb (show decode cX2_init 9 = .ok (.aload_n 0, 1) by decide +kernel) rfl (lv_at hl 0 rfl) ?_
  refine lv_aload_n hx hb (show decode cX2_init 10 = .ok (.aload_n 2, 1) by decide +kernel) rfl (lv_at hl 2 rfl) ?_
  refine va_putF (D := D) (ci := 2) (v := .ref a2) (ty := .object "FileJudge$Layout") (C := RX2) (T := TX2) (N := 3) hx hb ht inX2 tyX2 tyX2_ok nmX2 hown hK hP hD hS 0 rfl rfl 1 (by decide) (ht _ wfX2_15) (fun _ h9 => h9) rfl hin rfl (by decide +kernel) rfl rfl (Nat.le_of_ble_eq_true rfl) (show decode cX2_init 11 = .ok (.putfield 15, 3) by decide +kernel) (fun H locs hP hD hS => ?_)
  have hP : va_P D vwCl [(h0, .inr (2, [.ref a1, .ref a2, .int 0]))] H := hP
  have hD : va_D A [(h0, .inr (2, [.ref a1, .ref a2, .int 0]))] := hD
  refine lv_aload_n hx hb (show decode cX2_init 14 = .ok (.aload_n 0, 1) by decide +kernel) rfl (lv_at hl 0 rfl) ?_
  refine lv_iconst (v := (-1)) hx hb (show decode cX2_init 15 = .ok (.iconst (-1), 1) by decide +kernel) (by decide) ?_
  refine va_put (D := D) (ci := 2) (v := .int (-1)) (ty := .int) (C := RX2) (T := TX2) (N := 3) hx hb ht inX2 tyX2 tyX2_ok nmX2 hown hK hP hD hS 0 rfl rfl 2 (by decide) (ht _ wfX2_19) (fun _ h9 => h9) rfl (by decide +kernel) rfl rfl (Nat.le_of_ble_eq_true rfl) (show decode cX2_init 16 = .ok (.putfield 19, 3) by decide +kernel) (fun H locs hP hD hS => ?_)
  have hP : va_P D vwCl [(h0, .inr (2, [.ref a1, .ref a2, .int (-1)]))] H := hP
  have hD : va_D A [(h0, .inr (2, [.ref a1, .ref a2, .int (-1)]))] := hD
  refine W.widen (k := 0) (n := 0) (Nat.le_of_ble_eq_true rfl) (Nat.le_of_ble_eq_true rfl) ?_
  exact W.vret hx hb hr (fun t htt hW => ⟨⟨(), rfl, trivial, by rw [htt]; exact hP, va_K.moved hW.alike hK, hD⟩, hS.F htt⟩) hS.2.2 (show decode cX2_init 19 = .ok (.return_, 1) by decide +kernel)
abbrev rX3_init : Room := { frames := 2, cells := 4, slots := 646, locals := 34 }
set_option maxHeartbeats 4000000 in
set_option maxRecDepth 100000 in
theorem ct_X3_init (l : Launch) (D : va_G) (h0 sz : Nat) : Met l yX3_init (Cond.code yX3_init cX3_init 1 none :: wsA) rX3_init (va_Pc [.ref h0] (fun U => U.heap.size = sz ∧ va_P D vwCl [(h0, .inr (3, [.null, .null, .null, .int 0, .int 0]))] U.heap ∧ va_K D vwCl [] U ∧ va_D (fun _ => True) [(h0, .inr (3, [.null, .null, .null, .int 0, .int 0]))])) (va_Qv (fun _ : Nat × Nat × ClassId × Nat × Nat => True) (fun u t => match u with | (q5, q8_9, c8_9, q16, q31) => va_P D vwCl [(h0, .inr (3, [.ref q5, .ref q16, .ref q31, .int 0, .int 0])), (q5, .inr (1, [.ref q8_9, .int 0])), (q8_9, .inl (c8_9, 640, .inl (fun _ => 0))), (q16, .inr (0, [.ref q5])), (q31, .inr (2, [.ref q5, .ref q16, .int (-1)]))] t.heap ∧ va_K D vwCl [(c8_9, .byte)] t ∧ va_D (va_A [(h0, .inr (3, [.null, .null, .null, .int 0, .int 0]))] sz) [(h0, .inr (3, [.ref q5, .ref q16, .ref q31, .int 0, .int 0])), (q5, .inr (1, [.ref q8_9, .int 0])), (q8_9, .inl (c8_9, 640, .inl (fun _ => 0))), (q16, .inr (0, [.ref q5])), (q31, .inr (2, [.ref q5, .ref q16, .int (-1)]))]) (va_A [(h0, .inr (3, [.null, .null, .null, .int 0, .int 0]))] sz)) 4 646 (va_A [(h0, .inr (3, [.null, .null, .null, .int 0, .int 0]))] sz) := by
  refine Met.ofW (cc := cX3_init) (maxL := 1) (ret := none) (by decide) rfl ?_
  intro p e s m args below meth c s₁ B hml hv
  obtain ⟨rfl, hsz, hP, hK, hD0⟩ := hv
  have hx := B.exec
  have hb := B.bytes
  have hr := B.returns
  have hts := atoms_spec (ws := Cond.code yX3_init cX3_init 1 none :: wsA) B.pre
  have ht : ∀ w ∈ wsA, w.before _ s = true := fun w h => hts w (wsA_in h)
  have hown : s.vm.findClass RX3 = some m.cls := findClass_of_methodNamed B.named
  have hlocks := B.notSynchronized
  have hin : meth.name = "<init>" := (name_of_methodNamed B.named B.method).1
  subst hsz
  have hD := hD0.self (sz := s.heap.size)
  generalize hAe : va_A [(h0, .inr (3, [.null, .null, .null, .int 0, .int 0]))] s.heap.size = A at hD ⊢
  have hA : ∀ q : Nat, s.heap.size ≤ q → A q := fun q h => by rw [← hAe]; exact Or.inr h
  have hS : va_S A s.heap s.heap [] := va_S.rf
  have hP : va_P D vwCl [(h0, .inr (3, [.null, .null, .null, .int 0, .int 0]))] s.heap := hP
  have hl := lv_entry ([.ref h0]) (n := 1) (Nat.le_of_ble_eq_true rfl)
  rw [lg_entry_eq]
  generalize (lg_sl ([.ref h0]) ++ List.replicate (1 - (lg_sl ([.ref h0])).length) Slot.unset).toArray = ls at hl ⊢
  have hl : lv_has ls 1 [(0, .ref h0)] := hl
  refine lv_aload_n hx hb (show decode cX3_init 0 = .ok (.aload_n 0, 1) by decide +kernel) rfl (lv_at hl 0 rfl) ?_
  refine W.objInit hx hb hown (ht (.methodLink RX3 1 objectInit) (wA 17 (by decide +kernel) (by decide +kernel))) (ht (.instanceMethod objectInit) (wA 18 (by decide +kernel) (by decide +kernel))) (ht (.code objectInit ⟨#[0xb1]⟩ 1 none) (wA 19 (by decide +kernel) (by decide +kernel))) rfl (by rw [hml]; exact hl.1) rfl (show decode cX3_init 1 = .ok (.invokespecial 1, 3) by decide +kernel) (Nat.le_of_ble_eq_true rfl) (Nat.le_of_ble_eq_true rfl) ?_
  refine W.eq (g2 := F0 m 4 ls []) rfl ?_
  refine lv_aload_n hx hb (show decode cX3_init 4 = .ok (.aload_n 0, 1) by decide +kernel) rfl (lv_at hl 0 rfl) ?_
  refine va_new (ci := 1) (fs := [.null, .int 0]) (C := RX1) (T := TX1) (N := 2) hx hb ht inX1 tyX1 tyX1_ok hown (ht (.classLink RX3 7 RX1) (wA 20 (by decide +kernel) (by decide +kernel))) (ht (.instantiable RX1 2) (wA 21 (by decide +kernel) (by decide +kernel))) (ht (.initialized RX1) winiX1) hK hP hD hS hA rfl (fun j hj => by rcases (show j = 0 ∨ j = 1 by omega) with rfl | rfl <;> rfl) (Nat.le_of_ble_eq_true rfl) (Nat.le_of_ble_eq_true rfl) (show decode cX3_init 5 = .ok (.new 7, 3) by decide +kernel) (fun q5 H hP hD hS => ?_)
  have hP : va_P D vwCl [(h0, .inr (3, [.null, .null, .null, .int 0, .int 0])), (q5, .inr (1, [.null, .int 0]))] H := hP
  have hD : va_D A [(h0, .inr (3, [.null, .null, .null, .int 0, .int 0])), (q5, .inr (1, [.null, .int 0]))] := hD
  refine W.widen (k := 1) (n := 2) (Nat.le_of_ble_eq_true rfl) (Nat.le_of_ble_eq_true rfl) ?_
  refine lv_dup hx hb (show decode cX3_init 8 = .ok (.dup, 1) by decide +kernel) rfl ?_
  have hPc := hP.sub (ws' := [(q5, .inr (1, [.null, .int 0]))]) [1] rfl
  have hDc := hD.sub (ws' := [(q5, .inr (1, [.null, .int 0]))]) [1] (by decide) rfl
  have hKc := hK.sub (tys' := []) [] rfl
  have hFc := va_free (wc := [(q5, .inr (1, [.null, .int 0]))]) hD hS hA [1] rfl
  refine va_callv (va_runI (As := []) (rest := [.ref q5, .ref h0]) ⟨hx, hb, hml, hown, hts⟩ (ct_X1_init l D q5 H.size) (cwI 0 hts (wsA_I wX1_init) rfl rfl rfl (ht (.initialized RX1) winiX1) (ht _ wkX3_9) (ht (.instanceMethod yX1_init) (wA 23 (by decide +kernel) (by decide +kernel))) rfl (by decide +kernel) ⟨Nat.le_of_ble_eq_true rfl, Nat.le_of_ble_eq_true rfl⟩) ⟨fun a U g mk q => by obtain ⟨q0, q1, qP, qK, qD⟩ := q; exact ⟨q0, q1, qP, va_K.moved (u := U) (U := U.calling g mk a) (Vm.Alike.refl U.vm) qK, qD⟩, fun U hU hW => ⟨rfl, by rw [hU], by rw [hU]; exact hPc, va_K.moved hW.alike hKc, hDc.weaken (fun _ _ _ _ => trivial)⟩⟩ rfl rfl hl.1 rfl (lv_room (Nat.le_of_ble_eq_true rfl)) (show decode cX3_init 9 = .ok (.invokespecial 9, 3) by decide +kernel) ⟨Nat.le_of_ble_eq_true rfl, Nat.le_of_ble_eq_true rfl⟩) hS (fun q _ h => hFc q h) hFc (fun u t H1 locs htt hvm h5 hB hz1 hk1 hS => ?_)
  obtain ⟨q8_9, c8_9⟩ := u
  obtain ⟨hP1, hK1, hD1⟩ := hB
  rw [htt] at hP1
  have hK1 := va_K.moved hvm.symm hK1
  obtain ⟨hP, hD⟩ := va_join (wr := [(h0, .inr (3, [.null, .null, .null, .int 0, .int 0]))]) (w1 := [(q5, .inr (1, [.ref q8_9, .int 0])), (q8_9, .inl (c8_9, 640, .inl (fun _ => 0)))]) hP hD [1] [0] rfl rfl (by decide) (by decide) hk1 hFc hP1 hD1
  have hK := (hK.sub (tys' := []) [] rfl).app hK1
  generalize H1 = H at hP hS ⊢
  have hP : va_P D vwCl [(h0, .inr (3, [.null, .null, .null, .int 0, .int 0])), (q5, .inr (1, [.ref q8_9, .int 0])), (q8_9, .inl (c8_9, 640, .inl (fun _ => 0)))] H := hP
  have hD : va_D A [(h0, .inr (3, [.null, .null, .null, .int 0, .int 0])), (q5, .inr (1, [.ref q8_9, .int 0])), (q8_9, .inl (c8_9, 640, .inl (fun _ => 0)))] := hD
  have hK : va_K D vwCl [(c8_9, .byte)] s := hK
  refine W.widen (k := 2) (n := 642) (Nat.le_of_ble_eq_true rfl) (Nat.le_of_ble_eq_true rfl) ?_
  refine va_putF (D := D) (ci := 3) (v := .ref q5) (ty := .object "FileJudge$Row") (C := RX3) (T := TX3) (N := 5) hx hb ht inX3 tyX3 tyX3_ok nmX3 hown hK hP hD hS 0 rfl rfl 0 (by decide) (ht _ wfX3_10) (fun _ h9 => h9) rfl hin rfl (by decide +kernel) rfl rfl (Nat.le_of_ble_eq_true rfl) (show decode cX3_init 12 = .ok (.putfield 10, 3) by decide +kernel) (fun H locs hP hD hS => ?_)
  have hP : va_P D vwCl [(h0, .inr (3, [.ref q5, .null, .null, .int 0, .int 0])), (q5, .inr (1, [.ref q8_9, .int 0])), (q8_9, .inl (c8_9, 640, .inl (fun _ => 0)))] H := hP
  have hD : va_D A [(h0, .inr (3, [.ref q5, .null, .null, .int 0, .int 0])), (q5, .inr (1, [.ref q8_9, .int 0])), (q8_9, .inl (c8_9, 640, .inl (fun _ => 0)))] := hD
  refine lv_aload_n hx hb (show decode cX3_init 15 = .ok (.aload_n 0, 1) by decide +kernel) rfl (lv_at hl 0 rfl) ?_
  refine va_new (ci := 0) (fs := [.null]) (C := RX0) (T := TX0) (N := 1) hx hb ht inX0 tyX0 tyX0_ok hown (ht (.classLink RX3 16 RX0) (wA 36 (by decide +kernel) (by decide +kernel))) (ht (.instantiable RX0 1) (wA 37 (by decide +kernel) (by decide +kernel))) (ht (.initialized RX0) winiX0) hK hP hD hS hA rfl (fun j hj => by rcases (show j = 0 by omega) with rfl <;> rfl) (Nat.le_of_ble_eq_true rfl) (Nat.le_of_ble_eq_true rfl) (show decode cX3_init 16 = .ok (.new 16, 3) by decide +kernel) (fun q16 H hP hD hS => ?_)
  have hP : va_P D vwCl [(h0, .inr (3, [.ref q5, .null, .null, .int 0, .int 0])), (q5, .inr (1, [.ref q8_9, .int 0])), (q8_9, .inl (c8_9, 640, .inl (fun _ => 0))), (q16, .inr (0, [.null]))] H := hP
  have hD : va_D A [(h0, .inr (3, [.ref q5, .null, .null, .int 0, .int 0])), (q5, .inr (1, [.ref q8_9, .int 0])), (q8_9, .inl (c8_9, 640, .inl (fun _ => 0))), (q16, .inr (0, [.null]))] := hD
  refine W.widen (k := 3) (n := 643) (Nat.le_of_ble_eq_true rfl) (Nat.le_of_ble_eq_true rfl) ?_
  refine lv_dup hx hb (show decode cX3_init 19 = .ok (.dup, 1) by decide +kernel) rfl ?_
  refine lv_aload_n hx hb (show decode cX3_init 20 = .ok (.aload_n 0, 1) by decide +kernel) rfl (lv_at hl 0 rfl) ?_
  refine va_get (D := D) (ci := 3) (v := .ref q5) (C := RX3) (T := TX3) (N := 5) hx hb ht inX3 hown hK hP 0 rfl rfl 0 (by decide) (ht _ wfX3_10) (fun _ h9 => h9) rfl (show decode cX3_init 21 = .ok (.getfield 10, 3) by decide +kernel) ?_
  have hPc := hP.sub (ws' := [(q16, .inr (0, [.null]))]) [3] rfl
  have hDc := hD.sub (ws' := [(q16, .inr (0, [.null]))]) [3] (by decide) rfl
  have hKc := hK.sub (tys' := []) [] rfl
  have hFc := va_free (wc := [(q16, .inr (0, [.null]))]) hD hS hA [3] rfl
  refine va_callv (va_runI (As := [.ref q5]) (rest := [.ref q16, .ref h0]) ⟨hx, hb, hml, hown, hts⟩ (ct_X0_init l D q16 q5 H.size) (cwI 1 hts (wsA_I wX0_init) rfl rfl rfl (ht (.initialized RX0) winiX0) (ht _ wkX3_18) (ht (.instanceMethod yX0_init) (wA 39 (by decide +kernel) (by decide +kernel))) rfl (by decide +kernel) ⟨Nat.le_of_ble_eq_true rfl, Nat.le_of_ble_eq_true rfl⟩) ⟨fun a U g mk q => by obtain ⟨q0, q1, qP, qK, qD⟩ := q; exact ⟨q0, q1, qP, va_K.moved (u := U) (U := U.calling g mk a) (Vm.Alike.refl U.vm) qK, qD⟩, fun U hU hW => ⟨rfl, by rw [hU], by rw [hU]; exact hPc, va_K.moved hW.alike hKc, hDc.weaken (fun _ _ _ _ => trivial)⟩⟩ rfl rfl hl.1 rfl (lv_room (Nat.le_of_ble_eq_true rfl)) (show decode cX3_init 24 = .ok (.invokespecial 18, 3) by decide +kernel) ⟨Nat.le_of_ble_eq_true rfl, Nat.le_of_ble_eq_true rfl⟩) hS (fun q _ h => hFc q h) hFc (fun u t H1 locs htt hvm h5 hB hz1 hk1 hS => ?_)
  obtain ⟨⟩ := u
  obtain ⟨hP1, hK1, hD1⟩ := hB
  rw [htt] at hP1
  have hK1 := va_K.moved hvm.symm hK1
  obtain ⟨hP, hD⟩ := va_join (wr := [(h0, .inr (3, [.ref q5, .null, .null, .int 0, .int 0])), (q5, .inr (1, [.ref q8_9, .int 0])), (q8_9, .inl (c8_9, 640, .inl (fun _ => 0)))]) (w1 := [(q16, .inr (0, [.ref q5]))]) hP hD [3] [0, 1, 2] rfl rfl (by decide) (by decide) hk1 hFc hP1 hD1
  have hK := (hK.sub (tys' := [(c8_9, .byte)]) [0] rfl).app hK1
  generalize H1 = H at hP hS ⊢
  have hP : va_P D vwCl [(h0, .inr (3, [.ref q5, .null, .null, .int 0, .int 0])), (q5, .inr (1, [.ref q8_9, .int 0])), (q8_9, .inl (c8_9, 640, .inl (fun _ => 0))), (q16, .inr (0, [.ref q5]))] H := hP
  have hD : va_D A [(h0, .inr (3, [.ref q5, .null, .null, .int 0, .int 0])), (q5, .inr (1, [.ref q8_9, .int 0])), (q8_9, .inl (c8_9, 640, .inl (fun _ => 0))), (q16, .inr (0, [.ref q5]))] := hD
  have hK : va_K D vwCl [(c8_9, .byte)] s := hK
  refine W.widen (k := 3) (n := 643) (Nat.le_of_ble_eq_true rfl) (Nat.le_of_ble_eq_true rfl) ?_
  refine va_putF (D := D) (ci := 3) (v := .ref q16) (ty := .object "FileJudge$Layout") (C := RX3) (T := TX3) (N := 5) hx hb ht inX3 tyX3 tyX3_ok nmX3 hown hK hP hD hS 0 rfl rfl 1 (by decide) (ht _ wfX3_21) (fun _ h9 => h9) rfl hin rfl (by decide +kernel) rfl rfl (Nat.le_of_ble_eq_true rfl) (show decode cX3_init 27 = .ok (.putfield 21, 3) by decide +kernel) (fun H locs hP hD hS => ?_)
  have hP : va_P D vwCl [(h0, .inr (3, [.ref q5, .ref q16, .null, .int 0, .int 0])), (q5, .inr (1, [.ref q8_9, .int 0])), (q8_9, .inl (c8_9, 640, .inl (fun _ => 0))), (q16, .inr (0, [.ref q5]))] H := hP
  have hD : va_D A [(h0, .inr (3, [.ref q5, .ref q16, .null, .int 0, .int 0])), (q5, .inr (1, [.ref q8_9, .int 0])), (q8_9, .inl (c8_9, 640, .inl (fun _ => 0))), (q16, .inr (0, [.ref q5]))] := hD
  refine lv_aload_n hx hb (show decode cX3_init 30 = .ok (.aload_n 0, 1) by decide +kernel) rfl (lv_at hl 0 rfl) ?_
  refine va_new (ci := 2) (fs := [.null, .null, .int 0]) (C := RX2) (T := TX2) (N := 3) hx hb ht inX2 tyX2 tyX2_ok hown (ht (.classLink RX3 25 RX2) (wA 46 (by decide +kernel) (by decide +kernel))) (ht (.instantiable RX2 3) (wA 47 (by decide +kernel) (by decide +kernel))) (ht (.initialized RX2) winiX2) hK hP hD hS hA rfl (fun j hj => by rcases (show j = 0 ∨ j = 1 ∨ j = 2 by omega) with rfl | rfl | rfl <;> rfl) (Nat.le_of_ble_eq_true rfl) (Nat.le_of_ble_eq_true rfl) (show decode cX3_init 31 = .ok (.new 25, 3) by decide +kernel) (fun q31 H hP hD hS => ?_)
  have hP : va_P D vwCl [(h0, .inr (3, [.ref q5, .ref q16, .null, .int 0, .int 0])), (q5, .inr (1, [.ref q8_9, .int 0])), (q8_9, .inl (c8_9, 640, .inl (fun _ => 0))), (q16, .inr (0, [.ref q5])), (q31, .inr (2, [.null, .null, .int 0]))] H := hP
  have hD : va_D A [(h0, .inr (3, [.ref q5, .ref q16, .null, .int 0, .int 0])), (q5, .inr (1, [.ref q8_9, .int 0])), (q8_9, .inl (c8_9, 640, .inl (fun _ => 0))), (q16, .inr (0, [.ref q5])), (q31, .inr (2, [.null, .null, .int 0]))] := hD
  refine W.widen (k := 4) (n := 646) (Nat.le_of_ble_eq_true rfl) (Nat.le_of_ble_eq_true rfl) ?_
  refine lv_dup hx hb (show decode cX3_init 34 = .ok (.dup, 1) by decide +kernel) rfl ?_
  refine lv_aload_n hx hb (show decode cX3_init 35 = .ok (.aload_n 0, 1) by decide +kernel) rfl (lv_at hl 0 rfl) ?_
  refine va_get (D := D) (ci := 3) (v := .ref q5) (C := RX3) (T := TX3) (N := 5) hx hb ht inX3 hown hK hP 0 rfl rfl 0 (by decide) (ht _ wfX3_10) (fun _ h9 => h9) rfl (show decode cX3_init 36 = .ok (.getfield 10, 3) by decide +kernel) ?_
  refine lv_aload_n hx hb (show decode cX3_init 39 = .ok (.aload_n 0, 1) by decide +kernel) rfl (lv_at hl 0 rfl) ?_
  refine va_get (D := D) (ci := 3) (v := .ref q16) (C := RX3) (T := TX3) (N := 5) hx hb ht inX3 hown hK hP 0 rfl rfl 1 (by decide) (ht _ wfX3_21) (fun _ h9 => h9) rfl (show decode cX3_init 40 = .ok (.getfield 21, 3) by decide +kernel) ?_
  have hPc := hP.sub (ws' := [(q31, .inr (2, [.null, .null, .int 0]))]) [4] rfl
  have hDc := hD.sub (ws' := [(q31, .inr (2, [.null, .null, .int 0]))]) [4] (by decide) rfl
  have hKc := hK.sub (tys' := []) [] rfl
  have hFc := va_free (wc := [(q31, .inr (2, [.null, .null, .int 0]))]) hD hS hA [4] rfl
  refine va_callv (va_runI (As := [.ref q5, .ref q16]) (rest := [.ref q31, .ref h0]) ⟨hx, hb, hml, hown, hts⟩ (ct_X2_init l D q31 q5 q16 H.size) (cwI 2 hts (wsA_I wX2_init) rfl rfl rfl (ht (.initialized RX2) winiX2) (ht _ wkX3_27) (ht (.instanceMethod yX2_init) (wA 49 (by decide +kernel) (by decide +kernel))) rfl (by decide +kernel) ⟨Nat.le_of_ble_eq_true rfl, Nat.le_of_ble_eq_true rfl⟩) ⟨fun a U g mk q => by obtain ⟨q0, q1, qP, qK, qD⟩ := q; exact ⟨q0, q1, qP, va_K.moved (u := U) (U := U.calling g mk a) (Vm.Alike.refl U.vm) qK, qD⟩, fun U hU hW => ⟨rfl, by rw [hU], by rw [hU]; exact hPc, va_K.moved hW.alike hKc, hDc.weaken (fun _ _ _ _ => trivial)⟩⟩ rfl rfl hl.1 rfl (lv_room (Nat.le_of_ble_eq_true rfl)) (show decode cX3_init 43 = .ok (.invokespecial 27, 3) by decide +kernel) ⟨Nat.le_of_ble_eq_true rfl, Nat.le_of_ble_eq_true rfl⟩) hS (fun q _ h => hFc q h) hFc (fun u t H1 locs htt hvm h5 hB hz1 hk1 hS => ?_)
  obtain ⟨⟩ := u
  obtain ⟨hP1, hK1, hD1⟩ := hB
  rw [htt] at hP1
  have hK1 := va_K.moved hvm.symm hK1
  obtain ⟨hP, hD⟩ := va_join (wr := [(h0, .inr (3, [.ref q5, .ref q16, .null, .int 0, .int 0])), (q5, .inr (1, [.ref q8_9, .int 0])), (q8_9, .inl (c8_9, 640, .inl (fun _ => 0))), (q16, .inr (0, [.ref q5]))]) (w1 := [(q31, .inr (2, [.ref q5, .ref q16, .int (-1)]))]) hP hD [4] [0, 1, 2, 3] rfl rfl (by decide) (by decide) hk1 hFc hP1 hD1
  have hK := (hK.sub (tys' := [(c8_9, .byte)]) [0] rfl).app hK1
  generalize H1 = H at hP hS ⊢
  have hP : va_P D vwCl [(h0, .inr (3, [.ref q5, .ref q16, .null, .int 0, .int 0])), (q5, .inr (1, [.ref q8_9, .int 0])), (q8_9, .inl (c8_9, 640, .inl (fun _ => 0))), (q16, .inr (0, [.ref q5])), (q31, .inr (2, [.ref q5, .ref q16, .int (-1)]))] H := hP
  have hD : va_D A [(h0, .inr (3, [.ref q5, .ref q16, .null, .int 0, .int 0])), (q5, .inr (1, [.ref q8_9, .int 0])), (q8_9, .inl (c8_9, 640, .inl (fun _ => 0))), (q16, .inr (0, [.ref q5])), (q31, .inr (2, [.ref q5, .ref q16, .int (-1)]))] := hD
  have hK : va_K D vwCl [(c8_9, .byte)] s := hK
  refine W.widen (k := 4) (n := 646) (Nat.le_of_ble_eq_true rfl) (Nat.le_of_ble_eq_true rfl) ?_
  refine va_putF (D := D) (ci := 3) (v := .ref q31) (ty := .object "FileJudge$Rules") (C := RX3) (T := TX3) (N := 5) hx hb ht inX3 tyX3 tyX3_ok nmX3 hown hK hP hD hS 0 rfl rfl 2 (by decide) (ht _ wfX3_30) (fun _ h9 => h9) rfl hin rfl (by decide +kernel) rfl rfl (Nat.le_of_ble_eq_true rfl) (show decode cX3_init 46 = .ok (.putfield 30, 3) by decide +kernel) (fun H locs hP hD hS => ?_)
  have hP : va_P D vwCl [(h0, .inr (3, [.ref q5, .ref q16, .ref q31, .int 0, .int 0])), (q5, .inr (1, [.ref q8_9, .int 0])), (q8_9, .inl (c8_9, 640, .inl (fun _ => 0))), (q16, .inr (0, [.ref q5])), (q31, .inr (2, [.ref q5, .ref q16, .int (-1)]))] H := hP
  have hD : va_D A [(h0, .inr (3, [.ref q5, .ref q16, .ref q31, .int 0, .int 0])), (q5, .inr (1, [.ref q8_9, .int 0])), (q8_9, .inl (c8_9, 640, .inl (fun _ => 0))), (q16, .inr (0, [.ref q5])), (q31, .inr (2, [.ref q5, .ref q16, .int (-1)]))] := hD
  refine lv_aload_n hx hb (show decode cX3_init 49 = .ok (.aload_n 0, 1) by decide +kernel) rfl (lv_at hl 0 rfl) ?_
  refine lv_iconst (v := 0) hx hb (show decode cX3_init 50 = .ok (.iconst 0, 1) by decide +kernel) (by decide) ?_
  refine va_put (D := D) (ci := 3) (v := .int 0) (ty := .boolean) (C := RX3) (T := TX3) (N := 5) hx hb ht inX3 tyX3 tyX3_ok nmX3 hown hK hP hD hS 0 rfl rfl 3 (by decide) (ht _ wfX3_34) (fun _ h9 => h9) rfl (by decide +kernel) rfl rfl (Nat.le_of_ble_eq_true rfl) (show decode cX3_init 51 = .ok (.putfield 34, 3) by decide +kernel) (fun H locs hP hD hS => ?_)
  have hP : va_P D vwCl [(h0, .inr (3, [.ref q5, .ref q16, .ref q31, .int 0, .int 0])), (q5, .inr (1, [.ref q8_9, .int 0])), (q8_9, .inl (c8_9, 640, .inl (fun _ => 0))), (q16, .inr (0, [.ref q5])), (q31, .inr (2, [.ref q5, .ref q16, .int (-1)]))] H := hP
  have hD : va_D A [(h0, .inr (3, [.ref q5, .ref q16, .ref q31, .int 0, .int 0])), (q5, .inr (1, [.ref q8_9, .int 0])), (q8_9, .inl (c8_9, 640, .inl (fun _ => 0))), (q16, .inr (0, [.ref q5])), (q31, .inr (2, [.ref q5, .ref q16, .int (-1)]))] := hD
  refine lv_aload_n hx hb (show decode cX3_init 54 = .ok (.aload_n 0, 1) by decide +kernel) rfl (lv_at hl 0 rfl) ?_
  refine lv_iconst (v := 0) hx hb (show decode cX3_init 55 = .ok (.iconst 0, 1) by decide +kernel) (by decide) ?_
  refine va_put (D := D) (ci := 3) (v := .int 0) (ty := .int) (C := RX3) (T := TX3) (N := 5) hx hb ht inX3 tyX3 tyX3_ok nmX3 hown hK hP hD hS 0 rfl rfl 4 (by decide) (ht _ wfX3_38) (fun _ h9 => h9) rfl (by decide +kernel) rfl rfl (Nat.le_of_ble_eq_true rfl) (show decode cX3_init 56 = .ok (.putfield 38, 3) by decide +kernel) (fun H locs hP hD hS => ?_)
  have hP : va_P D vwCl [(h0, .inr (3, [.ref q5, .ref q16, .ref q31, .int 0, .int 0])), (q5, .inr (1, [.ref q8_9, .int 0])), (q8_9, .inl (c8_9, 640, .inl (fun _ => 0))), (q16, .inr (0, [.ref q5])), (q31, .inr (2, [.ref q5, .ref q16, .int (-1)]))] H := hP
  have hD : va_D A [(h0, .inr (3, [.ref q5, .ref q16, .ref q31, .int 0, .int 0])), (q5, .inr (1, [.ref q8_9, .int 0])), (q8_9, .inl (c8_9, 640, .inl (fun _ => 0))), (q16, .inr (0, [.ref q5])), (q31, .inr (2, [.ref q5, .ref q16, .int (-1)]))] := hD
  refine W.widen (k := 4) (n := 646) (Nat.le_of_ble_eq_true rfl) (Nat.le_of_ble_eq_true rfl) ?_
  exact W.vret hx hb hr (fun t htt hW => ⟨⟨(q5, q8_9, c8_9, q16, q31), rfl, trivial, by rw [htt]; exact hP, va_K.moved hW.alike hK, hD⟩, hS.F htt⟩) hS.2.2 (show decode cX3_init 59 = .ok (.return_, 1) by decide +kernel)
abbrev rX4_init : Room := { frames := 1, cells := 2, slots := 1280, locals := 12 }
set_option maxHeartbeats 4000000 in
set_option maxRecDepth 100000 in
theorem ct_X4_init (l : Launch) (D : va_G) (h0 sz : Nat) : Met l yX4_init (Cond.code yX4_init cX4_init 1 none :: wsA) rX4_init (va_Pc [.ref h0] (fun U => U.heap.size = sz ∧ va_P D vwCl [(h0, .inr (4, [.int 0, .int 0, .null, .null, .int 0, .int 0, .int 0]))] U.heap ∧ va_K D vwCl [] U ∧ va_D (fun _ => True) [(h0, .inr (4, [.int 0, .int 0, .null, .null, .int 0, .int 0, .int 0]))])) (va_Qv (fun _ : Nat × ClassId × Nat × ClassId => True) (fun u t => match u with | (q8, c8, q17, c17) => va_P D vwCl [(h0, .inr (4, [.int 0, .int 0, .ref q8, .ref q17, .int 0, .int 0, .int (-1)])), (q8, .inl (c8, 640, .inl (fun _ => 0))), (q17, .inl (c17, 640, .inl (fun _ => 0)))] t.heap ∧ va_K D vwCl [(c8, .int), (c17, .boolean)] t ∧ va_D (va_A [(h0, .inr (4, [.int 0, .int 0, .null, .null, .int 0, .int 0, .int 0]))] sz) [(h0, .inr (4, [.int 0, .int 0, .ref q8, .ref q17, .int 0, .int 0, .int (-1)])), (q8, .inl (c8, 640, .inl (fun _ => 0))), (q17, .inl (c17, 640, .inl (fun _ => 0)))]) (va_A [(h0, .inr (4, [.int 0, .int 0, .null, .null, .int 0, .int 0, .int 0]))] sz)) 2 1280 (va_A [(h0, .inr (4, [.int 0, .int 0, .null, .null, .int 0, .int 0, .int 0]))] sz) := by
  refine Met.ofW (cc := cX4_init) (maxL := 1) (ret := none) (by decide) rfl ?_
  intro p e s m args below meth c s₁ B hml hv
  obtain ⟨rfl, hsz, hP, hK, hD0⟩ := hv
  have hx := B.exec
  have hb := B.bytes
  have hr := B.returns
  have hts := atoms_spec (ws := Cond.code yX4_init cX4_init 1 none :: wsA) B.pre
  have ht : ∀ w ∈ wsA, w.before _ s = true := fun w h => hts w (wsA_in h)
  have hown : s.vm.findClass RX4 = some m.cls := findClass_of_methodNamed B.named
  have hlocks := B.notSynchronized
  have hin : meth.name = "<init>" := (name_of_methodNamed B.named B.method).1
  subst hsz
  have hD := hD0.self (sz := s.heap.size)
  generalize hAe : va_A [(h0, .inr (4, [.int 0, .int 0, .null, .null, .int 0, .int 0, .int 0]))] s.heap.size = A at hD ⊢
  have hA : ∀ q : Nat, s.heap.size ≤ q → A q := fun q h => by rw [← hAe]; exact Or.inr h
  have hS : va_S A s.heap s.heap [] := va_S.rf
  have hP : va_P D vwCl [(h0, .inr (4, [.int 0, .int 0, .null, .null, .int 0, .int 0, .int 0]))] s.heap := hP
  have hl := lv_entry ([.ref h0]) (n := 1) (Nat.le_of_ble_eq_true rfl)
  rw [lg_entry_eq]
  generalize (lg_sl ([.ref h0]) ++ List.replicate (1 - (lg_sl ([.ref h0])).length) Slot.unset).toArray = ls at hl ⊢
  have hl : lv_has ls 1 [(0, .ref h0)] := hl
  refine lv_aload_n hx hb (show decode cX4_init 0 = .ok (.aload_n 0, 1) by decide +kernel) rfl (lv_at hl 0 rfl) ?_
  refine W.objInit hx hb hown (ht (.methodLink RX4 1 objectInit) (wA 546 (by decide +kernel) (by decide +kernel))) (ht (.instanceMethod objectInit) (wA 18 (by decide +kernel) (by decide +kernel))) (ht (.code objectInit ⟨#[0xb1]⟩ 1 none) (wA 19 (by decide +kernel) (by decide +kernel))) rfl (by rw [hml]; exact hl.1) rfl (show decode cX4_init 1 = .ok (.invokespecial 1, 3) by decide +kernel) (Nat.le_of_ble_eq_true rfl) (Nat.le_of_ble_eq_true rfl) ?_
  refine W.eq (g2 := F0 m 4 ls []) rfl ?_
  refine lv_aload_n hx hb (show decode cX4_init 4 = .ok (.aload_n 0, 1) by decide +kernel) rfl (lv_at hl 0 rfl) ?_
  refine lv_sipush (v := 640) hx hb (show decode cX4_init 5 = .ok (.sipush 640, 3) by decide +kernel) (by decide) ?_
  refine va_newa (atype := .int) (ty := .int) (N' := 640) (a0 := (640, .inl (fun _ => 0))) hx hb (ht (.arrayClass (newarray.typeOf .int)) (wA 569 (by decide +kernel) (by decide +kernel))) rfl hK hP hD hS hA (fun _ => rfl) (by decide) (by decide) (by decide) (Nat.le_of_ble_eq_true rfl) (Nat.le_of_ble_eq_true rfl) (show decode cX4_init 8 = .ok (.newarray .int, 2) by decide +kernel) (fun q8 c8 H hK hP hD hS => ?_)
  have hP : va_P D vwCl [(h0, .inr (4, [.int 0, .int 0, .null, .null, .int 0, .int 0, .int 0])), (q8, .inl (c8, 640, .inl (fun _ => 0)))] H := hP
  have hD : va_D A [(h0, .inr (4, [.int 0, .int 0, .null, .null, .int 0, .int 0, .int 0])), (q8, .inl (c8, 640, .inl (fun _ => 0)))] := hD
  have hK : va_K D vwCl [(c8, .int)] s := hK
  refine W.widen (k := 1) (n := 640) (Nat.le_of_ble_eq_true rfl) (Nat.le_of_ble_eq_true rfl) ?_
  refine va_putF (D := D) (ci := 4) (v := .ref q8) (ty := .array .int) (C := RX4) (T := TX4) (N := 7) hx hb ht inX4 tyX4 tyX4_ok nmX4 hown hK hP hD hS 0 rfl rfl 2 (by decide) (ht _ wfX4_7) (fun _ h9 => h9) rfl hin rfl (by decide +kernel) rfl rfl (Nat.le_of_ble_eq_true rfl) (show decode cX4_init 10 = .ok (.putfield 7, 3) by decide +kernel) (fun H locs hP hD hS => ?_)
  have hP : va_P D vwCl [(h0, .inr (4, [.int 0, .int 0, .ref q8, .null, .int 0, .int 0, .int 0])), (q8, .inl (c8, 640, .inl (fun _ => 0)))] H := hP
  have hD : va_D A [(h0, .inr (4, [.int 0, .int 0, .ref q8, .null, .int 0, .int 0, .int 0])), (q8, .inl (c8, 640, .inl (fun _ => 0)))] := hD
  refine lv_aload_n hx hb (show decode cX4_init 13 = .ok (.aload_n 0, 1) by decide +kernel) rfl (lv_at hl 0 rfl) ?_
  refine lv_sipush (v := 640) hx hb (show decode cX4_init 14 = .ok (.sipush 640, 3) by decide +kernel) (by decide) ?_
  refine va_newa (atype := .boolean) (ty := .boolean) (N' := 640) (a0 := (640, .inl (fun _ => 0))) hx hb (ht (.arrayClass (newarray.typeOf .boolean)) (wA 570 (by decide +kernel) (by decide +kernel))) rfl hK hP hD hS hA (fun _ => rfl) (by decide) (by decide) (by decide) (Nat.le_of_ble_eq_true rfl) (Nat.le_of_ble_eq_true rfl) (show decode cX4_init 17 = .ok (.newarray .boolean, 2) by decide +kernel) (fun q17 c17 H hK hP hD hS => ?_)
  have hP : va_P D vwCl [(h0, .inr (4, [.int 0, .int 0, .ref q8, .null, .int 0, .int 0, .int 0])), (q8, .inl (c8, 640, .inl (fun _ => 0))), (q17, .inl (c17, 640, .inl (fun _ => 0)))] H := hP
  have hD : va_D A [(h0, .inr (4, [.int 0, .int 0, .ref q8, .null, .int 0, .int 0, .int 0])), (q8, .inl (c8, 640, .inl (fun _ => 0))), (q17, .inl (c17, 640, .inl (fun _ => 0)))] := hD
  have hK : va_K D vwCl [(c8, .int), (c17, .boolean)] s := hK
  refine W.widen (k := 2) (n := 1280) (Nat.le_of_ble_eq_true rfl) (Nat.le_of_ble_eq_true rfl) ?_
  refine va_putF (D := D) (ci := 4) (v := .ref q17) (ty := .array .boolean) (C := RX4) (T := TX4) (N := 7) hx hb ht inX4 tyX4 tyX4_ok nmX4 hown hK hP hD hS 0 rfl rfl 3 (by decide) (ht _ wfX4_13) (fun _ h9 => h9) rfl hin rfl (by decide +kernel) rfl rfl (Nat.le_of_ble_eq_true rfl) (show decode cX4_init 19 = .ok (.putfield 13, 3) by decide +kernel) (fun H locs hP hD hS => ?_)
  have hP : va_P D vwCl [(h0, .inr (4, [.int 0, .int 0, .ref q8, .ref q17, .int 0, .int 0, .int 0])), (q8, .inl (c8, 640, .inl (fun _ => 0))), (q17, .inl (c17, 640, .inl (fun _ => 0)))] H := hP
  have hD : va_D A [(h0, .inr (4, [.int 0, .int 0, .ref q8, .ref q17, .int 0, .int 0, .int 0])), (q8, .inl (c8, 640, .inl (fun _ => 0))), (q17, .inl (c17, 640, .inl (fun _ => 0)))] := hD
  refine lv_aload_n hx hb (show decode cX4_init 22 = .ok (.aload_n 0, 1) by decide +kernel) rfl (lv_at hl 0 rfl) ?_
  refine lv_iconst (v := (-1)) hx hb (show decode cX4_init 23 = .ok (.iconst (-1), 1) by decide +kernel) (by decide) ?_
  refine va_put (D := D) (ci := 4) (v := .int (-1)) (ty := .int) (C := RX4) (T := TX4) (N := 7) hx hb ht inX4 tyX4 tyX4_ok nmX4 hown hK hP hD hS 0 rfl rfl 6 (by decide) (ht _ wfX4_17) (fun _ h9 => h9) rfl (by decide +kernel) rfl rfl (Nat.le_of_ble_eq_true rfl) (show decode cX4_init 24 = .ok (.putfield 17, 3) by decide +kernel) (fun H locs hP hD hS => ?_)
  have hP : va_P D vwCl [(h0, .inr (4, [.int 0, .int 0, .ref q8, .ref q17, .int 0, .int 0, .int (-1)])), (q8, .inl (c8, 640, .inl (fun _ => 0))), (q17, .inl (c17, 640, .inl (fun _ => 0)))] H := hP
  have hD : va_D A [(h0, .inr (4, [.int 0, .int 0, .ref q8, .ref q17, .int 0, .int 0, .int (-1)])), (q8, .inl (c8, 640, .inl (fun _ => 0))), (q17, .inl (c17, 640, .inl (fun _ => 0)))] := hD
  refine W.widen (k := 2) (n := 1280) (Nat.le_of_ble_eq_true rfl) (Nat.le_of_ble_eq_true rfl) ?_
  exact W.vret hx hb hr (fun t htt hW => ⟨⟨(q8, c8, q17, c17), rfl, trivial, by rw [htt]; exact hP, va_K.moved hW.alike hK, hD⟩, hS.F htt⟩) hS.2.2 (show decode cX4_init 27 = .ok (.return_, 1) by decide +kernel)
