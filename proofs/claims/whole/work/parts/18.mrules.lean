def pX4_thrown : rx_P := [(0, .aload_n 0, 0), (1, .getfield 21, 0), (4, .ireturn, 0)]
theorem pX4_thrown_ok : ∀ q ∈ pX4_thrown, rx_ok cX4_thrown q := rx_ok_all (by decide +kernel)
abbrev rX4_thrown : Room := { frames := 0, cells := 0, slots := 0, locals := 0 }
noncomputable def fX4_thrown : rx_F mS := fun w as => match as with
  | [] => some (True, w, some (.int w.2.1))
  | _ => none
noncomputable def eX4_thrown (am : Nat → Nat) : rx_E mS := rx_any [rx_hG 21 (am 0) (fun w => .int w.2.1)]
set_option maxHeartbeats 4000000 in
set_option maxRecDepth 100000 in
theorem eo_X4_thrown (l : Launch) (D : va_G) (am : Nat → Nat) (cI cZ : ClassId) : ∀ (p : Program) (e : Env) (s : State) (m : MethodId) (args : Array Value) (below : List Frame) (meth : Method) (c : Code) (Qw : State → Prop), CallFix p m c cX4_thrown 1 s args (Cond.code yX4_thrown cX4_thrown 1 (some .int) :: wsA) RX4 → mK D cI cZ s → rx_Eok (fun H locs g => W p l e rX4_thrown s m args below meth c H locs 0 0 Qw g) m cX4_thrown 1 (tr_I D vwCl (mA am) s (mW am cI cZ)) (eX4_thrown am) := by
  intro p e s m args below meth c Qw S hK
  have ht : ∀ w ∈ wsA, w.before args s = true := fun w h => S.2.2.2.2 w (wsA_in h)
  exact rx_any_c (rx_hG_ok (fun w H locs pc ls rest hI hd k => va_get (D := D) (ci := 4) (C := RX4) (T := TX4) (N := 7) S.1 S.2.1 ht inX4 S.2.2.2.1 hK.1 hI.1 0 rfl rfl 0 (by decide) (ht _ wfX4_21) (fun _ h9 => h9) rfl hd k)) (rx_any_0)
set_option maxHeartbeats 4000000 in
set_option maxRecDepth 100000 in
theorem ct_X4_thrown (l : Launch) (D : va_G) (am : Nat → Nat) (cI cZ : ClassId) : ctM l yX4_thrown cX4_thrown 1 (some .int) rX4_thrown D am cI cZ [.ref (am 0)] fX4_thrown := by
  intro w as g w1 r hf hg
  unfold fX4_thrown at hf
  split at hf
  · cases hf
    exact tr_of rx_nc 0 200 0 (by decide) rfl rfl (Nat.le_of_ble_eq_true rfl) pX4_thrown_ok (rt_i _) (eo_X4_thrown l D am cI cZ) (fun pc g h => by cases h) (by
      simp only [pX4_thrown, eX4_thrown, rx_n, rx_s, rx_to, rx_get, rx_f1, rx_f2, rx_two, rx_ext, rx_any, rx_hV, rx_hS, rx_hG, rx_hP, rx_hAi, rx_hAb, rx_hBb, rx_hBi, rx_hBp, rx_hL, rx_hLi, rx_got, rx_pop, rx_sum, rx_len, rx_c, rx_m1, lv_args, Value.category, rx_cut_n, rx_cut_m0, rx_cut_m1, rx_iconst, rx_bipush, rx_sipush, rx_lconst, rx_iload_n, rx_iload, rx_lload_n, rx_lload, rx_aload_n, rx_aload, rx_istore_n, rx_istore, rx_lstore_n, rx_lstore, rx_astore_n, rx_astore, rx_iinc, rx_iadd, rx_isub, rx_imul, rx_iand, rx_ixor, rx_ishr, rx_idiv, rx_irem, rx_ladd, rx_lsub, rx_land, rx_lor, rx_lxor, rx_lmul, rx_ldiv, rx_lrem, rx_lushr, rx_lshl, rx_lshr, rx_lneg, rx_i2l, rx_l2i, rx_i2b, rx_lcmp, rx_dup_i, rx_dup_a, rx_pop_i, rx_pop_a, rx_if_eq, rx_if_ne, rx_if_lt, rx_if_ge, rx_if_gt, rx_if_le, rx_icmp_eq, rx_icmp_ne, rx_icmp_lt, rx_icmp_ge, rx_icmp_gt, rx_icmp_le, rx_goto, rx_tsw, rx_ireturn, rx_lreturn, rx_return_, rx_getfield, rx_putfield, rx_invokevirtual, rx_invokespecial, rx_invokestatic, rx_ldc, rx_ldc2_w, rx_iaload, rx_iastore, rx_baload, rx_bastore, Nat.reduceBEq, Nat.reduceAdd, Nat.reduceSub, Nat.reduceMul, Nat.reduceLeDiff, Nat.reduceEqDiff, Nat.reduceLT, Int.reduceLT, Int.reduceLE, Int.reduceNeg, Int.reduceToNat, Int.reduceAdd, Fin.isValue, Fin.val_zero, Fin.val_one, Fin.reduceFinMk, Fin.val_ofNat, Bool.or_true, Bool.true_or, Bool.or_false, Bool.false_or, Bool.and_true, Bool.true_and, Bool.and_false, Bool.false_and, cond_true, cond_false, ↓reduceIte, eq_self, ne_eq, not_true_eq_false, not_false_eq_true, true_and, and_true, Option.toList_some, Option.toList_none, List.cons_append, List.nil_append, Option.some.injEq, Value.int.injEq, Value.long.injEq, rx_l0, rx_l1, rx_fv0, rx_fv1, rx_fv2, rx_fv3, nI_c1, nI_c2, nI_c4, nI_c8, nI_c9, nI_c24, nI_c64, Nat.le_refl, bI_z, bI_0, bI_1, Classical.not_not, lg_cmp_ge, lg_cmp_le, lg_cmp_gt, lg_cmp_lt, lg_cmp_eq])
  · cases hf
def pX4_good : rx_P := [(0, .aload_n 0, 0), (1, .getfield 140, 0), (4, .ifCond .eq 14, 18), (7, .aload_n 0, 0), (8, .getfield 73, 0), (11, .ifCond .ne 7, 18), (14, .iconst 1, 0), (15, .goto 4, 19), (18, .iconst 0, 0), (19, .ireturn, 0)]
theorem pX4_good_ok : ∀ q ∈ pX4_good, rx_ok cX4_good q := rx_ok_all (by decide +kernel)
abbrev rX4_good : Room := { frames := 0, cells := 0, slots := 0, locals := 0 }
noncomputable def fX4_good : rx_F mS := fun w as => match as with
  | [] => some (True, w, some (.int (bI (¬ w.2.2.2.1 = 0 ∧ w.2.2.2.2.1 = 0))))
  | _ => none
noncomputable def eX4_good (am : Nat → Nat) : rx_E mS := rx_any [rx_hG 140 (am 0) (fun w => .int w.2.2.2.1), rx_hG 73 (am 0) (fun w => .int w.2.2.2.2.1)]
set_option maxHeartbeats 4000000 in
set_option maxRecDepth 100000 in
theorem eo_X4_good (l : Launch) (D : va_G) (am : Nat → Nat) (cI cZ : ClassId) : ∀ (p : Program) (e : Env) (s : State) (m : MethodId) (args : Array Value) (below : List Frame) (meth : Method) (c : Code) (Qw : State → Prop), CallFix p m c cX4_good 1 s args (Cond.code yX4_good cX4_good 1 (some .boolean) :: wsA) RX4 → mK D cI cZ s → rx_Eok (fun H locs g => W p l e rX4_good s m args below meth c H locs 0 0 Qw g) m cX4_good 1 (tr_I D vwCl (mA am) s (mW am cI cZ)) (eX4_good am) := by
  intro p e s m args below meth c Qw S hK
  have ht : ∀ w ∈ wsA, w.before args s = true := fun w h => S.2.2.2.2 w (wsA_in h)
  exact rx_any_c (rx_hG_ok (fun w H locs pc ls rest hI hd k => va_get (D := D) (ci := 4) (C := RX4) (T := TX4) (N := 7) S.1 S.2.1 ht inX4 S.2.2.2.1 hK.1 hI.1 0 rfl rfl 4 (by decide) (ht _ wfX4_140) (fun _ h9 => h9) rfl hd k)) (rx_any_c (rx_hG_ok (fun w H locs pc ls rest hI hd k => va_get (D := D) (ci := 4) (C := RX4) (T := TX4) (N := 7) S.1 S.2.1 ht inX4 S.2.2.2.1 hK.1 hI.1 0 rfl rfl 5 (by decide) (ht _ wfX4_73) (fun _ h9 => h9) rfl hd k)) (rx_any_0))
set_option maxHeartbeats 4000000 in
set_option maxRecDepth 100000 in
theorem ct_X4_good (l : Launch) (D : va_G) (am : Nat → Nat) (cI cZ : ClassId) : ctM l yX4_good cX4_good 1 (some .boolean) rX4_good D am cI cZ [.ref (am 0)] fX4_good := by
  intro w as g w1 r hf hg
  unfold fX4_good at hf
  split at hf
  · cases hf
    exact tr_of rx_nc 0 200 0 (by decide) rfl rfl (Nat.le_of_ble_eq_true rfl) pX4_good_ok (rt_z _) (eo_X4_good l D am cI cZ) (fun pc g h => by cases h) (by
      simp only [pX4_good, eX4_good, rx_n, rx_s, rx_to, rx_get, rx_f1, rx_f2, rx_two, rx_ext, rx_any, rx_hV, rx_hS, rx_hG, rx_hP, rx_hAi, rx_hAb, rx_hBb, rx_hBi, rx_hBp, rx_hL, rx_hLi, rx_got, rx_pop, rx_sum, rx_len, rx_c, rx_m1, lv_args, Value.category, rx_cut_n, rx_cut_m0, rx_cut_m1, rx_iconst, rx_bipush, rx_sipush, rx_lconst, rx_iload_n, rx_iload, rx_lload_n, rx_lload, rx_aload_n, rx_aload, rx_istore_n, rx_istore, rx_lstore_n, rx_lstore, rx_astore_n, rx_astore, rx_iinc, rx_iadd, rx_isub, rx_imul, rx_iand, rx_ixor, rx_ishr, rx_idiv, rx_irem, rx_ladd, rx_lsub, rx_land, rx_lor, rx_lxor, rx_lmul, rx_ldiv, rx_lrem, rx_lushr, rx_lshl, rx_lshr, rx_lneg, rx_i2l, rx_l2i, rx_i2b, rx_lcmp, rx_dup_i, rx_dup_a, rx_pop_i, rx_pop_a, rx_if_eq, rx_if_ne, rx_if_lt, rx_if_ge, rx_if_gt, rx_if_le, rx_icmp_eq, rx_icmp_ne, rx_icmp_lt, rx_icmp_ge, rx_icmp_gt, rx_icmp_le, rx_goto, rx_tsw, rx_ireturn, rx_lreturn, rx_return_, rx_getfield, rx_putfield, rx_invokevirtual, rx_invokespecial, rx_invokestatic, rx_ldc, rx_ldc2_w, rx_iaload, rx_iastore, rx_baload, rx_bastore, Nat.reduceBEq, Nat.reduceAdd, Nat.reduceSub, Nat.reduceMul, Nat.reduceLeDiff, Nat.reduceEqDiff, Nat.reduceLT, Int.reduceLT, Int.reduceLE, Int.reduceNeg, Int.reduceToNat, Int.reduceAdd, Fin.isValue, Fin.val_zero, Fin.val_one, Fin.reduceFinMk, Fin.val_ofNat, Bool.or_true, Bool.true_or, Bool.or_false, Bool.false_or, Bool.and_true, Bool.true_and, Bool.and_false, Bool.false_and, cond_true, cond_false, ↓reduceIte, eq_self, ne_eq, not_true_eq_false, not_false_eq_true, true_and, and_true, Option.toList_some, Option.toList_none, List.cons_append, List.nil_append, Option.some.injEq, Value.int.injEq, Value.long.injEq, rx_l0, rx_l1, rx_fv0, rx_fv1, rx_fv2, rx_fv3, nI_c1, nI_c2, nI_c4, nI_c8, nI_c9, nI_c24, nI_c64, Nat.le_refl, bI_z, bI_0, bI_1, Classical.not_not, lg_cmp_ge, lg_cmp_le, lg_cmp_gt, lg_cmp_lt, lg_cmp_eq]
      grind)
  · cases hf
def pX4_markOf : rx_P := [(0, .iload_n 0, 0), (1, .ifCond .ne 8, 9), (4, .bipush 127, 0), (6, .goto 53, 59), (9, .iload_n 0, 0), (10, .iconst 1, 0), (11, .if_icmp .ne 8, 19), (14, .bipush 69, 0), (16, .goto 43, 59), (19, .iload_n 0, 0), (20, .iconst 2, 0), (21, .if_icmp .ne 8, 29), (24, .bipush 76, 0), (26, .goto 33, 59), (29, .iload_n 0, 0), (30, .iconst 3, 0), (31, .if_icmp .ne 8, 39), (34, .bipush 70, 0), (36, .goto 23, 59), (39, .iload_n 0, 0), (40, .iconst 4, 0), (41, .if_icmp .ne 7, 48), (44, .iconst 2, 0), (45, .goto 14, 59), (48, .iload_n 0, 0), (49, .bipush 7, 0), (51, .if_icmp .ge 7, 58), (54, .iconst 1, 0), (55, .goto 4, 59), (58, .iconst 0, 0), (59, .ireturn, 0)]
theorem pX4_markOf_ok : ∀ q ∈ pX4_markOf, rx_ok cX4_markOf q := rx_ok_all (by decide +kernel)
abbrev rX4_markOf : Room := { frames := 0, cells := 0, slots := 0, locals := 0 }
noncomputable def fX4_markOf : rx_F mS := fun w as => match as with
  | [.int k] => some (nI k.toNatClampNeg = k ∧ k.toNatClampNeg < 16, w, some (.int (nI (mkv k.toNatClampNeg))))
  | _ => none
noncomputable def eX4_markOf (am : Nat → Nat) : rx_E mS := rx_any []
set_option maxHeartbeats 4000000 in
set_option maxRecDepth 100000 in
theorem eo_X4_markOf (l : Launch) (D : va_G) (am : Nat → Nat) (cI cZ : ClassId) : ∀ (p : Program) (e : Env) (s : State) (m : MethodId) (args : Array Value) (below : List Frame) (meth : Method) (c : Code) (Qw : State → Prop), CallFix p m c cX4_markOf 1 s args (Cond.code yX4_markOf cX4_markOf 1 (some .int) :: wsA) RX4 → mK D cI cZ s → rx_Eok (fun H locs g => W p l e rX4_markOf s m args below meth c H locs 0 0 Qw g) m cX4_markOf 1 (tr_I D vwCl (mA am) s (mW am cI cZ)) (eX4_markOf am) := by
  intro p e s m args below meth c Qw S hK
  have ht : ∀ w ∈ wsA, w.before args s = true := fun w h => S.2.2.2.2 w (wsA_in h)
  exact rx_any_0
set_option maxHeartbeats 4000000 in
set_option maxRecDepth 100000 in
theorem ct_X4_markOf (l : Launch) (D : va_G) (am : Nat → Nat) (cI cZ : ClassId) : ctM l yX4_markOf cX4_markOf 1 (some .int) rX4_markOf D am cI cZ [] fX4_markOf := by
  intro w as g w1 r hf hg
  unfold fX4_markOf at hf
  split at hf
  · next k =>
    cases hf
    exact tr_of rx_nc 0 200 0 (by decide) rfl rfl (Nat.le_of_ble_eq_true rfl) pX4_markOf_ok (rt_i _) (eo_X4_markOf l D am cI cZ) (fun pc g h => by cases h) (by
      simp only [pX4_markOf, eX4_markOf, rx_n, rx_s, rx_to, rx_get, rx_f1, rx_f2, rx_two, rx_ext, rx_any, rx_hV, rx_hS, rx_hG, rx_hP, rx_hAi, rx_hAb, rx_hBb, rx_hBi, rx_hBp, rx_hL, rx_hLi, rx_got, rx_pop, rx_sum, rx_len, rx_c, rx_m1, lv_args, Value.category, rx_cut_n, rx_cut_m0, rx_cut_m1, rx_iconst, rx_bipush, rx_sipush, rx_lconst, rx_iload_n, rx_iload, rx_lload_n, rx_lload, rx_aload_n, rx_aload, rx_istore_n, rx_istore, rx_lstore_n, rx_lstore, rx_astore_n, rx_astore, rx_iinc, rx_iadd, rx_isub, rx_imul, rx_iand, rx_ixor, rx_ishr, rx_idiv, rx_irem, rx_ladd, rx_lsub, rx_land, rx_lor, rx_lxor, rx_lmul, rx_ldiv, rx_lrem, rx_lushr, rx_lshl, rx_lshr, rx_lneg, rx_i2l, rx_l2i, rx_i2b, rx_lcmp, rx_dup_i, rx_dup_a, rx_pop_i, rx_pop_a, rx_if_eq, rx_if_ne, rx_if_lt, rx_if_ge, rx_if_gt, rx_if_le, rx_icmp_eq, rx_icmp_ne, rx_icmp_lt, rx_icmp_ge, rx_icmp_gt, rx_icmp_le, rx_goto, rx_tsw, rx_ireturn, rx_lreturn, rx_return_, rx_getfield, rx_putfield, rx_invokevirtual, rx_invokespecial, rx_invokestatic, rx_ldc, rx_ldc2_w, rx_iaload, rx_iastore, rx_baload, rx_bastore, Nat.reduceBEq, Nat.reduceAdd, Nat.reduceSub, Nat.reduceMul, Nat.reduceLeDiff, Nat.reduceEqDiff, Nat.reduceLT, Int.reduceLT, Int.reduceLE, Int.reduceNeg, Int.reduceToNat, Int.reduceAdd, Fin.isValue, Fin.val_zero, Fin.val_one, Fin.reduceFinMk, Fin.val_ofNat, Bool.or_true, Bool.true_or, Bool.or_false, Bool.false_or, Bool.and_true, Bool.true_and, Bool.and_false, Bool.false_and, cond_true, cond_false, ↓reduceIte, eq_self, ne_eq, not_true_eq_false, not_false_eq_true, true_and, and_true, Option.toList_some, Option.toList_none, List.cons_append, List.nil_append, Option.some.injEq, Value.int.injEq, Value.long.injEq, rx_l0, rx_l1, rx_fv0, rx_fv1, rx_fv2, rx_fv3, nI_c1, nI_c2, nI_c4, nI_c8, nI_c9, nI_c24, nI_c64, Nat.le_refl, bI_z, bI_0, bI_1, Classical.not_not, lg_cmp_ge, lg_cmp_le, lg_cmp_gt, lg_cmp_lt, lg_cmp_eq]
      obtain ⟨hk, hl⟩ := hg
      generalize k.toNatClampNeg = K at hk hl ⊢
      subst hk
      simp (disch := omega) only [nI_z, nI_eq, nI_leI]
      unfold mkv
      grind)
  · cases hf
def pX4_nameLength : rx_P := [(0, .iconst 0, 0), (1, .istore_n 2, 0), (2, .aload_n 0, 0), (3, .getfield 7, 0), (6, .iload_n 1, 0), (7, .iload_n 2, 0), (8, .iadd, 0), (9, .iaload, 0), (10, .ifCond .eq 9, 19), (13, .iinc 2 1, 0), (16, .goto (-14), 2), (19, .iload_n 2, 0), (20, .ireturn, 0)]
theorem pX4_nameLength_ok : ∀ q ∈ pX4_nameLength, rx_ok cX4_nameLength q := rx_ok_all (by decide +kernel)
abbrev rX4_nameLength : Room := { frames := 0, cells := 0, slots := 0, locals := 0 }
noncomputable def fX4_nameLength : rx_F mS := fun w as => match as with
  | [.int x] => some (nI x.toNatClampNeg = x ∧ ∃ i, x.toNatClampNeg + i < 640 ∧ bg w.1 (x.toNatClampNeg + i) = 0, w, some (.int (nI (fi (fun i => bg w.1 (x.toNatClampNeg + i) = 0) 640))))
  | _ => none
noncomputable def eX4_nameLength (am : Nat → Nat) : rx_E mS := rx_any [rx_hG 7 (am 0) (fun w => .ref (am 1)), rx_hAi (am 1) 640 (fun w k => nI (bg w.1 k))]
set_option maxHeartbeats 4000000 in
set_option maxRecDepth 100000 in
theorem eo_X4_nameLength (l : Launch) (D : va_G) (am : Nat → Nat) (cI cZ : ClassId) : ∀ (p : Program) (e : Env) (s : State) (m : MethodId) (args : Array Value) (below : List Frame) (meth : Method) (c : Code) (Qw : State → Prop), CallFix p m c cX4_nameLength 3 s args (Cond.code yX4_nameLength cX4_nameLength 3 (some .int) :: wsA) RX4 → mK D cI cZ s → rx_Eok (fun H locs g => W p l e rX4_nameLength s m args below meth c H locs 0 0 Qw g) m cX4_nameLength 3 (tr_I D vwCl (mA am) s (mW am cI cZ)) (eX4_nameLength am) := by
  intro p e s m args below meth c Qw S hK
  have ht : ∀ w ∈ wsA, w.before args s = true := fun w h => S.2.2.2.2 w (wsA_in h)
  exact rx_any_c (rx_hG_ok (fun w H locs pc ls rest hI hd k => va_get (D := D) (ci := 4) (C := RX4) (T := TX4) (N := 7) S.1 S.2.1 ht inX4 S.2.2.2.1 hK.1 hI.1 0 rfl rfl 2 (by decide) (ht _ wfX4_7) (fun _ h9 => h9) rfl hd k)) (rx_any_c (rx_hAi_ok (fun w H locs pc ls rest x hI hin hd k => va_iald S.1 S.2.1 hK.1 hI.1 1 0 rfl rfl hin hd k)) (rx_any_0))
set_option maxHeartbeats 4000000 in
set_option maxRecDepth 100000 in
theorem ct_X4_nameLength (l : Launch) (D : va_G) (am : Nat → Nat) (cI cZ : ClassId) : ctM l yX4_nameLength cX4_nameLength 3 (some .int) rX4_nameLength D am cI cZ [.ref (am 0)] fX4_nameLength := by
  intro w as g w1 r hf hg
  unfold fX4_nameLength at hf
  split at hf
  · next x =>
    cases hf
    obtain ⟨hx, hl⟩ := hg
    generalize x.toNatClampNeg = X at hx hl ⊢
    subst hx
    refine tr_of (rx_mc [(2, fun u w0 lv => w0 = w ∧ ∃ j, u = 640 - j ∧ (∀ i, i < j → ¬ bg w.1 (X + i) = 0) ∧ lv = [(0, .ref (am 0)), (1, .int (nI X)), (2, .int (nI j))])]) 400 400 100000 (by decide) rfl rfl (Nat.le_of_ble_eq_true rfl) pX4_nameLength_ok (rt_i _) (eo_X4_nameLength l D am cI cZ) ?_ ?_
    · intro pc g0 hpc u w0 lv hinv
      have hh := rx_mc_of _ hpc
      clear hpc
      simp only [List.mem_cons, List.not_mem_nil, or_false, Prod.mk.injEq] at hh
      rcases hh with ⟨rfl, rfl⟩
      · obtain ⟨rfl, j, rfl, hz, rfl⟩ := hinv
        obtain ⟨n, hn1, hn2⟩ := hl
        have hj : j ≤ n := by
          by_cases q : j ≤ n
          · exact q
          · exact absurd hn2 (hz n (by omega))
        have hb := bg_lt w0.1 (X + j)
        simp only [pX4_nameLength, eX4_nameLength, rx_n, rx_s, rx_to, rx_get, rx_f1, rx_f2, rx_two, rx_ext, rx_any, rx_hV, rx_hS, rx_hG, rx_hP, rx_hAi, rx_hAb, rx_hBb, rx_hBi, rx_hBp, rx_hL, rx_hLi, rx_got, rx_pop, rx_sum, rx_len, rx_c, rx_m1, lv_args, Value.category, rx_cut_n, rx_cut_m0, rx_cut_m1, rx_iconst, rx_bipush, rx_sipush, rx_lconst, rx_iload_n, rx_iload, rx_lload_n, rx_lload, rx_aload_n, rx_aload, rx_istore_n, rx_istore, rx_lstore_n, rx_lstore, rx_astore_n, rx_astore, rx_iinc, rx_iadd, rx_isub, rx_imul, rx_iand, rx_ixor, rx_ishr, rx_idiv, rx_irem, rx_ladd, rx_lsub, rx_land, rx_lor, rx_lxor, rx_lmul, rx_ldiv, rx_lrem, rx_lushr, rx_lshl, rx_lshr, rx_lneg, rx_i2l, rx_l2i, rx_i2b, rx_lcmp, rx_dup_i, rx_dup_a, rx_pop_i, rx_pop_a, rx_if_eq, rx_if_ne, rx_if_lt, rx_if_ge, rx_if_gt, rx_if_le, rx_icmp_eq, rx_icmp_ne, rx_icmp_lt, rx_icmp_ge, rx_icmp_gt, rx_icmp_le, rx_goto, rx_tsw, rx_ireturn, rx_lreturn, rx_return_, rx_getfield, rx_putfield, rx_invokevirtual, rx_invokespecial, rx_invokestatic, rx_ldc, rx_ldc2_w, rx_iaload, rx_iastore, rx_baload, rx_bastore, Nat.reduceBEq, Nat.reduceAdd, Nat.reduceSub, Nat.reduceMul, Nat.reduceLeDiff, Nat.reduceEqDiff, Nat.reduceLT, Int.reduceLT, Int.reduceLE, Int.reduceNeg, Int.reduceToNat, Int.reduceAdd, Fin.isValue, Fin.val_zero, Fin.val_one, Fin.reduceFinMk, Fin.val_ofNat, Bool.or_true, Bool.true_or, Bool.or_false, Bool.false_or, Bool.and_true, Bool.true_and, Bool.and_false, Bool.false_and, cond_true, cond_false, ↓reduceIte, eq_self, ne_eq, not_true_eq_false, not_false_eq_true, true_and, and_true, Option.toList_some, Option.toList_none, List.cons_append, List.nil_append, Option.some.injEq, Value.int.injEq, Value.long.injEq, rx_l0, rx_l1, rx_fv0, rx_fv1, rx_fv2, rx_fv3, nI_c1, nI_c2, nI_c4, nI_c8, nI_c9, nI_c24, nI_c64, Nat.le_refl, bI_z, bI_0, bI_1, Classical.not_not, lg_cmp_ge, lg_cmp_le, lg_cmp_gt, lg_cmp_lt, lg_cmp_eq]
        simp (disch := omega) only [nI_add, nI_clamp, nI_z]
        refine ⟨vp_in_nI (by omega) (by decide), fun h => ?_, fun h => ?_⟩
        · rw [fi_eq (k := j) hz (fun _ => h) (by omega)]
        · refine ⟨640 - (j + 1), _, by omega, ⟨j + 1, rfl, lt_s hz h, rfl⟩, ?_⟩
          simp only [List.mem_cons, List.not_mem_nil, or_false, forall_eq_or_imp, forall_eq, Nat.reduceBEq, cond_true, cond_false, Option.some.injEq, Value.int.injEq, Value.long.injEq, Value.ref.injEq, true_and, and_true]
    · simp only [pX4_nameLength, eX4_nameLength, rx_n, rx_s, rx_to, rx_get, rx_f1, rx_f2, rx_two, rx_ext, rx_any, rx_hV, rx_hS, rx_hG, rx_hP, rx_hAi, rx_hAb, rx_hBb, rx_hBi, rx_hBp, rx_hL, rx_hLi, rx_got, rx_pop, rx_sum, rx_len, rx_c, rx_m1, lv_args, Value.category, rx_cut_n, rx_cut_m0, rx_cut_m1, rx_iconst, rx_bipush, rx_sipush, rx_lconst, rx_iload_n, rx_iload, rx_lload_n, rx_lload, rx_aload_n, rx_aload, rx_istore_n, rx_istore, rx_lstore_n, rx_lstore, rx_astore_n, rx_astore, rx_iinc, rx_iadd, rx_isub, rx_imul, rx_iand, rx_ixor, rx_ishr, rx_idiv, rx_irem, rx_ladd, rx_lsub, rx_land, rx_lor, rx_lxor, rx_lmul, rx_ldiv, rx_lrem, rx_lushr, rx_lshl, rx_lshr, rx_lneg, rx_i2l, rx_l2i, rx_i2b, rx_lcmp, rx_dup_i, rx_dup_a, rx_pop_i, rx_pop_a, rx_if_eq, rx_if_ne, rx_if_lt, rx_if_ge, rx_if_gt, rx_if_le, rx_icmp_eq, rx_icmp_ne, rx_icmp_lt, rx_icmp_ge, rx_icmp_gt, rx_icmp_le, rx_goto, rx_tsw, rx_ireturn, rx_lreturn, rx_return_, rx_getfield, rx_putfield, rx_invokevirtual, rx_invokespecial, rx_invokestatic, rx_ldc, rx_ldc2_w, rx_iaload, rx_iastore, rx_baload, rx_bastore, Nat.reduceBEq, Nat.reduceAdd, Nat.reduceSub, Nat.reduceMul, Nat.reduceLeDiff, Nat.reduceEqDiff, Nat.reduceLT, Int.reduceLT, Int.reduceLE, Int.reduceNeg, Int.reduceToNat, Int.reduceAdd, Fin.isValue, Fin.val_zero, Fin.val_one, Fin.reduceFinMk, Fin.val_ofNat, Bool.or_true, Bool.true_or, Bool.or_false, Bool.false_or, Bool.and_true, Bool.true_and, Bool.and_false, Bool.false_and, cond_true, cond_false, ↓reduceIte, eq_self, ne_eq, not_true_eq_false, not_false_eq_true, true_and, and_true, Option.toList_some, Option.toList_none, List.cons_append, List.nil_append, Option.some.injEq, Value.int.injEq, Value.long.injEq, rx_l0, rx_l1, rx_fv0, rx_fv1, rx_fv2, rx_fv3, nI_c1, nI_c2, nI_c4, nI_c8, nI_c9, nI_c24, nI_c64, Nat.le_refl, bI_z, bI_0, bI_1, Classical.not_not, lg_cmp_ge, lg_cmp_le, lg_cmp_gt, lg_cmp_lt, lg_cmp_eq]
      refine ⟨640, _, by omega, ⟨0, rfl, lt_0, rfl⟩, ?_⟩
      simp only [List.mem_cons, List.not_mem_nil, or_false, forall_eq_or_imp, forall_eq, Nat.reduceBEq, cond_true, cond_false, Option.some.injEq, Value.int.injEq, Value.long.injEq, Value.ref.injEq, true_and, and_true]
  · cases hf
def pX4_nameAt : rx_P := [(0, .aload_n 0, 0), (1, .aload_n 0, 0), (2, .bipush 62, 0), (4, .invokevirtual 24, 0), (7, .invokevirtual 70, 0), (10, .aload_n 0, 0), (11, .aload_n 0, 0), (12, .iload_n 1, 0), (13, .invokevirtual 50, 0), (16, .invokevirtual 30, 0), (19, .l2i, 0), (20, .iadd, 0), (21, .ireturn, 0)]
theorem pX4_nameAt_ok : ∀ q ∈ pX4_nameAt, rx_ok cX4_nameAt q := rx_ok_all (by decide +kernel)
abbrev rX4_nameAt : Room := { frames := 4, cells := 0, slots := 0, locals := 84 }
noncomputable def fX4_nameAt : rx_F mS := fun w as => match as with
  | [.int k] => some (t6 w.1 ∧ nI k.toNatClampNeg = k ∧ k.toNatClampNeg < sC w.1 ∧ tX w.1 (nX w.1), w, some (.int (nI (rP w.1 (nX w.1) + bl w.1 (sA w.1 k.toNatClampNeg) 4))))
  | _ => none
noncomputable def eX4_nameAt (am : Nat → Nat) : rx_E mS := rx_any [rx_hV 24 1 (am 0) fX4_two, rx_hV 70 1 (am 0) fX4_placeOf, rx_hV 50 1 (am 0) fX4_sectionAt, rx_hV 30 1 (am 0) fX4_four]
set_option maxHeartbeats 4000000 in
set_option maxRecDepth 100000 in
theorem eo_X4_nameAt (l : Launch) (D : va_G) (am : Nat → Nat) (cI cZ : ClassId) : ∀ (p : Program) (e : Env) (s : State) (m : MethodId) (args : Array Value) (below : List Frame) (meth : Method) (c : Code) (Qw : State → Prop), CallFix p m c cX4_nameAt 2 s args (Cond.code yX4_nameAt cX4_nameAt 2 (some .int) :: wsA) RX4 → mK D cI cZ s → rx_Eok (fun H locs g => W p l e rX4_nameAt s m args below meth c H locs 0 0 Qw g) m cX4_nameAt 2 (tr_I D vwCl (mA am) s (mW am cI cZ)) (eX4_nameAt am) := by
  intro p e s m args below meth c Qw S hK
  have ht : ∀ w ∈ wsA, w.before args s = true := fun w h => S.2.2.2.2 w (wsA_in h)
  exact rx_any_c (rx_hV_ok S ⟨Nat.zero_le _, Nat.zero_le _⟩ mK_tr hK (cwV 1 S.2.2.2.2 (wsA_V wkX4_24 wiX4_two weX4_two winiX4 wX4_two) rfl rfl rfl (by decide +kernel) ⟨by decide, by decide⟩) (ct_X4_two l D am cI cZ) (fun w H hP => va_recv hK.1 hP (rfl : vwCl[4]? = some (RX4, TX4, 7)) (rfl : (mW am cI cZ w)[0]? = some _))) (rx_any_c (rx_hV_ok S ⟨Nat.zero_le _, Nat.zero_le _⟩ mK_tr hK (cwV 1 S.2.2.2.2 (wsA_V wkX4_70 wiX4_placeOf weX4_placeOf winiX4 wX4_placeOf) rfl rfl rfl (by decide +kernel) ⟨by decide, by decide⟩) (ct_X4_placeOf l D am cI cZ) (fun w H hP => va_recv hK.1 hP (rfl : vwCl[4]? = some (RX4, TX4, 7)) (rfl : (mW am cI cZ w)[0]? = some _))) (rx_any_c (rx_hV_ok S ⟨Nat.zero_le _, Nat.zero_le _⟩ mK_tr hK (cwV 1 S.2.2.2.2 (wsA_V wkX4_50 wiX4_sectionAt weX4_sectionAt winiX4 wX4_sectionAt) rfl rfl rfl (by decide +kernel) ⟨by decide, by decide⟩) (ct_X4_sectionAt l D am cI cZ) (fun w H hP => va_recv hK.1 hP (rfl : vwCl[4]? = some (RX4, TX4, 7)) (rfl : (mW am cI cZ w)[0]? = some _))) (rx_any_c (rx_hV_ok S ⟨Nat.zero_le _, Nat.zero_le _⟩ mK_tr hK (cwV 1 S.2.2.2.2 (wsA_V wkX4_30 wiX4_four weX4_four winiX4 wX4_four) rfl rfl rfl (by decide +kernel) ⟨by decide, by decide⟩) (ct_X4_four l D am cI cZ) (fun w H hP => va_recv hK.1 hP (rfl : vwCl[4]? = some (RX4, TX4, 7)) (rfl : (mW am cI cZ w)[0]? = some _))) (rx_any_0))))
set_option maxHeartbeats 4000000 in
set_option maxRecDepth 100000 in
theorem ct_X4_nameAt (l : Launch) (D : va_G) (am : Nat → Nat) (cI cZ : ClassId) : ctM l yX4_nameAt cX4_nameAt 2 (some .int) rX4_nameAt D am cI cZ [.ref (am 0)] fX4_nameAt := by
  intro w as g w1 r hf hg
  unfold fX4_nameAt at hf
  split at hf
  · next k =>
    cases hf
    exact tr_of rx_nc 0 200 0 (by decide) rfl rfl (Nat.le_of_ble_eq_true rfl) pX4_nameAt_ok (rt_i _) (eo_X4_nameAt l D am cI cZ) (fun pc g h => by cases h) (by
      simp only [pX4_nameAt, eX4_nameAt, fX4_four, fX4_placeOf, fX4_sectionAt, fX4_two, rx_n, rx_s, rx_to, rx_get, rx_f1, rx_f2, rx_two, rx_ext, rx_any, rx_hV, rx_hS, rx_hG, rx_hP, rx_hAi, rx_hAb, rx_hBb, rx_hBi, rx_hBp, rx_hL, rx_hLi, rx_got, rx_pop, rx_sum, rx_len, rx_c, rx_m1, lv_args, Value.category, rx_cut_n, rx_cut_m0, rx_cut_m1, rx_iconst, rx_bipush, rx_sipush, rx_lconst, rx_iload_n, rx_iload, rx_lload_n, rx_lload, rx_aload_n, rx_aload, rx_istore_n, rx_istore, rx_lstore_n, rx_lstore, rx_astore_n, rx_astore, rx_iinc, rx_iadd, rx_isub, rx_imul, rx_iand, rx_ixor, rx_ishr, rx_idiv, rx_irem, rx_ladd, rx_lsub, rx_land, rx_lor, rx_lxor, rx_lmul, rx_ldiv, rx_lrem, rx_lushr, rx_lshl, rx_lshr, rx_lneg, rx_i2l, rx_l2i, rx_i2b, rx_lcmp, rx_dup_i, rx_dup_a, rx_pop_i, rx_pop_a, rx_if_eq, rx_if_ne, rx_if_lt, rx_if_ge, rx_if_gt, rx_if_le, rx_icmp_eq, rx_icmp_ne, rx_icmp_lt, rx_icmp_ge, rx_icmp_gt, rx_icmp_le, rx_goto, rx_tsw, rx_ireturn, rx_lreturn, rx_return_, rx_getfield, rx_putfield, rx_invokevirtual, rx_invokespecial, rx_invokestatic, rx_ldc, rx_ldc2_w, rx_iaload, rx_iastore, rx_baload, rx_bastore, Nat.reduceBEq, Nat.reduceAdd, Nat.reduceSub, Nat.reduceMul, Nat.reduceLeDiff, Nat.reduceEqDiff, Nat.reduceLT, Int.reduceLT, Int.reduceLE, Int.reduceNeg, Int.reduceToNat, Int.reduceAdd, Fin.isValue, Fin.val_zero, Fin.val_one, Fin.reduceFinMk, Fin.val_ofNat, Bool.or_true, Bool.true_or, Bool.or_false, Bool.false_or, Bool.and_true, Bool.true_and, Bool.and_false, Bool.false_and, cond_true, cond_false, ↓reduceIte, eq_self, ne_eq, not_true_eq_false, not_false_eq_true, true_and, and_true, Option.toList_some, Option.toList_none, List.cons_append, List.nil_append, Option.some.injEq, Value.int.injEq, Value.long.injEq, rx_l0, rx_l1, rx_fv0, rx_fv1, rx_fv2, rx_fv3, nI_c1, nI_c2, nI_c4, nI_c8, nI_c9, nI_c24, nI_c64, Nat.le_refl, bI_z, bI_0, bI_1, Classical.not_not, lg_cmp_ge, lg_cmp_le, lg_cmp_gt, lg_cmp_lt, lg_cmp_eq]
      obtain ⟨h6, hk, hl, hX⟩ := hg
      generalize k.toNatClampNeg = K at hk hl ⊢
      subst hk
      have hB := bn_le w.1
      have hA := t6_sA h6 hl
      have e : nI (bl w.1 40 8) + nI 64 * nI K = nI (sA w.1 K) := by unfold sA; rw [pk_mul, nI_add]
      have h2 := bl_q2 w.1 62
      have e2 : bl w.1 62 2 = nX w.1 := rfl
      simp (disch := omega) only [e, nI_clamp, lN_i, nI_add, e2]
      exact ⟨vp_in_nI (by omega) (by decide), ⟨h6, trivial, hX.1⟩, vp_in_nI (by omega) (by decide), trivial⟩)
  · cases hf
def pX4_beginsBefore : rx_P := [(0, .aload_n 0, 0), (1, .iload_n 2, 0), (2, .bipush 16, 0), (4, .iadd, 0), (5, .invokevirtual 30, 0), (8, .aload_n 0, 0), (9, .iload_n 2, 0), (10, .bipush 40, 0), (12, .iadd, 0), (13, .invokevirtual 30, 0), (16, .ladd, 0), (17, .lstore_n 3, 0), (18, .aload_n 0, 0), (19, .iload_n 2, 0), (20, .bipush 20, 0), (22, .iadd, 0), (23, .invokevirtual 30, 0), (26, .aload_n 0, 0), (27, .iload_n 2, 0), (28, .bipush 44, 0), (30, .iadd, 0), (31, .invokevirtual 30, 0), (34, .ladd, 0), (35, .lload_n 3, 0), (36, .ldc2_w 34, 0), (39, .ldiv, 0), (40, .ladd, 0), (41, .lstore 5, 0), (43, .aload_n 0, 0), (44, .iload_n 1, 0), (45, .bipush 20, 0), (47, .iadd, 0), (48, .invokevirtual 30, 0), (51, .aload_n 0, 0), (52, .iload_n 1, 0), (53, .bipush 16, 0), (55, .iadd, 0), (56, .invokevirtual 30, 0), (59, .lload 5, 0), (61, .lload_n 3, 0), (62, .ldc2_w 34, 0), (65, .lrem, 0), (66, .invokestatic 36, 0), (69, .ifCond .ge 7, 76), (72, .iconst 1, 0), (73, .goto 4, 77), (76, .iconst 0, 0), (77, .ireturn, 0)]
theorem pX4_beginsBefore_ok : ∀ q ∈ pX4_beginsBefore, rx_ok cX4_beginsBefore q := rx_ok_all (by decide +kernel)
abbrev rX4_beginsBefore : Room := { frames := 2, cells := 0, slots := 0, locals := 42 }
noncomputable def fX4_beginsBefore : rx_F mS := fun w as => match as with
  | [.int x, .int y] => some (vp_in x 585 ∧ vp_in y 585, w, some (.int (bI (bl w.1 (x.toNatClampNeg + 16) 8 < bl w.1 (y.toNatClampNeg + 16) 8 + bl w.1 (y.toNatClampNeg + 40) 8))))
  | _ => none
noncomputable def eX4_beginsBefore (am : Nat → Nat) : rx_E mS := rx_any [rx_hV 30 1 (am 0) fX4_four, rx_hL 34 (lN 4294967296), rx_hS 36 4 fX4_compare]
set_option maxHeartbeats 4000000 in
set_option maxRecDepth 100000 in
theorem eo_X4_beginsBefore (l : Launch) (D : va_G) (am : Nat → Nat) (cI cZ : ClassId) : ∀ (p : Program) (e : Env) (s : State) (m : MethodId) (args : Array Value) (below : List Frame) (meth : Method) (c : Code) (Qw : State → Prop), CallFix p m c cX4_beginsBefore 7 s args (Cond.code yX4_beginsBefore cX4_beginsBefore 7 (some .boolean) :: wsA) RX4 → mK D cI cZ s → rx_Eok (fun H locs g => W p l e rX4_beginsBefore s m args below meth c H locs 0 0 Qw g) m cX4_beginsBefore 7 (tr_I D vwCl (mA am) s (mW am cI cZ)) (eX4_beginsBefore am) := by
  intro p e s m args below meth c Qw S hK
  have ht : ∀ w ∈ wsA, w.before args s = true := fun w h => S.2.2.2.2 w (wsA_in h)
  exact rx_any_c (rx_hV_ok S ⟨Nat.zero_le _, Nat.zero_le _⟩ mK_tr hK (cwV 1 S.2.2.2.2 (wsA_V wkX4_30 wiX4_four weX4_four winiX4 wX4_four) rfl rfl rfl (by decide +kernel) ⟨by decide, by decide⟩) (ct_X4_four l D am cI cZ) (fun w H hP => va_recv hK.1 hP (rfl : vwCl[4]? = some (RX4, TX4, 7)) (rfl : (mW am cI cZ w)[0]? = some _))) (rx_any_c (rx_hL_ok S (ht _ wcX4_34)) (rx_any_c (rx_hS_ok S ⟨Nat.zero_le _, Nat.zero_le _⟩ mK_tr hK (va_cwS 4 S.2.2.2.2 (wsA_S wkX4_36 wsX4_compare winiX4 wX4_compare) rfl rfl rfl (by decide +kernel) ⟨by decide, by decide⟩) (ct_X4_compare l D am cI cZ)) (rx_any_0)))
set_option maxHeartbeats 4000000 in
set_option maxRecDepth 100000 in
theorem ct_X4_beginsBefore (l : Launch) (D : va_G) (am : Nat → Nat) (cI cZ : ClassId) : ctM l yX4_beginsBefore cX4_beginsBefore 7 (some .boolean) rX4_beginsBefore D am cI cZ [.ref (am 0)] fX4_beginsBefore := by
  intro w as g w1 r hf hg
  unfold fX4_beginsBefore at hf
  split at hf
  · next x y =>
    cases hf
    exact tr_of rx_nc 0 200 0 (by decide) rfl rfl (Nat.le_of_ble_eq_true rfl) pX4_beginsBefore_ok (rt_z _) (eo_X4_beginsBefore l D am cI cZ) (fun pc g h => by cases h) (by
      simp only [pX4_beginsBefore, eX4_beginsBefore, fX4_compare, fX4_four, rx_n, rx_s, rx_to, rx_get, rx_f1, rx_f2, rx_two, rx_ext, rx_any, rx_hV, rx_hS, rx_hG, rx_hP, rx_hAi, rx_hAb, rx_hBb, rx_hBi, rx_hBp, rx_hL, rx_hLi, rx_got, rx_pop, rx_sum, rx_len, rx_c, rx_m1, lv_args, Value.category, rx_cut_n, rx_cut_m0, rx_cut_m1, rx_iconst, rx_bipush, rx_sipush, rx_lconst, rx_iload_n, rx_iload, rx_lload_n, rx_lload, rx_aload_n, rx_aload, rx_istore_n, rx_istore, rx_lstore_n, rx_lstore, rx_astore_n, rx_astore, rx_iinc, rx_iadd, rx_isub, rx_imul, rx_iand, rx_ixor, rx_ishr, rx_idiv, rx_irem, rx_ladd, rx_lsub, rx_land, rx_lor, rx_lxor, rx_lmul, rx_ldiv, rx_lrem, rx_lushr, rx_lshl, rx_lshr, rx_lneg, rx_i2l, rx_l2i, rx_i2b, rx_lcmp, rx_dup_i, rx_dup_a, rx_pop_i, rx_pop_a, rx_if_eq, rx_if_ne, rx_if_lt, rx_if_ge, rx_if_gt, rx_if_le, rx_icmp_eq, rx_icmp_ne, rx_icmp_lt, rx_icmp_ge, rx_icmp_gt, rx_icmp_le, rx_goto, rx_tsw, rx_ireturn, rx_lreturn, rx_return_, rx_getfield, rx_putfield, rx_invokevirtual, rx_invokespecial, rx_invokestatic, rx_ldc, rx_ldc2_w, rx_iaload, rx_iastore, rx_baload, rx_bastore, Nat.reduceBEq, Nat.reduceAdd, Nat.reduceSub, Nat.reduceMul, Nat.reduceLeDiff, Nat.reduceEqDiff, Nat.reduceLT, Int.reduceLT, Int.reduceLE, Int.reduceNeg, Int.reduceToNat, Int.reduceAdd, Fin.isValue, Fin.val_zero, Fin.val_one, Fin.reduceFinMk, Fin.val_ofNat, Bool.or_true, Bool.true_or, Bool.or_false, Bool.false_or, Bool.and_true, Bool.true_and, Bool.and_false, Bool.false_and, cond_true, cond_false, ↓reduceIte, eq_self, ne_eq, not_true_eq_false, not_false_eq_true, true_and, and_true, Option.toList_some, Option.toList_none, List.cons_append, List.nil_append, Option.some.injEq, Value.int.injEq, Value.long.injEq, rx_l0, rx_l1, rx_fv0, rx_fv1, rx_fv2, rx_fv3, nI_c1, nI_c2, nI_c4, nI_c8, nI_c9, nI_c24, nI_c64, Nat.le_refl, bI_z, bI_0, bI_1, Classical.not_not, lg_cmp_ge, lg_cmp_le, lg_cmp_gt, lg_cmp_lt, lg_cmp_eq]
      obtain ⟨hx, hy⟩ := hg
      obtain ⟨a, ha, rfl, -⟩ := vp_ex hx (by decide)
      obtain ⟨c, hc, rfl, -⟩ := vp_ex hy (by decide)
      have h1 := bl_q4 w.1 (a + 16)
      have h2 := bl_q4 w.1 (a + 20)
      have h3 := bl_q4 w.1 (c + 16)
      have h4 := bl_q4 w.1 (c + 20)
      have h5 := bl_q4 w.1 (c + 40)
      have h6 := bl_q4 w.1 (c + 44)
      have g1 : bl w.1 (a + 16) 8 = bl w.1 (a + 16) 4 + 4294967296 * bl w.1 (a + 20) 4 := bl_8 w.1 (a + 16)
      have g2 : bl w.1 (c + 16) 8 = bl w.1 (c + 16) 4 + 4294967296 * bl w.1 (c + 20) 4 := bl_8 w.1 (c + 16)
      have g3 : bl w.1 (c + 40) 8 = bl w.1 (c + 40) 4 + 4294967296 * bl w.1 (c + 44) 4 := bl_8 w.1 (c + 40)
      simp (disch := omega) only [nI_add, nI_clamp, lN_add, pk_lDiv, lRem2, uN_lN, c3_lt, c3_ge]
      refine ⟨vp_in_nI (by omega) (by decide), vp_in_nI (by omega) (by decide), vp_in_nI (by omega) (by decide), vp_in_nI (by omega) (by decide), by decide, vp_in_nI (by omega) (by decide), vp_in_nI (by omega) (by decide), by decide, ⟨by omega, by omega, by omega, by omega⟩, fun h => ?_, fun h => ?_⟩ <;> omega)
  · cases hf
def pX4_badSegment : rx_P := [(0, .aload_n 0, 0), (1, .iload_n 1, 0), (2, .bipush 48, 0), (4, .iadd, 0), (5, .invokevirtual 40, 0), (8, .iconst 1, 0), (9, .if_icmp .gt 33, 42), (12, .aload_n 0, 0), (13, .iload_n 1, 0), (14, .bipush 8, 0), (16, .iadd, 0), (17, .iload_n 1, 0), (18, .bipush 32, 0), (20, .iadd, 0), (21, .invokevirtual 93, 0), (24, .ifCond .eq 18, 42), (27, .aload_n 0, 0), (28, .iload_n 1, 0), (29, .bipush 40, 0), (31, .iadd, 0), (32, .iload_n 1, 0), (33, .bipush 32, 0), (35, .iadd, 0), (36, .invokevirtual 96, 0), (39, .ifCond .ge 5, 44), (42, .iconst 1, 0), (43, .ireturn, 0), (44, .aload_n 0, 0), (45, .iload_n 1, 0), (46, .bipush 16, 0), (48, .iadd, 0), (49, .invokevirtual 30, 0), (52, .aload_n 0, 0), (53, .iload_n 1, 0), (54, .bipush 40, 0), (56, .iadd, 0), (57, .invokevirtual 30, 0), (60, .ladd, 0), (61, .lstore_n 2, 0), (62, .aload_n 0, 0), (63, .iload_n 1, 0), (64, .bipush 20, 0), (66, .iadd, 0), (67, .invokevirtual 30, 0), (70, .aload_n 0, 0), (71, .iload_n 1, 0), (72, .bipush 44, 0), (74, .iadd, 0), (75, .invokevirtual 30, 0), (78, .ladd, 0), (79, .lload_n 2, 0), (80, .ldc2_w 34, 0), (83, .ldiv, 0), (84, .ladd, 0), (85, .lstore 4, 0), (87, .lload 4, 0), (89, .ldc2_w 34, 0), (92, .lcmp, 0), (93, .ifCond .gt 22, 115), (96, .lload 4, 0), (98, .ldc2_w 34, 0), (101, .lcmp, 0), (102, .ifCond .ne 17, 119), (105, .lload_n 2, 0), (106, .ldc2_w 34, 0), (109, .lrem, 0), (110, .lconst 0, 0), (111, .lcmp, 0), (112, .ifCond .le 7, 119), (115, .iconst 1, 0), (116, .goto 4, 120), (119, .iconst 0, 0), (120, .istore 6, 0), (122, .iload 6, 0), (124, .ifCond .ne 22, 146), (127, .aload_n 0, 0), (128, .iload_n 1, 0), (129, .bipush 48, 0), (131, .iadd, 0), (132, .iload_n 1, 0), (133, .bipush 16, 0), (135, .iadd, 0), (136, .iload_n 1, 0), (137, .bipush 8, 0), (139, .iadd, 0), (140, .invokevirtual 100, 0), (143, .ifCond .ne 7, 150), (146, .iconst 1, 0), (147, .goto 4, 151), (150, .iconst 0, 0), (151, .ireturn, 0)]
theorem pX4_badSegment_ok : ∀ q ∈ pX4_badSegment, rx_ok cX4_badSegment q := rx_ok_all (by decide +kernel)
abbrev rX4_badSegment : Room := { frames := 4, cells := 0, slots := 0, locals := 87 }
noncomputable def fX4_badSegment : rx_F mS := fun w as => match as with
  | [.int x] => some (vp_in x 585, w, some (.int (bI (¬ gOK (bn w.1) (bl w.1 (x.toNatClampNeg + 8) 8) (bl w.1 (x.toNatClampNeg + 16) 8) (bl w.1 (x.toNatClampNeg + 32) 8) (bl w.1 (x.toNatClampNeg + 40) 8) (bl w.1 (x.toNatClampNeg + 48) 8)))))
  | _ => none
noncomputable def eX4_badSegment (am : Nat → Nat) : rx_E mS := rx_any [rx_hV 40 1 (am 0) fX4_ones, rx_hV 93 2 (am 0) fX4_hasRoom, rx_hV 96 2 (am 0) fX4_compareAt, rx_hV 30 1 (am 0) fX4_four, rx_hL 34 (lN 4294967296), rx_hV 100 3 (am 0) fX4_sameRest]
set_option maxHeartbeats 4000000 in
set_option maxRecDepth 100000 in
theorem eo_X4_badSegment (l : Launch) (D : va_G) (am : Nat → Nat) (cI cZ : ClassId) : ∀ (p : Program) (e : Env) (s : State) (m : MethodId) (args : Array Value) (below : List Frame) (meth : Method) (c : Code) (Qw : State → Prop), CallFix p m c cX4_badSegment 7 s args (Cond.code yX4_badSegment cX4_badSegment 7 (some .boolean) :: wsA) RX4 → mK D cI cZ s → rx_Eok (fun H locs g => W p l e rX4_badSegment s m args below meth c H locs 0 0 Qw g) m cX4_badSegment 7 (tr_I D vwCl (mA am) s (mW am cI cZ)) (eX4_badSegment am) := by
  intro p e s m args below meth c Qw S hK
  have ht : ∀ w ∈ wsA, w.before args s = true := fun w h => S.2.2.2.2 w (wsA_in h)
  exact rx_any_c (rx_hV_ok S ⟨Nat.zero_le _, Nat.zero_le _⟩ mK_tr hK (cwV 1 S.2.2.2.2 (wsA_V wkX4_40 wiX4_ones weX4_ones winiX4 wX4_ones) rfl rfl rfl (by decide +kernel) ⟨by decide, by decide⟩) (ct_X4_ones l D am cI cZ) (fun w H hP => va_recv hK.1 hP (rfl : vwCl[4]? = some (RX4, TX4, 7)) (rfl : (mW am cI cZ w)[0]? = some _))) (rx_any_c (rx_hV_ok S ⟨Nat.zero_le _, Nat.zero_le _⟩ mK_tr hK (cwV 2 S.2.2.2.2 (wsA_V wkX4_93 wiX4_hasRoom weX4_hasRoom winiX4 wX4_hasRoom) rfl rfl rfl (by decide +kernel) ⟨by decide, by decide⟩) (ct_X4_hasRoom l D am cI cZ) (fun w H hP => va_recv hK.1 hP (rfl : vwCl[4]? = some (RX4, TX4, 7)) (rfl : (mW am cI cZ w)[0]? = some _))) (rx_any_c (rx_hV_ok S ⟨Nat.zero_le _, Nat.zero_le _⟩ mK_tr hK (cwV 2 S.2.2.2.2 (wsA_V wkX4_96 wiX4_compareAt weX4_compareAt winiX4 wX4_compareAt) rfl rfl rfl (by decide +kernel) ⟨by decide, by decide⟩) (ct_X4_compareAt l D am cI cZ) (fun w H hP => va_recv hK.1 hP (rfl : vwCl[4]? = some (RX4, TX4, 7)) (rfl : (mW am cI cZ w)[0]? = some _))) (rx_any_c (rx_hV_ok S ⟨Nat.zero_le _, Nat.zero_le _⟩ mK_tr hK (cwV 1 S.2.2.2.2 (wsA_V wkX4_30 wiX4_four weX4_four winiX4 wX4_four) rfl rfl rfl (by decide +kernel) ⟨by decide, by decide⟩) (ct_X4_four l D am cI cZ) (fun w H hP => va_recv hK.1 hP (rfl : vwCl[4]? = some (RX4, TX4, 7)) (rfl : (mW am cI cZ w)[0]? = some _))) (rx_any_c (rx_hL_ok S (ht _ wcX4_34)) (rx_any_c (rx_hV_ok S ⟨Nat.zero_le _, Nat.zero_le _⟩ mK_tr hK (cwV 3 S.2.2.2.2 (wsA_V wkX4_100 wiX4_sameRest weX4_sameRest winiX4 wX4_sameRest) rfl rfl rfl (by decide +kernel) ⟨by decide, by decide⟩) (ct_X4_sameRest l D am cI cZ) (fun w H hP => va_recv hK.1 hP (rfl : vwCl[4]? = some (RX4, TX4, 7)) (rfl : (mW am cI cZ w)[0]? = some _))) (rx_any_0))))))
set_option maxHeartbeats 4000000 in
set_option maxRecDepth 100000 in
theorem ct_X4_badSegment (l : Launch) (D : va_G) (am : Nat → Nat) (cI cZ : ClassId) : ctM l yX4_badSegment cX4_badSegment 7 (some .boolean) rX4_badSegment D am cI cZ [.ref (am 0)] fX4_badSegment := by
  intro w as g w1 r hf hg
  unfold fX4_badSegment at hf
  split at hf
  · next x =>
    cases hf
    obtain ⟨a, ha, rfl, -⟩ := vp_ex hg (by decide)
    simp only [nI_clamp (show a < 2 ^ 31 by omega)]
    refine tr_of (rx_mc [(122, fun u w0 lv => w0 = w ∧ u = 1 ∧ pw (bl w.1 (a + 48) 8) ∧ bl w.1 (a + 8) 8 + bl w.1 (a + 32) 8 ≤ bn w.1 ∧ bl w.1 (a + 32) 8 ≤ bl w.1 (a + 40) 8 ∧ lv = [(0, .ref (am 0)), (1, .int (nI a)), (6, .int (bI (¬ bl w.1 (a + 16) 8 + bl w.1 (a + 40) 8 ≤ 18446744073709551616)))])]) 400 400 100000 (by decide) rfl rfl (Nat.le_of_ble_eq_true rfl) pX4_badSegment_ok (rt_z _) (eo_X4_badSegment l D am cI cZ) ?_ ?_
    · intro pc g0 hpc u w0 lv hinv
      have hh := rx_mc_of _ hpc
      clear hpc
      simp only [List.mem_cons, List.not_mem_nil, or_false, Prod.mk.injEq] at hh
      rcases hh with ⟨rfl, rfl⟩
      · obtain ⟨rfl, rfl, h1, h2, h3, rfl⟩ := hinv
        simp only [pX4_badSegment, eX4_badSegment, fX4_compareAt, fX4_four, fX4_hasRoom, fX4_ones, fX4_sameRest, rx_n, rx_s, rx_to, rx_get, rx_f1, rx_f2, rx_two, rx_ext, rx_any, rx_hV, rx_hS, rx_hG, rx_hP, rx_hAi, rx_hAb, rx_hBb, rx_hBi, rx_hBp, rx_hL, rx_hLi, rx_got, rx_pop, rx_sum, rx_len, rx_c, rx_m1, lv_args, Value.category, rx_cut_n, rx_cut_m0, rx_cut_m1, rx_iconst, rx_bipush, rx_sipush, rx_lconst, rx_iload_n, rx_iload, rx_lload_n, rx_lload, rx_aload_n, rx_aload, rx_istore_n, rx_istore, rx_lstore_n, rx_lstore, rx_astore_n, rx_astore, rx_iinc, rx_iadd, rx_isub, rx_imul, rx_iand, rx_ixor, rx_ishr, rx_idiv, rx_irem, rx_ladd, rx_lsub, rx_land, rx_lor, rx_lxor, rx_lmul, rx_ldiv, rx_lrem, rx_lushr, rx_lshl, rx_lshr, rx_lneg, rx_i2l, rx_l2i, rx_i2b, rx_lcmp, rx_dup_i, rx_dup_a, rx_pop_i, rx_pop_a, rx_if_eq, rx_if_ne, rx_if_lt, rx_if_ge, rx_if_gt, rx_if_le, rx_icmp_eq, rx_icmp_ne, rx_icmp_lt, rx_icmp_ge, rx_icmp_gt, rx_icmp_le, rx_goto, rx_tsw, rx_ireturn, rx_lreturn, rx_return_, rx_getfield, rx_putfield, rx_invokevirtual, rx_invokespecial, rx_invokestatic, rx_ldc, rx_ldc2_w, rx_iaload, rx_iastore, rx_baload, rx_bastore, Nat.reduceBEq, Nat.reduceAdd, Nat.reduceSub, Nat.reduceMul, Nat.reduceLeDiff, Nat.reduceEqDiff, Nat.reduceLT, Int.reduceLT, Int.reduceLE, Int.reduceNeg, Int.reduceToNat, Int.reduceAdd, Fin.isValue, Fin.val_zero, Fin.val_one, Fin.reduceFinMk, Fin.val_ofNat, Bool.or_true, Bool.true_or, Bool.or_false, Bool.false_or, Bool.and_true, Bool.true_and, Bool.and_false, Bool.false_and, cond_true, cond_false, ↓reduceIte, eq_self, ne_eq, not_true_eq_false, not_false_eq_true, true_and, and_true, Option.toList_some, Option.toList_none, List.cons_append, List.nil_append, Option.some.injEq, Value.int.injEq, Value.long.injEq, rx_l0, rx_l1, rx_fv0, rx_fv1, rx_fv2, rx_fv3, nI_c1, nI_c2, nI_c4, nI_c8, nI_c9, nI_c24, nI_c64, Nat.le_refl, bI_z, bI_0, bI_1, Classical.not_not, lg_cmp_ge, lg_cmp_le, lg_cmp_gt, lg_cmp_lt, lg_cmp_eq]
        simp (disch := omega) only [nI_add, nI_clamp]
        unfold gOK
        refine ⟨fun h => fun q => h q.2.2.2.1, fun h => ⟨⟨vp_in_nI (by omega) (by decide), vp_in_nI (by omega) (by decide), vp_in_nI (by omega) (by decide), h1⟩, fun h4 => ?_, fun h4 => ?_⟩⟩
        · exact ⟨h1, h2, h3, h, h4⟩
        · exact fun q => h4 q.2.2.2.2
    · simp only [pX4_badSegment, eX4_badSegment, fX4_compareAt, fX4_four, fX4_hasRoom, fX4_ones, fX4_sameRest, rx_n, rx_s, rx_to, rx_get, rx_f1, rx_f2, rx_two, rx_ext, rx_any, rx_hV, rx_hS, rx_hG, rx_hP, rx_hAi, rx_hAb, rx_hBb, rx_hBi, rx_hBp, rx_hL, rx_hLi, rx_got, rx_pop, rx_sum, rx_len, rx_c, rx_m1, lv_args, Value.category, rx_cut_n, rx_cut_m0, rx_cut_m1, rx_iconst, rx_bipush, rx_sipush, rx_lconst, rx_iload_n, rx_iload, rx_lload_n, rx_lload, rx_aload_n, rx_aload, rx_istore_n, rx_istore, rx_lstore_n, rx_lstore, rx_astore_n, rx_astore, rx_iinc, rx_iadd, rx_isub, rx_imul, rx_iand, rx_ixor, rx_ishr, rx_idiv, rx_irem, rx_ladd, rx_lsub, rx_land, rx_lor, rx_lxor, rx_lmul, rx_ldiv, rx_lrem, rx_lushr, rx_lshl, rx_lshr, rx_lneg, rx_i2l, rx_l2i, rx_i2b, rx_lcmp, rx_dup_i, rx_dup_a, rx_pop_i, rx_pop_a, rx_if_eq, rx_if_ne, rx_if_lt, rx_if_ge, rx_if_gt, rx_if_le, rx_icmp_eq, rx_icmp_ne, rx_icmp_lt, rx_icmp_ge, rx_icmp_gt, rx_icmp_le, rx_goto, rx_tsw, rx_ireturn, rx_lreturn, rx_return_, rx_getfield, rx_putfield, rx_invokevirtual, rx_invokespecial, rx_invokestatic, rx_ldc, rx_ldc2_w, rx_iaload, rx_iastore, rx_baload, rx_bastore, Nat.reduceBEq, Nat.reduceAdd, Nat.reduceSub, Nat.reduceMul, Nat.reduceLeDiff, Nat.reduceEqDiff, Nat.reduceLT, Int.reduceLT, Int.reduceLE, Int.reduceNeg, Int.reduceToNat, Int.reduceAdd, Fin.isValue, Fin.val_zero, Fin.val_one, Fin.reduceFinMk, Fin.val_ofNat, Bool.or_true, Bool.true_or, Bool.or_false, Bool.false_or, Bool.and_true, Bool.true_and, Bool.and_false, Bool.false_and, cond_true, cond_false, ↓reduceIte, eq_self, ne_eq, not_true_eq_false, not_false_eq_true, true_and, and_true, Option.toList_some, Option.toList_none, List.cons_append, List.nil_append, Option.some.injEq, Value.int.injEq, Value.long.injEq, rx_l0, rx_l1, rx_fv0, rx_fv1, rx_fv2, rx_fv3, nI_c1, nI_c2, nI_c4, nI_c8, nI_c9, nI_c24, nI_c64, Nat.le_refl, bI_z, bI_0, bI_1, Classical.not_not, lg_cmp_ge, lg_cmp_le, lg_cmp_gt, lg_cmp_lt, lg_cmp_eq]
      have p1 := pcn_le w.1 (a + 48) 64
      have h1 := bl_q4 w.1 (a + 16)
      have h2 := bl_q4 w.1 (a + 20)
      have h5 := bl_q4 w.1 (a + 40)
      have h6 := bl_q4 w.1 (a + 44)
      have g1 : bl w.1 (a + 16) 8 = bl w.1 (a + 16) 4 + 4294967296 * bl w.1 (a + 20) 4 := bl_8 w.1 (a + 16)
      have g2 : bl w.1 (a + 40) 8 = bl w.1 (a + 40) 4 + 4294967296 * bl w.1 (a + 44) 4 := bl_8 w.1 (a + 40)
      simp (disch := omega) only [nI_add, nI_clamp, lN_add, pk_lDiv, lRem2, c3_lt, c3_ge, nI_lt1, pcn_1, pk_lLT, pk_lEQ, pk_lLE]
      refine ⟨vp_in_nI (by omega) (by decide), fun h q => h q.1, fun h => ⟨⟨vp_in_nI (by omega) (by decide), vp_in_nI (by omega) (by decide)⟩, fun h2 q => h2 q.2.1, fun h2 => ⟨⟨vp_in_nI (by omega) (by decide), vp_in_nI (by omega) (by decide)⟩, fun h3 => ?_, fun h3 q => h3 q.2.2.1⟩⟩⟩
      have h := Classical.not_not.mp h
      refine ⟨vp_in_nI (by omega) (by decide), vp_in_nI (by omega) (by decide), vp_in_nI (by omega) (by decide), vp_in_nI (by omega) (by decide), by decide, fun h4 => ?_, fun h4 => ⟨fun h5 => ?_, fun h5 => ⟨by decide, fun h6 => ?_, fun h6 => ?_⟩⟩⟩
      all_goals refine ⟨1, _, by omega, ⟨rfl, h, h2, h3, rfl⟩, ?_⟩
      all_goals simp only [List.mem_cons, List.not_mem_nil, or_false, forall_eq_or_imp, forall_eq, Nat.reduceBEq, cond_true, cond_false, Option.some.injEq, Value.int.injEq, Value.long.injEq, Value.ref.injEq, true_and, and_true]
      all_goals first | exact bI_1.mpr (by omega) | exact bI_0.mpr (by omega)
  · cases hf
