def pX4_two : rx_P := [(0, .aload_n 0, 0), (1, .getfield 7, 0), (4, .iload_n 1, 0), (5, .iaload, 0), (6, .sipush 256, 0), (9, .aload_n 0, 0), (10, .getfield 7, 0), (13, .iload_n 1, 0), (14, .iconst 1, 0), (15, .iadd, 0), (16, .iaload, 0), (17, .imul, 0), (18, .iadd, 0), (19, .ireturn, 0)]
theorem pX4_two_ok : ∀ q ∈ pX4_two, rx_ok cX4_two q := rx_ok_all (by decide +kernel)
abbrev rX4_two : Room := { frames := 0, cells := 0, slots := 0, locals := 0 }
noncomputable def fX4_two : rx_F mS := fun w as => match as with
  | [.int x] => some (vp_in x 639, w, some (.int (nI (bl w.1 x.toNatClampNeg 2))))
  | _ => none
noncomputable def eX4_two (am : Nat → Nat) : rx_E mS := rx_any [rx_hG 7 (am 0) (fun w => .ref (am 1)), rx_hAi (am 1) 640 (fun w k => nI (bg w.1 k))]
set_option maxHeartbeats 4000000 in
set_option maxRecDepth 100000 in
theorem eo_X4_two (l : Launch) (D : va_G) (am : Nat → Nat) (cI cZ : ClassId) : ∀ (p : Program) (e : Env) (s : State) (m : MethodId) (args : Array Value) (below : List Frame) (meth : Method) (c : Code) (Qw : State → Prop), CallFix p m c cX4_two 2 s args (Cond.code yX4_two cX4_two 2 (some .int) :: wsA) RX4 → mK D cI cZ s → rx_Eok (fun H locs g => W p l e rX4_two s m args below meth c H locs 0 0 Qw g) m cX4_two 2 (tr_I D vwCl (mA am) s (mW am cI cZ)) (eX4_two am) := by
  intro p e s m args below meth c Qw S hK
  have ht : ∀ w ∈ wsA, w.before args s = true := fun w h => S.2.2.2.2 w (wsA_in h)
  exact rx_any_c (rx_hG_ok (fun w H locs pc ls rest hI hd k => va_get (D := D) (ci := 4) (C := RX4) (T := TX4) (N := 7) S.1 S.2.1 ht inX4 S.2.2.2.1 hK.1 hI.1 0 rfl rfl 2 (by decide) (ht _ wfX4_7) (fun _ h9 => h9) rfl hd k)) (rx_any_c (rx_hAi_ok (fun w H locs pc ls rest x hI hin hd k => va_iald S.1 S.2.1 hK.1 hI.1 1 0 rfl rfl hin hd k)) (rx_any_0))
set_option maxHeartbeats 4000000 in
set_option maxRecDepth 100000 in
theorem ct_X4_two (l : Launch) (D : va_G) (am : Nat → Nat) (cI cZ : ClassId) : ctM l yX4_two cX4_two 2 (some .int) rX4_two D am cI cZ [.ref (am 0)] fX4_two := by
  intro w as g w1 r hf hg
  unfold fX4_two at hf
  split at hf
  · next x =>
    cases hf
    exact tr_of rx_nc 0 200 0 (by decide) rfl rfl (Nat.le_of_ble_eq_true rfl) pX4_two_ok (rt_i _) (eo_X4_two l D am cI cZ) (fun pc g h => by cases h) (by
      simp only [pX4_two, eX4_two, rx_n, rx_s, rx_to, rx_get, rx_f1, rx_f2, rx_two, rx_ext, rx_any, rx_hV, rx_hS, rx_hG, rx_hP, rx_hAi, rx_hAb, rx_hBb, rx_hBi, rx_hBp, rx_hL, rx_hLi, rx_got, rx_pop, rx_sum, rx_len, rx_c, rx_m1, lv_args, Value.category, rx_cut_n, rx_cut_m0, rx_cut_m1, rx_iconst, rx_bipush, rx_sipush, rx_lconst, rx_iload_n, rx_iload, rx_lload_n, rx_lload, rx_aload_n, rx_aload, rx_istore_n, rx_istore, rx_lstore_n, rx_lstore, rx_astore_n, rx_astore, rx_iinc, rx_iadd, rx_isub, rx_imul, rx_iand, rx_ixor, rx_ishr, rx_idiv, rx_irem, rx_ladd, rx_lsub, rx_land, rx_lor, rx_lxor, rx_lmul, rx_ldiv, rx_lrem, rx_lushr, rx_lshl, rx_lshr, rx_lneg, rx_i2l, rx_l2i, rx_i2b, rx_lcmp, rx_dup_i, rx_dup_a, rx_pop_i, rx_pop_a, rx_if_eq, rx_if_ne, rx_if_lt, rx_if_ge, rx_if_gt, rx_if_le, rx_icmp_eq, rx_icmp_ne, rx_icmp_lt, rx_icmp_ge, rx_icmp_gt, rx_icmp_le, rx_goto, rx_tsw, rx_ireturn, rx_lreturn, rx_return_, rx_getfield, rx_putfield, rx_invokevirtual, rx_invokespecial, rx_invokestatic, rx_ldc, rx_ldc2_w, rx_iaload, rx_iastore, rx_baload, rx_bastore, Nat.reduceBEq, Nat.reduceAdd, Nat.reduceSub, Nat.reduceMul, Nat.reduceLeDiff, Nat.reduceEqDiff, Nat.reduceLT, Int.reduceLT, Int.reduceLE, Int.reduceNeg, Int.reduceToNat, Int.reduceAdd, Fin.isValue, Fin.val_zero, Fin.val_one, Fin.reduceFinMk, Fin.val_ofNat, Bool.or_true, Bool.true_or, Bool.or_false, Bool.false_or, Bool.and_true, Bool.true_and, Bool.and_false, Bool.false_and, cond_true, cond_false, ↓reduceIte, eq_self, ne_eq, not_true_eq_false, not_false_eq_true, true_and, and_true, Option.toList_some, Option.toList_none, List.cons_append, List.nil_append, Option.some.injEq, Value.int.injEq, Value.long.injEq, rx_l0, rx_l1, rx_fv0, rx_fv1, rx_fv2, rx_fv3, nI_c1, nI_c2, nI_c4, nI_c8, nI_c9, nI_c24, nI_c64, Nat.le_refl, bI_z, bI_0, bI_1, Classical.not_not, lg_cmp_ge, lg_cmp_le, lg_cmp_gt, lg_cmp_lt, lg_cmp_eq]
      obtain ⟨a, ha, rfl, -⟩ := vp_ex hg (by decide)
      simp (disch := omega) only [nI_add, nI_clamp, pk_mul]
      exact ⟨vp_in_nI (by omega) (by decide), vp_in_nI (by omega) (by decide), by rw [bl_2]⟩)
  · cases hf
def pX4_four : rx_P := [(0, .aload_n 0, 0), (1, .iload_n 1, 0), (2, .invokevirtual 24, 0), (5, .i2l, 0), (6, .ldc2_w 28, 0), (9, .aload_n 0, 0), (10, .iload_n 1, 0), (11, .iconst 2, 0), (12, .iadd, 0), (13, .invokevirtual 24, 0), (16, .i2l, 0), (17, .lmul, 0), (18, .ladd, 0), (19, .lreturn, 0)]
theorem pX4_four_ok : ∀ q ∈ pX4_four, rx_ok cX4_four q := rx_ok_all (by decide +kernel)
abbrev rX4_four : Room := { frames := 1, cells := 0, slots := 0, locals := 21 }
noncomputable def fX4_four : rx_F mS := fun w as => match as with
  | [.int x] => some (vp_in x 637, w, some (.long (lN (bl w.1 x.toNatClampNeg 4))))
  | _ => none
noncomputable def eX4_four (am : Nat → Nat) : rx_E mS := rx_any [rx_hV 24 1 (am 0) fX4_two, rx_hL 28 (lN 65536)]
set_option maxHeartbeats 4000000 in
set_option maxRecDepth 100000 in
theorem eo_X4_four (l : Launch) (D : va_G) (am : Nat → Nat) (cI cZ : ClassId) : ∀ (p : Program) (e : Env) (s : State) (m : MethodId) (args : Array Value) (below : List Frame) (meth : Method) (c : Code) (Qw : State → Prop), CallFix p m c cX4_four 2 s args (Cond.code yX4_four cX4_four 2 (some .long) :: wsA) RX4 → mK D cI cZ s → rx_Eok (fun H locs g => W p l e rX4_four s m args below meth c H locs 0 0 Qw g) m cX4_four 2 (tr_I D vwCl (mA am) s (mW am cI cZ)) (eX4_four am) := by
  intro p e s m args below meth c Qw S hK
  have ht : ∀ w ∈ wsA, w.before args s = true := fun w h => S.2.2.2.2 w (wsA_in h)
  exact rx_any_c (rx_hV_ok S ⟨Nat.zero_le _, Nat.zero_le _⟩ mK_tr hK (cwV 1 S.2.2.2.2 (wsA_V wkX4_24 wiX4_two weX4_two winiX4 wX4_two) rfl rfl rfl (by decide +kernel) ⟨by decide, by decide⟩) (ct_X4_two l D am cI cZ) (fun w H hP => va_recv hK.1 hP (rfl : vwCl[4]? = some (RX4, TX4, 7)) (rfl : (mW am cI cZ w)[0]? = some _))) (rx_any_c (rx_hL_ok S (ht _ wcX4_28)) (rx_any_0))
set_option maxHeartbeats 4000000 in
set_option maxRecDepth 100000 in
theorem ct_X4_four (l : Launch) (D : va_G) (am : Nat → Nat) (cI cZ : ClassId) : ctM l yX4_four cX4_four 2 (some .long) rX4_four D am cI cZ [.ref (am 0)] fX4_four := by
  intro w as g w1 r hf hg
  unfold fX4_four at hf
  split at hf
  · next x =>
    cases hf
    exact tr_of rx_nc 0 200 0 (by decide) rfl rfl (Nat.le_of_ble_eq_true rfl) pX4_four_ok (rt_l _) (eo_X4_four l D am cI cZ) (fun pc g h => by cases h) (by
      simp only [pX4_four, eX4_four, fX4_two, rx_n, rx_s, rx_to, rx_get, rx_f1, rx_f2, rx_two, rx_ext, rx_any, rx_hV, rx_hS, rx_hG, rx_hP, rx_hAi, rx_hAb, rx_hBb, rx_hBi, rx_hBp, rx_hL, rx_hLi, rx_got, rx_pop, rx_sum, rx_len, rx_c, rx_m1, lv_args, Value.category, rx_cut_n, rx_cut_m0, rx_cut_m1, rx_iconst, rx_bipush, rx_sipush, rx_lconst, rx_iload_n, rx_iload, rx_lload_n, rx_lload, rx_aload_n, rx_aload, rx_istore_n, rx_istore, rx_lstore_n, rx_lstore, rx_astore_n, rx_astore, rx_iinc, rx_iadd, rx_isub, rx_imul, rx_iand, rx_ixor, rx_ishr, rx_idiv, rx_irem, rx_ladd, rx_lsub, rx_land, rx_lor, rx_lxor, rx_lmul, rx_ldiv, rx_lrem, rx_lushr, rx_lshl, rx_lshr, rx_lneg, rx_i2l, rx_l2i, rx_i2b, rx_lcmp, rx_dup_i, rx_dup_a, rx_pop_i, rx_pop_a, rx_if_eq, rx_if_ne, rx_if_lt, rx_if_ge, rx_if_gt, rx_if_le, rx_icmp_eq, rx_icmp_ne, rx_icmp_lt, rx_icmp_ge, rx_icmp_gt, rx_icmp_le, rx_goto, rx_tsw, rx_ireturn, rx_lreturn, rx_return_, rx_getfield, rx_putfield, rx_invokevirtual, rx_invokespecial, rx_invokestatic, rx_ldc, rx_ldc2_w, rx_iaload, rx_iastore, rx_baload, rx_bastore, Nat.reduceBEq, Nat.reduceAdd, Nat.reduceSub, Nat.reduceMul, Nat.reduceLeDiff, Nat.reduceEqDiff, Nat.reduceLT, Int.reduceLT, Int.reduceLE, Int.reduceNeg, Int.reduceToNat, Int.reduceAdd, Fin.isValue, Fin.val_zero, Fin.val_one, Fin.reduceFinMk, Fin.val_ofNat, Bool.or_true, Bool.true_or, Bool.or_false, Bool.false_or, Bool.and_true, Bool.true_and, Bool.and_false, Bool.false_and, cond_true, cond_false, ↓reduceIte, eq_self, ne_eq, not_true_eq_false, not_false_eq_true, true_and, and_true, Option.toList_some, Option.toList_none, List.cons_append, List.nil_append, Option.some.injEq, Value.int.injEq, Value.long.injEq, rx_l0, rx_l1, rx_fv0, rx_fv1, rx_fv2, rx_fv3, nI_c1, nI_c2, nI_c4, nI_c8, nI_c9, nI_c24, nI_c64, Nat.le_refl, bI_z, bI_0, bI_1, Classical.not_not, lg_cmp_ge, lg_cmp_le, lg_cmp_gt, lg_cmp_lt, lg_cmp_eq]
      obtain ⟨a, ha, rfl, -⟩ := vp_ex hg (by decide)
      have h1 := bl_q2 w.1 a
      have h2 := bl_q2 w.1 (a + 2)
      simp (disch := omega) only [nI_add, nI_clamp, nI_l, lN_mul, lN_add]
      exact ⟨vp_in_nI (by omega) (by decide), vp_in_nI (by omega) (by decide), by rw [bl_4]⟩)
  · cases hf
def pX4_eight : rx_P := [(0, .aload_n 0, 0), (1, .iload_n 1, 0), (2, .invokevirtual 30, 0), (5, .ldc2_w 34, 0), (8, .aload_n 0, 0), (9, .iload_n 1, 0), (10, .iconst 4, 0), (11, .iadd, 0), (12, .invokevirtual 30, 0), (15, .lmul, 0), (16, .ladd, 0), (17, .lreturn, 0)]
theorem pX4_eight_ok : ∀ q ∈ pX4_eight, rx_ok cX4_eight q := rx_ok_all (by decide +kernel)
abbrev rX4_eight : Room := { frames := 2, cells := 0, slots := 0, locals := 42 }
noncomputable def fX4_eight : rx_F mS := fun w as => match as with
  | [.int x] => some (vp_in x 633, w, some (.long (lN (bl w.1 x.toNatClampNeg 8))))
  | _ => none
noncomputable def eX4_eight (am : Nat → Nat) : rx_E mS := rx_any [rx_hV 30 1 (am 0) fX4_four, rx_hL 34 (lN 4294967296)]
set_option maxHeartbeats 4000000 in
set_option maxRecDepth 100000 in
theorem eo_X4_eight (l : Launch) (D : va_G) (am : Nat → Nat) (cI cZ : ClassId) : ∀ (p : Program) (e : Env) (s : State) (m : MethodId) (args : Array Value) (below : List Frame) (meth : Method) (c : Code) (Qw : State → Prop), CallFix p m c cX4_eight 2 s args (Cond.code yX4_eight cX4_eight 2 (some .long) :: wsA) RX4 → mK D cI cZ s → rx_Eok (fun H locs g => W p l e rX4_eight s m args below meth c H locs 0 0 Qw g) m cX4_eight 2 (tr_I D vwCl (mA am) s (mW am cI cZ)) (eX4_eight am) := by
  intro p e s m args below meth c Qw S hK
  have ht : ∀ w ∈ wsA, w.before args s = true := fun w h => S.2.2.2.2 w (wsA_in h)
  exact rx_any_c (rx_hV_ok S ⟨Nat.zero_le _, Nat.zero_le _⟩ mK_tr hK (cwV 1 S.2.2.2.2 (wsA_V wkX4_30 wiX4_four weX4_four winiX4 wX4_four) rfl rfl rfl (by decide +kernel) ⟨by decide, by decide⟩) (ct_X4_four l D am cI cZ) (fun w H hP => va_recv hK.1 hP (rfl : vwCl[4]? = some (RX4, TX4, 7)) (rfl : (mW am cI cZ w)[0]? = some _))) (rx_any_c (rx_hL_ok S (ht _ wcX4_34)) (rx_any_0))
set_option maxHeartbeats 4000000 in
set_option maxRecDepth 100000 in
theorem ct_X4_eight (l : Launch) (D : va_G) (am : Nat → Nat) (cI cZ : ClassId) : ctM l yX4_eight cX4_eight 2 (some .long) rX4_eight D am cI cZ [.ref (am 0)] fX4_eight := by
  intro w as g w1 r hf hg
  unfold fX4_eight at hf
  split at hf
  · next x =>
    cases hf
    exact tr_of rx_nc 0 200 0 (by decide) rfl rfl (Nat.le_of_ble_eq_true rfl) pX4_eight_ok (rt_l _) (eo_X4_eight l D am cI cZ) (fun pc g h => by cases h) (by
      simp only [pX4_eight, eX4_eight, fX4_four, rx_n, rx_s, rx_to, rx_get, rx_f1, rx_f2, rx_two, rx_ext, rx_any, rx_hV, rx_hS, rx_hG, rx_hP, rx_hAi, rx_hAb, rx_hBb, rx_hBi, rx_hBp, rx_hL, rx_hLi, rx_got, rx_pop, rx_sum, rx_len, rx_c, rx_m1, lv_args, Value.category, rx_cut_n, rx_cut_m0, rx_cut_m1, rx_iconst, rx_bipush, rx_sipush, rx_lconst, rx_iload_n, rx_iload, rx_lload_n, rx_lload, rx_aload_n, rx_aload, rx_istore_n, rx_istore, rx_lstore_n, rx_lstore, rx_astore_n, rx_astore, rx_iinc, rx_iadd, rx_isub, rx_imul, rx_iand, rx_ixor, rx_ishr, rx_idiv, rx_irem, rx_ladd, rx_lsub, rx_land, rx_lor, rx_lxor, rx_lmul, rx_ldiv, rx_lrem, rx_lushr, rx_lshl, rx_lshr, rx_lneg, rx_i2l, rx_l2i, rx_i2b, rx_lcmp, rx_dup_i, rx_dup_a, rx_pop_i, rx_pop_a, rx_if_eq, rx_if_ne, rx_if_lt, rx_if_ge, rx_if_gt, rx_if_le, rx_icmp_eq, rx_icmp_ne, rx_icmp_lt, rx_icmp_ge, rx_icmp_gt, rx_icmp_le, rx_goto, rx_tsw, rx_ireturn, rx_lreturn, rx_return_, rx_getfield, rx_putfield, rx_invokevirtual, rx_invokespecial, rx_invokestatic, rx_ldc, rx_ldc2_w, rx_iaload, rx_iastore, rx_baload, rx_bastore, Nat.reduceBEq, Nat.reduceAdd, Nat.reduceSub, Nat.reduceMul, Nat.reduceLeDiff, Nat.reduceEqDiff, Nat.reduceLT, Int.reduceLT, Int.reduceLE, Int.reduceNeg, Int.reduceToNat, Int.reduceAdd, Fin.isValue, Fin.val_zero, Fin.val_one, Fin.reduceFinMk, Fin.val_ofNat, Bool.or_true, Bool.true_or, Bool.or_false, Bool.false_or, Bool.and_true, Bool.true_and, Bool.and_false, Bool.false_and, cond_true, cond_false, ↓reduceIte, eq_self, ne_eq, not_true_eq_false, not_false_eq_true, true_and, and_true, Option.toList_some, Option.toList_none, List.cons_append, List.nil_append, Option.some.injEq, Value.int.injEq, Value.long.injEq, rx_l0, rx_l1, rx_fv0, rx_fv1, rx_fv2, rx_fv3, nI_c1, nI_c2, nI_c4, nI_c8, nI_c9, nI_c24, nI_c64, Nat.le_refl, bI_z, bI_0, bI_1, Classical.not_not, lg_cmp_ge, lg_cmp_le, lg_cmp_gt, lg_cmp_lt, lg_cmp_eq]
      obtain ⟨a, ha, rfl, -⟩ := vp_ex hg (by decide)
      simp (disch := omega) only [nI_add, nI_clamp, lN_mul, lN_add]
      exact ⟨vp_in_nI (by omega) (by decide), vp_in_nI (by omega) (by decide), by rw [bl_8]⟩)
  · cases hf
def pX4_out : rx_P := [(0, .iload_n 0, 0), (1, .ifCond .lt 10, 11), (4, .iload_n 0, 0), (5, .i2l, 0), (6, .lload_n 1, 0), (7, .lcmp, 0), (8, .ifCond .lt 7, 15), (11, .iconst 1, 0), (12, .goto 4, 16), (15, .iconst 0, 0), (16, .ireturn, 0)]
theorem pX4_out_ok : ∀ q ∈ pX4_out, rx_ok cX4_out q := rx_ok_all (by decide +kernel)
abbrev rX4_out : Room := { frames := 0, cells := 0, slots := 0, locals := 0 }
noncomputable def fX4_out : rx_F mS := fun w as => match as with
  | [.int k, .long t] => some (True, w, some (.int (bI (k < 0 ∨ t ≤ k.toInt64))))
  | _ => none
noncomputable def eX4_out (am : Nat → Nat) : rx_E mS := rx_any []
set_option maxHeartbeats 4000000 in
set_option maxRecDepth 100000 in
theorem eo_X4_out (l : Launch) (D : va_G) (am : Nat → Nat) (cI cZ : ClassId) : ∀ (p : Program) (e : Env) (s : State) (m : MethodId) (args : Array Value) (below : List Frame) (meth : Method) (c : Code) (Qw : State → Prop), CallFix p m c cX4_out 3 s args (Cond.code yX4_out cX4_out 3 (some .boolean) :: wsA) RX4 → mK D cI cZ s → rx_Eok (fun H locs g => W p l e rX4_out s m args below meth c H locs 0 0 Qw g) m cX4_out 3 (tr_I D vwCl (mA am) s (mW am cI cZ)) (eX4_out am) := by
  intro p e s m args below meth c Qw S hK
  have ht : ∀ w ∈ wsA, w.before args s = true := fun w h => S.2.2.2.2 w (wsA_in h)
  exact rx_any_0
set_option maxHeartbeats 4000000 in
set_option maxRecDepth 100000 in
theorem ct_X4_out (l : Launch) (D : va_G) (am : Nat → Nat) (cI cZ : ClassId) : ctM l yX4_out cX4_out 3 (some .boolean) rX4_out D am cI cZ [] fX4_out := by
  intro w as g w1 r hf hg
  unfold fX4_out at hf
  split at hf
  · next k t =>
    cases hf
    exact tr_of rx_nc 0 200 0 (by decide) rfl rfl (Nat.le_of_ble_eq_true rfl) pX4_out_ok (rt_z _) (eo_X4_out l D am cI cZ) (fun pc g h => by cases h) (by
      simp only [pX4_out, eX4_out, rx_n, rx_s, rx_to, rx_get, rx_f1, rx_f2, rx_two, rx_ext, rx_any, rx_hV, rx_hS, rx_hG, rx_hP, rx_hAi, rx_hAb, rx_hBb, rx_hBi, rx_hBp, rx_hL, rx_hLi, rx_got, rx_pop, rx_sum, rx_len, rx_c, rx_m1, lv_args, Value.category, rx_cut_n, rx_cut_m0, rx_cut_m1, rx_iconst, rx_bipush, rx_sipush, rx_lconst, rx_iload_n, rx_iload, rx_lload_n, rx_lload, rx_aload_n, rx_aload, rx_istore_n, rx_istore, rx_lstore_n, rx_lstore, rx_astore_n, rx_astore, rx_iinc, rx_iadd, rx_isub, rx_imul, rx_iand, rx_ixor, rx_ishr, rx_idiv, rx_irem, rx_ladd, rx_lsub, rx_land, rx_lor, rx_lxor, rx_lmul, rx_ldiv, rx_lrem, rx_lushr, rx_lshl, rx_lshr, rx_lneg, rx_i2l, rx_l2i, rx_i2b, rx_lcmp, rx_dup_i, rx_dup_a, rx_pop_i, rx_pop_a, rx_if_eq, rx_if_ne, rx_if_lt, rx_if_ge, rx_if_gt, rx_if_le, rx_icmp_eq, rx_icmp_ne, rx_icmp_lt, rx_icmp_ge, rx_icmp_gt, rx_icmp_le, rx_goto, rx_tsw, rx_ireturn, rx_lreturn, rx_return_, rx_getfield, rx_putfield, rx_invokevirtual, rx_invokespecial, rx_invokestatic, rx_ldc, rx_ldc2_w, rx_iaload, rx_iastore, rx_baload, rx_bastore, Nat.reduceBEq, Nat.reduceAdd, Nat.reduceSub, Nat.reduceMul, Nat.reduceLeDiff, Nat.reduceEqDiff, Nat.reduceLT, Int.reduceLT, Int.reduceLE, Int.reduceNeg, Int.reduceToNat, Int.reduceAdd, Fin.isValue, Fin.val_zero, Fin.val_one, Fin.reduceFinMk, Fin.val_ofNat, Bool.or_true, Bool.true_or, Bool.or_false, Bool.false_or, Bool.and_true, Bool.true_and, Bool.and_false, Bool.false_and, cond_true, cond_false, ↓reduceIte, eq_self, ne_eq, not_true_eq_false, not_false_eq_true, true_and, and_true, Option.toList_some, Option.toList_none, List.cons_append, List.nil_append, Option.some.injEq, Value.int.injEq, Value.long.injEq, rx_l0, rx_l1, rx_fv0, rx_fv1, rx_fv2, rx_fv3, nI_c1, nI_c2, nI_c4, nI_c8, nI_c9, nI_c24, nI_c64, Nat.le_refl, bI_z, bI_0, bI_1, Classical.not_not, lg_cmp_ge, lg_cmp_le, lg_cmp_gt, lg_cmp_lt, lg_cmp_eq]
      simp only [← Int64.not_lt]
      grind)
  · cases hf
def pX4_atMost : rx_P := [(0, .aload_n 0, 0), (1, .iload_n 1, 0), (2, .iconst 4, 0), (3, .iadd, 0), (4, .invokevirtual 30, 0), (7, .lconst 0, 0), (8, .lcmp, 0), (9, .ifCond .ne 17, 26), (12, .aload_n 0, 0), (13, .iload_n 1, 0), (14, .invokevirtual 30, 0), (17, .lload_n 2, 0), (18, .lcmp, 0), (19, .ifCond .gt 7, 26), (22, .iconst 1, 0), (23, .goto 4, 27), (26, .iconst 0, 0), (27, .ireturn, 0)]
theorem pX4_atMost_ok : ∀ q ∈ pX4_atMost, rx_ok cX4_atMost q := rx_ok_all (by decide +kernel)
abbrev rX4_atMost : Room := { frames := 2, cells := 0, slots := 0, locals := 42 }
noncomputable def fX4_atMost : rx_F mS := fun w as => match as with
  | [.int x, .long t] => some (vp_in x 633 ∧ uN t < 4294967296, w, some (.int (bI (bl w.1 x.toNatClampNeg 8 ≤ uN t))))
  | _ => none
noncomputable def eX4_atMost (am : Nat → Nat) : rx_E mS := rx_any [rx_hV 30 1 (am 0) fX4_four]
set_option maxHeartbeats 4000000 in
set_option maxRecDepth 100000 in
theorem eo_X4_atMost (l : Launch) (D : va_G) (am : Nat → Nat) (cI cZ : ClassId) : ∀ (p : Program) (e : Env) (s : State) (m : MethodId) (args : Array Value) (below : List Frame) (meth : Method) (c : Code) (Qw : State → Prop), CallFix p m c cX4_atMost 4 s args (Cond.code yX4_atMost cX4_atMost 4 (some .boolean) :: wsA) RX4 → mK D cI cZ s → rx_Eok (fun H locs g => W p l e rX4_atMost s m args below meth c H locs 0 0 Qw g) m cX4_atMost 4 (tr_I D vwCl (mA am) s (mW am cI cZ)) (eX4_atMost am) := by
  intro p e s m args below meth c Qw S hK
  have ht : ∀ w ∈ wsA, w.before args s = true := fun w h => S.2.2.2.2 w (wsA_in h)
  exact rx_any_c (rx_hV_ok S ⟨Nat.zero_le _, Nat.zero_le _⟩ mK_tr hK (cwV 1 S.2.2.2.2 (wsA_V wkX4_30 wiX4_four weX4_four winiX4 wX4_four) rfl rfl rfl (by decide +kernel) ⟨by decide, by decide⟩) (ct_X4_four l D am cI cZ) (fun w H hP => va_recv hK.1 hP (rfl : vwCl[4]? = some (RX4, TX4, 7)) (rfl : (mW am cI cZ w)[0]? = some _))) (rx_any_0)
set_option maxHeartbeats 4000000 in
set_option maxRecDepth 100000 in
theorem ct_X4_atMost (l : Launch) (D : va_G) (am : Nat → Nat) (cI cZ : ClassId) : ctM l yX4_atMost cX4_atMost 4 (some .boolean) rX4_atMost D am cI cZ [.ref (am 0)] fX4_atMost := by
  intro w as g w1 r hf hg
  unfold fX4_atMost at hf
  split at hf
  · next x t =>
    cases hf
    exact tr_of rx_nc 0 200 0 (by decide) rfl rfl (Nat.le_of_ble_eq_true rfl) pX4_atMost_ok (rt_z _) (eo_X4_atMost l D am cI cZ) (fun pc g h => by cases h) (by
      simp only [pX4_atMost, eX4_atMost, fX4_four, rx_n, rx_s, rx_to, rx_get, rx_f1, rx_f2, rx_two, rx_ext, rx_any, rx_hV, rx_hS, rx_hG, rx_hP, rx_hAi, rx_hAb, rx_hBb, rx_hBi, rx_hBp, rx_hL, rx_hLi, rx_got, rx_pop, rx_sum, rx_len, rx_c, rx_m1, lv_args, Value.category, rx_cut_n, rx_cut_m0, rx_cut_m1, rx_iconst, rx_bipush, rx_sipush, rx_lconst, rx_iload_n, rx_iload, rx_lload_n, rx_lload, rx_aload_n, rx_aload, rx_istore_n, rx_istore, rx_lstore_n, rx_lstore, rx_astore_n, rx_astore, rx_iinc, rx_iadd, rx_isub, rx_imul, rx_iand, rx_ixor, rx_ishr, rx_idiv, rx_irem, rx_ladd, rx_lsub, rx_land, rx_lor, rx_lxor, rx_lmul, rx_ldiv, rx_lrem, rx_lushr, rx_lshl, rx_lshr, rx_lneg, rx_i2l, rx_l2i, rx_i2b, rx_lcmp, rx_dup_i, rx_dup_a, rx_pop_i, rx_pop_a, rx_if_eq, rx_if_ne, rx_if_lt, rx_if_ge, rx_if_gt, rx_if_le, rx_icmp_eq, rx_icmp_ne, rx_icmp_lt, rx_icmp_ge, rx_icmp_gt, rx_icmp_le, rx_goto, rx_tsw, rx_ireturn, rx_lreturn, rx_return_, rx_getfield, rx_putfield, rx_invokevirtual, rx_invokespecial, rx_invokestatic, rx_ldc, rx_ldc2_w, rx_iaload, rx_iastore, rx_baload, rx_bastore, Nat.reduceBEq, Nat.reduceAdd, Nat.reduceSub, Nat.reduceMul, Nat.reduceLeDiff, Nat.reduceEqDiff, Nat.reduceLT, Int.reduceLT, Int.reduceLE, Int.reduceNeg, Int.reduceToNat, Int.reduceAdd, Fin.isValue, Fin.val_zero, Fin.val_one, Fin.reduceFinMk, Fin.val_ofNat, Bool.or_true, Bool.true_or, Bool.or_false, Bool.false_or, Bool.and_true, Bool.true_and, Bool.and_false, Bool.false_and, cond_true, cond_false, ↓reduceIte, eq_self, ne_eq, not_true_eq_false, not_false_eq_true, true_and, and_true, Option.toList_some, Option.toList_none, List.cons_append, List.nil_append, Option.some.injEq, Value.int.injEq, Value.long.injEq, rx_l0, rx_l1, rx_fv0, rx_fv1, rx_fv2, rx_fv3, nI_c1, nI_c2, nI_c4, nI_c8, nI_c9, nI_c24, nI_c64, Nat.le_refl, bI_z, bI_0, bI_1, Classical.not_not, lg_cmp_ge, lg_cmp_le, lg_cmp_gt, lg_cmp_lt, lg_cmp_eq]
      obtain ⟨hx, ht⟩ := hg
      obtain ⟨a, ha, rfl, -⟩ := vp_ex hx (by decide)
      obtain ⟨T, hT, et⟩ := uN_ex t
      rw [← hT] at ht ⊢
      rw [et]
      have h1 := bl_q4 w.1 a
      have h2 := bl_q4 w.1 (a + 4)
      have h3 := bl_8 w.1 a
      simp (disch := omega) only [nI_add, nI_clamp, pk_lEQ, pk_lLT]
      refine ⟨vp_in_nI (by omega) (by decide), fun h => by omega, fun h => ⟨vp_in_nI (by omega) (by decide), fun h => by omega, fun h => by omega⟩⟩)
  · cases hf
def pX4_compare : rx_P := [(0, .lload_n 0, 0), (1, .lload 4, 0), (3, .lcmp, 0), (4, .ifCond .eq 16, 20), (7, .lload_n 0, 0), (8, .lload 4, 0), (10, .lcmp, 0), (11, .ifCond .ge 7, 18), (14, .iconst (-1), 0), (15, .goto 4, 19), (18, .iconst 1, 0), (19, .ireturn, 0), (20, .lload_n 2, 0), (21, .lload 6, 0), (23, .lcmp, 0), (24, .ifCond .ge 7, 31), (27, .iconst (-1), 0), (28, .goto 15, 43), (31, .lload_n 2, 0), (32, .lload 6, 0), (34, .lcmp, 0), (35, .ifCond .le 7, 42), (38, .iconst 1, 0), (39, .goto 4, 43), (42, .iconst 0, 0), (43, .ireturn, 0)]
theorem pX4_compare_ok : ∀ q ∈ pX4_compare, rx_ok cX4_compare q := rx_ok_all (by decide +kernel)
abbrev rX4_compare : Room := { frames := 0, cells := 0, slots := 0, locals := 0 }
noncomputable def fX4_compare : rx_F mS := fun w as => match as with
  | [.long x, .long y, .long z, .long t] => some (uN x < 1099511627776 ∧ uN z < 1099511627776 ∧ uN y < 4294967296 ∧ uN t < 4294967296, w, some (.int (c3 (uN x * 4294967296 + uN y) (uN z * 4294967296 + uN t))))
  | _ => none
noncomputable def eX4_compare (am : Nat → Nat) : rx_E mS := rx_any []
set_option maxHeartbeats 4000000 in
set_option maxRecDepth 100000 in
theorem eo_X4_compare (l : Launch) (D : va_G) (am : Nat → Nat) (cI cZ : ClassId) : ∀ (p : Program) (e : Env) (s : State) (m : MethodId) (args : Array Value) (below : List Frame) (meth : Method) (c : Code) (Qw : State → Prop), CallFix p m c cX4_compare 8 s args (Cond.code yX4_compare cX4_compare 8 (some .int) :: wsA) RX4 → mK D cI cZ s → rx_Eok (fun H locs g => W p l e rX4_compare s m args below meth c H locs 0 0 Qw g) m cX4_compare 8 (tr_I D vwCl (mA am) s (mW am cI cZ)) (eX4_compare am) := by
  intro p e s m args below meth c Qw S hK
  have ht : ∀ w ∈ wsA, w.before args s = true := fun w h => S.2.2.2.2 w (wsA_in h)
  exact rx_any_0
set_option maxHeartbeats 4000000 in
set_option maxRecDepth 100000 in
theorem ct_X4_compare (l : Launch) (D : va_G) (am : Nat → Nat) (cI cZ : ClassId) : ctM l yX4_compare cX4_compare 8 (some .int) rX4_compare D am cI cZ [] fX4_compare := by
  intro w as g w1 r hf hg
  unfold fX4_compare at hf
  split at hf
  · next x y z t =>
    cases hf
    exact tr_of rx_nc 0 200 0 (by decide) rfl rfl (Nat.le_of_ble_eq_true rfl) pX4_compare_ok (rt_i _) (eo_X4_compare l D am cI cZ) (fun pc g h => by cases h) (by
      simp only [pX4_compare, eX4_compare, rx_n, rx_s, rx_to, rx_get, rx_f1, rx_f2, rx_two, rx_ext, rx_any, rx_hV, rx_hS, rx_hG, rx_hP, rx_hAi, rx_hAb, rx_hBb, rx_hBi, rx_hBp, rx_hL, rx_hLi, rx_got, rx_pop, rx_sum, rx_len, rx_c, rx_m1, lv_args, Value.category, rx_cut_n, rx_cut_m0, rx_cut_m1, rx_iconst, rx_bipush, rx_sipush, rx_lconst, rx_iload_n, rx_iload, rx_lload_n, rx_lload, rx_aload_n, rx_aload, rx_istore_n, rx_istore, rx_lstore_n, rx_lstore, rx_astore_n, rx_astore, rx_iinc, rx_iadd, rx_isub, rx_imul, rx_iand, rx_ixor, rx_ishr, rx_idiv, rx_irem, rx_ladd, rx_lsub, rx_land, rx_lor, rx_lxor, rx_lmul, rx_ldiv, rx_lrem, rx_lushr, rx_lshl, rx_lshr, rx_lneg, rx_i2l, rx_l2i, rx_i2b, rx_lcmp, rx_dup_i, rx_dup_a, rx_pop_i, rx_pop_a, rx_if_eq, rx_if_ne, rx_if_lt, rx_if_ge, rx_if_gt, rx_if_le, rx_icmp_eq, rx_icmp_ne, rx_icmp_lt, rx_icmp_ge, rx_icmp_gt, rx_icmp_le, rx_goto, rx_tsw, rx_ireturn, rx_lreturn, rx_return_, rx_getfield, rx_putfield, rx_invokevirtual, rx_invokespecial, rx_invokestatic, rx_ldc, rx_ldc2_w, rx_iaload, rx_iastore, rx_baload, rx_bastore, Nat.reduceBEq, Nat.reduceAdd, Nat.reduceSub, Nat.reduceMul, Nat.reduceLeDiff, Nat.reduceEqDiff, Nat.reduceLT, Int.reduceLT, Int.reduceLE, Int.reduceNeg, Int.reduceToNat, Int.reduceAdd, Fin.isValue, Fin.val_zero, Fin.val_one, Fin.reduceFinMk, Fin.val_ofNat, Bool.or_true, Bool.true_or, Bool.or_false, Bool.false_or, Bool.and_true, Bool.true_and, Bool.and_false, Bool.false_and, cond_true, cond_false, ↓reduceIte, eq_self, ne_eq, not_true_eq_false, not_false_eq_true, true_and, and_true, Option.toList_some, Option.toList_none, List.cons_append, List.nil_append, Option.some.injEq, Value.int.injEq, Value.long.injEq, rx_l0, rx_l1, rx_fv0, rx_fv1, rx_fv2, rx_fv3, nI_c1, nI_c2, nI_c4, nI_c8, nI_c9, nI_c24, nI_c64, Nat.le_refl, bI_z, bI_0, bI_1, Classical.not_not, lg_cmp_ge, lg_cmp_le, lg_cmp_gt, lg_cmp_lt, lg_cmp_eq]
      obtain ⟨g1, g2, g3, g4⟩ := hg
      obtain ⟨X, hX, ex⟩ := uN_ex x
      obtain ⟨Y, hY, ey⟩ := uN_ex y
      obtain ⟨Z, hZ, ez⟩ := uN_ex z
      obtain ⟨T, hT, et⟩ := uN_ex t
      rw [← hX, ← hY, ← hZ, ← hT]
      rw [← hX] at g1
      rw [← hZ] at g2
      rw [← hY] at g3
      rw [← hT] at g4
      rw [ex, ey, ez, et]
      simp (disch := omega) only [pk_lEQ, pk_lLE]
      unfold c3
      refine ⟨fun h => ⟨fun h2 => ⟨fun h3 => ?_, fun h3 => ?_⟩, fun h2 => ?_⟩, fun h => ⟨fun h2 => ?_, fun h2 => ?_⟩⟩
      · rw [if_neg (by omega), if_neg (by omega)]
      · rw [if_neg (by omega), if_pos (by omega)]
      · rw [if_pos (by omega)]
      · rw [if_neg (by omega), if_pos (by omega)]
      · rw [if_pos (by omega)])
  · cases hf
def pX4_compareAt : rx_P := [(0, .aload_n 0, 0), (1, .iload_n 1, 0), (2, .iconst 4, 0), (3, .iadd, 0), (4, .invokevirtual 30, 0), (7, .aload_n 0, 0), (8, .iload_n 1, 0), (9, .invokevirtual 30, 0), (12, .aload_n 0, 0), (13, .iload_n 2, 0), (14, .iconst 4, 0), (15, .iadd, 0), (16, .invokevirtual 30, 0), (19, .aload_n 0, 0), (20, .iload_n 2, 0), (21, .invokevirtual 30, 0), (24, .invokestatic 36, 0), (27, .ireturn, 0)]
theorem pX4_compareAt_ok : ∀ q ∈ pX4_compareAt, rx_ok cX4_compareAt q := rx_ok_all (by decide +kernel)
abbrev rX4_compareAt : Room := { frames := 2, cells := 0, slots := 0, locals := 42 }
noncomputable def fX4_compareAt : rx_F mS := fun w as => match as with
  | [.int x, .int y] => some (vp_in x 633 ∧ vp_in y 633, w, some (.int (c3 (bl w.1 x.toNatClampNeg 8) (bl w.1 y.toNatClampNeg 8))))
  | _ => none
noncomputable def eX4_compareAt (am : Nat → Nat) : rx_E mS := rx_any [rx_hV 30 1 (am 0) fX4_four, rx_hS 36 4 fX4_compare]
set_option maxHeartbeats 4000000 in
set_option maxRecDepth 100000 in
theorem eo_X4_compareAt (l : Launch) (D : va_G) (am : Nat → Nat) (cI cZ : ClassId) : ∀ (p : Program) (e : Env) (s : State) (m : MethodId) (args : Array Value) (below : List Frame) (meth : Method) (c : Code) (Qw : State → Prop), CallFix p m c cX4_compareAt 3 s args (Cond.code yX4_compareAt cX4_compareAt 3 (some .int) :: wsA) RX4 → mK D cI cZ s → rx_Eok (fun H locs g => W p l e rX4_compareAt s m args below meth c H locs 0 0 Qw g) m cX4_compareAt 3 (tr_I D vwCl (mA am) s (mW am cI cZ)) (eX4_compareAt am) := by
  intro p e s m args below meth c Qw S hK
  have ht : ∀ w ∈ wsA, w.before args s = true := fun w h => S.2.2.2.2 w (wsA_in h)
  exact rx_any_c (rx_hV_ok S ⟨Nat.zero_le _, Nat.zero_le _⟩ mK_tr hK (cwV 1 S.2.2.2.2 (wsA_V wkX4_30 wiX4_four weX4_four winiX4 wX4_four) rfl rfl rfl (by decide +kernel) ⟨by decide, by decide⟩) (ct_X4_four l D am cI cZ) (fun w H hP => va_recv hK.1 hP (rfl : vwCl[4]? = some (RX4, TX4, 7)) (rfl : (mW am cI cZ w)[0]? = some _))) (rx_any_c (rx_hS_ok S ⟨Nat.zero_le _, Nat.zero_le _⟩ mK_tr hK (va_cwS 4 S.2.2.2.2 (wsA_S wkX4_36 wsX4_compare winiX4 wX4_compare) rfl rfl rfl (by decide +kernel) ⟨by decide, by decide⟩) (ct_X4_compare l D am cI cZ)) (rx_any_0))
set_option maxHeartbeats 4000000 in
set_option maxRecDepth 100000 in
theorem ct_X4_compareAt (l : Launch) (D : va_G) (am : Nat → Nat) (cI cZ : ClassId) : ctM l yX4_compareAt cX4_compareAt 3 (some .int) rX4_compareAt D am cI cZ [.ref (am 0)] fX4_compareAt := by
  intro w as g w1 r hf hg
  unfold fX4_compareAt at hf
  split at hf
  · next x y =>
    cases hf
    exact tr_of rx_nc 0 200 0 (by decide) rfl rfl (Nat.le_of_ble_eq_true rfl) pX4_compareAt_ok (rt_i _) (eo_X4_compareAt l D am cI cZ) (fun pc g h => by cases h) (by
      simp only [pX4_compareAt, eX4_compareAt, fX4_compare, fX4_four, rx_n, rx_s, rx_to, rx_get, rx_f1, rx_f2, rx_two, rx_ext, rx_any, rx_hV, rx_hS, rx_hG, rx_hP, rx_hAi, rx_hAb, rx_hBb, rx_hBi, rx_hBp, rx_hL, rx_hLi, rx_got, rx_pop, rx_sum, rx_len, rx_c, rx_m1, lv_args, Value.category, rx_cut_n, rx_cut_m0, rx_cut_m1, rx_iconst, rx_bipush, rx_sipush, rx_lconst, rx_iload_n, rx_iload, rx_lload_n, rx_lload, rx_aload_n, rx_aload, rx_istore_n, rx_istore, rx_lstore_n, rx_lstore, rx_astore_n, rx_astore, rx_iinc, rx_iadd, rx_isub, rx_imul, rx_iand, rx_ixor, rx_ishr, rx_idiv, rx_irem, rx_ladd, rx_lsub, rx_land, rx_lor, rx_lxor, rx_lmul, rx_ldiv, rx_lrem, rx_lushr, rx_lshl, rx_lshr, rx_lneg, rx_i2l, rx_l2i, rx_i2b, rx_lcmp, rx_dup_i, rx_dup_a, rx_pop_i, rx_pop_a, rx_if_eq, rx_if_ne, rx_if_lt, rx_if_ge, rx_if_gt, rx_if_le, rx_icmp_eq, rx_icmp_ne, rx_icmp_lt, rx_icmp_ge, rx_icmp_gt, rx_icmp_le, rx_goto, rx_tsw, rx_ireturn, rx_lreturn, rx_return_, rx_getfield, rx_putfield, rx_invokevirtual, rx_invokespecial, rx_invokestatic, rx_ldc, rx_ldc2_w, rx_iaload, rx_iastore, rx_baload, rx_bastore, Nat.reduceBEq, Nat.reduceAdd, Nat.reduceSub, Nat.reduceMul, Nat.reduceLeDiff, Nat.reduceEqDiff, Nat.reduceLT, Int.reduceLT, Int.reduceLE, Int.reduceNeg, Int.reduceToNat, Int.reduceAdd, Fin.isValue, Fin.val_zero, Fin.val_one, Fin.reduceFinMk, Fin.val_ofNat, Bool.or_true, Bool.true_or, Bool.or_false, Bool.false_or, Bool.and_true, Bool.true_and, Bool.and_false, Bool.false_and, cond_true, cond_false, ↓reduceIte, eq_self, ne_eq, not_true_eq_false, not_false_eq_true, true_and, and_true, Option.toList_some, Option.toList_none, List.cons_append, List.nil_append, Option.some.injEq, Value.int.injEq, Value.long.injEq, rx_l0, rx_l1, rx_fv0, rx_fv1, rx_fv2, rx_fv3, nI_c1, nI_c2, nI_c4, nI_c8, nI_c9, nI_c24, nI_c64, Nat.le_refl, bI_z, bI_0, bI_1, Classical.not_not, lg_cmp_ge, lg_cmp_le, lg_cmp_gt, lg_cmp_lt, lg_cmp_eq]
      obtain ⟨hx, hy⟩ := hg
      obtain ⟨a, ha, rfl, -⟩ := vp_ex hx (by decide)
      obtain ⟨c, hc, rfl, -⟩ := vp_ex hy (by decide)
      have h1 := bl_q4 w.1 a
      have h2 := bl_q4 w.1 (a + 4)
      have h3 := bl_q4 w.1 c
      have h4 := bl_q4 w.1 (c + 4)
      simp (disch := omega) only [nI_add, nI_clamp, uN_lN]
      refine ⟨vp_in_nI (by omega) (by decide), vp_in_nI (by omega) (by decide), vp_in_nI (by omega) (by decide), vp_in_nI (by omega) (by decide), ⟨by omega, by omega, h1, h3⟩, ?_⟩
      rw [bl_8, bl_8]
      congr 1 <;> omega)
  · cases hf
def pX4_zeros : rx_P := [(0, .iconst 0, 0), (1, .istore_n 3, 0), (2, .iload_n 3, 0), (3, .iload_n 2, 0), (4, .if_icmp .ge 22, 26), (7, .aload_n 0, 0), (8, .getfield 7, 0), (11, .iload_n 1, 0), (12, .iload_n 3, 0), (13, .iadd, 0), (14, .iaload, 0), (15, .ifCond .eq 5, 20), (18, .iconst 0, 0), (19, .ireturn, 0), (20, .iinc 3 1, 0), (23, .goto (-21), 2), (26, .iconst 1, 0), (27, .ireturn, 0)]
theorem pX4_zeros_ok : ∀ q ∈ pX4_zeros, rx_ok cX4_zeros q := rx_ok_all (by decide +kernel)
abbrev rX4_zeros : Room := { frames := 0, cells := 0, slots := 0, locals := 0 }
noncomputable def fX4_zeros : rx_F mS := fun w as => match as with
  | [.int x, .int k] => some (nI x.toNatClampNeg = x ∧ nI k.toNatClampNeg = k ∧ x.toNatClampNeg + k.toNatClampNeg ≤ 640, w, some (.int (bI (∀ i, i < k.toNatClampNeg → bg w.1 (x.toNatClampNeg + i) = 0))))
  | _ => none
noncomputable def eX4_zeros (am : Nat → Nat) : rx_E mS := rx_any [rx_hG 7 (am 0) (fun w => .ref (am 1)), rx_hAi (am 1) 640 (fun w k => nI (bg w.1 k))]
set_option maxHeartbeats 4000000 in
set_option maxRecDepth 100000 in
theorem eo_X4_zeros (l : Launch) (D : va_G) (am : Nat → Nat) (cI cZ : ClassId) : ∀ (p : Program) (e : Env) (s : State) (m : MethodId) (args : Array Value) (below : List Frame) (meth : Method) (c : Code) (Qw : State → Prop), CallFix p m c cX4_zeros 4 s args (Cond.code yX4_zeros cX4_zeros 4 (some .boolean) :: wsA) RX4 → mK D cI cZ s → rx_Eok (fun H locs g => W p l e rX4_zeros s m args below meth c H locs 0 0 Qw g) m cX4_zeros 4 (tr_I D vwCl (mA am) s (mW am cI cZ)) (eX4_zeros am) := by
  intro p e s m args below meth c Qw S hK
  have ht : ∀ w ∈ wsA, w.before args s = true := fun w h => S.2.2.2.2 w (wsA_in h)
  exact rx_any_c (rx_hG_ok (fun w H locs pc ls rest hI hd k => va_get (D := D) (ci := 4) (C := RX4) (T := TX4) (N := 7) S.1 S.2.1 ht inX4 S.2.2.2.1 hK.1 hI.1 0 rfl rfl 2 (by decide) (ht _ wfX4_7) (fun _ h9 => h9) rfl hd k)) (rx_any_c (rx_hAi_ok (fun w H locs pc ls rest x hI hin hd k => va_iald S.1 S.2.1 hK.1 hI.1 1 0 rfl rfl hin hd k)) (rx_any_0))
set_option maxHeartbeats 4000000 in
set_option maxRecDepth 100000 in
theorem ct_X4_zeros (l : Launch) (D : va_G) (am : Nat → Nat) (cI cZ : ClassId) : ctM l yX4_zeros cX4_zeros 4 (some .boolean) rX4_zeros D am cI cZ [.ref (am 0)] fX4_zeros := by
  intro w as g w1 r hf hg
  unfold fX4_zeros at hf
  split at hf
  · next x k =>
    cases hf
    obtain ⟨hx, hk, hl⟩ := hg
    generalize x.toNatClampNeg = X at hx hl ⊢
    generalize k.toNatClampNeg = K at hk hl ⊢
    subst hx
    subst hk
    refine tr_of (rx_mc [(2, fun u w0 lv => w0 = w ∧ ∃ j, j ≤ K ∧ u = K - j ∧ (∀ i, i < j → bg w.1 (X + i) = 0) ∧ lv = [(0, .ref (am 0)), (1, .int (nI X)), (2, .int (nI K)), (3, .int (nI j))])]) 400 400 100000 (by decide) rfl rfl (Nat.le_of_ble_eq_true rfl) pX4_zeros_ok (rt_z _) (eo_X4_zeros l D am cI cZ) ?_ ?_
    · intro pc g0 hpc u w0 lv hinv
      have hh := rx_mc_of _ hpc
      clear hpc
      simp only [List.mem_cons, List.not_mem_nil, or_false, Prod.mk.injEq] at hh
      rcases hh with ⟨rfl, rfl⟩
      · obtain ⟨rfl, j, hj, rfl, hz, rfl⟩ := hinv
        have hb := bg_lt w0.1 (X + j)
        simp only [pX4_zeros, eX4_zeros, rx_n, rx_s, rx_to, rx_get, rx_f1, rx_f2, rx_two, rx_ext, rx_any, rx_hV, rx_hS, rx_hG, rx_hP, rx_hAi, rx_hAb, rx_hBb, rx_hBi, rx_hBp, rx_hL, rx_hLi, rx_got, rx_pop, rx_sum, rx_len, rx_c, rx_m1, lv_args, Value.category, rx_cut_n, rx_cut_m0, rx_cut_m1, rx_iconst, rx_bipush, rx_sipush, rx_lconst, rx_iload_n, rx_iload, rx_lload_n, rx_lload, rx_aload_n, rx_aload, rx_istore_n, rx_istore, rx_lstore_n, rx_lstore, rx_astore_n, rx_astore, rx_iinc, rx_iadd, rx_isub, rx_imul, rx_iand, rx_ixor, rx_ishr, rx_idiv, rx_irem, rx_ladd, rx_lsub, rx_land, rx_lor, rx_lxor, rx_lmul, rx_ldiv, rx_lrem, rx_lushr, rx_lshl, rx_lshr, rx_lneg, rx_i2l, rx_l2i, rx_i2b, rx_lcmp, rx_dup_i, rx_dup_a, rx_pop_i, rx_pop_a, rx_if_eq, rx_if_ne, rx_if_lt, rx_if_ge, rx_if_gt, rx_if_le, rx_icmp_eq, rx_icmp_ne, rx_icmp_lt, rx_icmp_ge, rx_icmp_gt, rx_icmp_le, rx_goto, rx_tsw, rx_ireturn, rx_lreturn, rx_return_, rx_getfield, rx_putfield, rx_invokevirtual, rx_invokespecial, rx_invokestatic, rx_ldc, rx_ldc2_w, rx_iaload, rx_iastore, rx_baload, rx_bastore, Nat.reduceBEq, Nat.reduceAdd, Nat.reduceSub, Nat.reduceMul, Nat.reduceLeDiff, Nat.reduceEqDiff, Nat.reduceLT, Int.reduceLT, Int.reduceLE, Int.reduceNeg, Int.reduceToNat, Int.reduceAdd, Fin.isValue, Fin.val_zero, Fin.val_one, Fin.reduceFinMk, Fin.val_ofNat, Bool.or_true, Bool.true_or, Bool.or_false, Bool.false_or, Bool.and_true, Bool.true_and, Bool.and_false, Bool.false_and, cond_true, cond_false, ↓reduceIte, eq_self, ne_eq, not_true_eq_false, not_false_eq_true, true_and, and_true, Option.toList_some, Option.toList_none, List.cons_append, List.nil_append, Option.some.injEq, Value.int.injEq, Value.long.injEq, rx_l0, rx_l1, rx_fv0, rx_fv1, rx_fv2, rx_fv3, nI_c1, nI_c2, nI_c4, nI_c8, nI_c9, nI_c24, nI_c64, Nat.le_refl, bI_z, bI_0, bI_1, Classical.not_not, lg_cmp_ge, lg_cmp_le, lg_cmp_gt, lg_cmp_lt, lg_cmp_eq]
        rw [nI_leI (by omega) (by omega), nI_add, nI_clamp (by omega), nI_z (by omega)]
        refine ⟨fun h i hi => hz i (by omega), fun h => ⟨vp_in_nI (by omega) (by decide), fun h2 => ?_, fun h2 h3 => h2 (h3 j (by omega))⟩⟩
        refine ⟨K - (j + 1), _, by omega, ⟨j + 1, by omega, rfl, lt_s hz h2, rfl⟩, ?_⟩
        simp only [List.mem_cons, List.not_mem_nil, or_false, forall_eq_or_imp, forall_eq, Nat.reduceBEq, cond_true, cond_false, Option.some.injEq, Value.int.injEq, Value.long.injEq, Value.ref.injEq, true_and, and_true]
        exact nI_add j 1
    · simp only [pX4_zeros, eX4_zeros, rx_n, rx_s, rx_to, rx_get, rx_f1, rx_f2, rx_two, rx_ext, rx_any, rx_hV, rx_hS, rx_hG, rx_hP, rx_hAi, rx_hAb, rx_hBb, rx_hBi, rx_hBp, rx_hL, rx_hLi, rx_got, rx_pop, rx_sum, rx_len, rx_c, rx_m1, lv_args, Value.category, rx_cut_n, rx_cut_m0, rx_cut_m1, rx_iconst, rx_bipush, rx_sipush, rx_lconst, rx_iload_n, rx_iload, rx_lload_n, rx_lload, rx_aload_n, rx_aload, rx_istore_n, rx_istore, rx_lstore_n, rx_lstore, rx_astore_n, rx_astore, rx_iinc, rx_iadd, rx_isub, rx_imul, rx_iand, rx_ixor, rx_ishr, rx_idiv, rx_irem, rx_ladd, rx_lsub, rx_land, rx_lor, rx_lxor, rx_lmul, rx_ldiv, rx_lrem, rx_lushr, rx_lshl, rx_lshr, rx_lneg, rx_i2l, rx_l2i, rx_i2b, rx_lcmp, rx_dup_i, rx_dup_a, rx_pop_i, rx_pop_a, rx_if_eq, rx_if_ne, rx_if_lt, rx_if_ge, rx_if_gt, rx_if_le, rx_icmp_eq, rx_icmp_ne, rx_icmp_lt, rx_icmp_ge, rx_icmp_gt, rx_icmp_le, rx_goto, rx_tsw, rx_ireturn, rx_lreturn, rx_return_, rx_getfield, rx_putfield, rx_invokevirtual, rx_invokespecial, rx_invokestatic, rx_ldc, rx_ldc2_w, rx_iaload, rx_iastore, rx_baload, rx_bastore, Nat.reduceBEq, Nat.reduceAdd, Nat.reduceSub, Nat.reduceMul, Nat.reduceLeDiff, Nat.reduceEqDiff, Nat.reduceLT, Int.reduceLT, Int.reduceLE, Int.reduceNeg, Int.reduceToNat, Int.reduceAdd, Fin.isValue, Fin.val_zero, Fin.val_one, Fin.reduceFinMk, Fin.val_ofNat, Bool.or_true, Bool.true_or, Bool.or_false, Bool.false_or, Bool.and_true, Bool.true_and, Bool.and_false, Bool.false_and, cond_true, cond_false, ↓reduceIte, eq_self, ne_eq, not_true_eq_false, not_false_eq_true, true_and, and_true, Option.toList_some, Option.toList_none, List.cons_append, List.nil_append, Option.some.injEq, Value.int.injEq, Value.long.injEq, rx_l0, rx_l1, rx_fv0, rx_fv1, rx_fv2, rx_fv3, nI_c1, nI_c2, nI_c4, nI_c8, nI_c9, nI_c24, nI_c64, Nat.le_refl, bI_z, bI_0, bI_1, Classical.not_not, lg_cmp_ge, lg_cmp_le, lg_cmp_gt, lg_cmp_lt, lg_cmp_eq]
      refine ⟨K, _, by omega, ⟨0, by omega, rfl, lt_0, rfl⟩, ?_⟩
      simp only [List.mem_cons, List.not_mem_nil, or_false, forall_eq_or_imp, forall_eq, Nat.reduceBEq, cond_true, cond_false, Option.some.injEq, Value.int.injEq, Value.long.injEq, Value.ref.injEq, true_and, and_true]
  · cases hf
def pX4_hasRoom : rx_P := [(0, .aload_n 0, 0), (1, .iload_n 1, 0), (2, .aload_n 0, 0), (3, .getfield 43, 0), (6, .i2l, 0), (7, .invokevirtual 46, 0), (10, .ifCond .eq 40, 50), (13, .aload_n 0, 0), (14, .iload_n 2, 0), (15, .aload_n 0, 0), (16, .getfield 43, 0), (19, .i2l, 0), (20, .invokevirtual 46, 0), (23, .ifCond .eq 27, 50), (26, .aload_n 0, 0), (27, .iload_n 1, 0), (28, .invokevirtual 30, 0), (31, .aload_n 0, 0), (32, .iload_n 2, 0), (33, .invokevirtual 30, 0), (36, .ladd, 0), (37, .aload_n 0, 0), (38, .getfield 43, 0), (41, .i2l, 0), (42, .lcmp, 0), (43, .ifCond .gt 7, 50), (46, .iconst 1, 0), (47, .goto 4, 51), (50, .iconst 0, 0), (51, .ireturn, 0)]
theorem pX4_hasRoom_ok : ∀ q ∈ pX4_hasRoom, rx_ok cX4_hasRoom q := rx_ok_all (by decide +kernel)
abbrev rX4_hasRoom : Room := { frames := 3, cells := 0, slots := 0, locals := 65 }
noncomputable def fX4_hasRoom : rx_F mS := fun w as => match as with
  | [.int x, .int y] => some (vp_in x 633 ∧ vp_in y 633, w, some (.int (bI (bl w.1 x.toNatClampNeg 8 + bl w.1 y.toNatClampNeg 8 ≤ bn w.1))))
  | _ => none
noncomputable def eX4_hasRoom (am : Nat → Nat) : rx_E mS := rx_any [rx_hG 43 (am 0) (fun w => .int (nI (bn w.1))), rx_hV 46 2 (am 0) fX4_atMost, rx_hV 30 1 (am 0) fX4_four]
set_option maxHeartbeats 4000000 in
set_option maxRecDepth 100000 in
theorem eo_X4_hasRoom (l : Launch) (D : va_G) (am : Nat → Nat) (cI cZ : ClassId) : ∀ (p : Program) (e : Env) (s : State) (m : MethodId) (args : Array Value) (below : List Frame) (meth : Method) (c : Code) (Qw : State → Prop), CallFix p m c cX4_hasRoom 3 s args (Cond.code yX4_hasRoom cX4_hasRoom 3 (some .boolean) :: wsA) RX4 → mK D cI cZ s → rx_Eok (fun H locs g => W p l e rX4_hasRoom s m args below meth c H locs 0 0 Qw g) m cX4_hasRoom 3 (tr_I D vwCl (mA am) s (mW am cI cZ)) (eX4_hasRoom am) := by
  intro p e s m args below meth c Qw S hK
  have ht : ∀ w ∈ wsA, w.before args s = true := fun w h => S.2.2.2.2 w (wsA_in h)
  exact rx_any_c (rx_hG_ok (fun w H locs pc ls rest hI hd k => va_get (D := D) (ci := 4) (C := RX4) (T := TX4) (N := 7) S.1 S.2.1 ht inX4 S.2.2.2.1 hK.1 hI.1 0 rfl rfl 1 (by decide) (ht _ wfX4_43) (fun _ h9 => h9) rfl hd k)) (rx_any_c (rx_hV_ok S ⟨Nat.zero_le _, Nat.zero_le _⟩ mK_tr hK (cwV 2 S.2.2.2.2 (wsA_V wkX4_46 wiX4_atMost weX4_atMost winiX4 wX4_atMost) rfl rfl rfl (by decide +kernel) ⟨by decide, by decide⟩) (ct_X4_atMost l D am cI cZ) (fun w H hP => va_recv hK.1 hP (rfl : vwCl[4]? = some (RX4, TX4, 7)) (rfl : (mW am cI cZ w)[0]? = some _))) (rx_any_c (rx_hV_ok S ⟨Nat.zero_le _, Nat.zero_le _⟩ mK_tr hK (cwV 1 S.2.2.2.2 (wsA_V wkX4_30 wiX4_four weX4_four winiX4 wX4_four) rfl rfl rfl (by decide +kernel) ⟨by decide, by decide⟩) (ct_X4_four l D am cI cZ) (fun w H hP => va_recv hK.1 hP (rfl : vwCl[4]? = some (RX4, TX4, 7)) (rfl : (mW am cI cZ w)[0]? = some _))) (rx_any_0)))
set_option maxHeartbeats 4000000 in
set_option maxRecDepth 100000 in
theorem ct_X4_hasRoom (l : Launch) (D : va_G) (am : Nat → Nat) (cI cZ : ClassId) : ctM l yX4_hasRoom cX4_hasRoom 3 (some .boolean) rX4_hasRoom D am cI cZ [.ref (am 0)] fX4_hasRoom := by
  intro w as g w1 r hf hg
  unfold fX4_hasRoom at hf
  split at hf
  · next x y =>
    cases hf
    exact tr_of rx_nc 0 200 0 (by decide) rfl rfl (Nat.le_of_ble_eq_true rfl) pX4_hasRoom_ok (rt_z _) (eo_X4_hasRoom l D am cI cZ) (fun pc g h => by cases h) (by
      simp only [pX4_hasRoom, eX4_hasRoom, fX4_atMost, fX4_four, rx_n, rx_s, rx_to, rx_get, rx_f1, rx_f2, rx_two, rx_ext, rx_any, rx_hV, rx_hS, rx_hG, rx_hP, rx_hAi, rx_hAb, rx_hBb, rx_hBi, rx_hBp, rx_hL, rx_hLi, rx_got, rx_pop, rx_sum, rx_len, rx_c, rx_m1, lv_args, Value.category, rx_cut_n, rx_cut_m0, rx_cut_m1, rx_iconst, rx_bipush, rx_sipush, rx_lconst, rx_iload_n, rx_iload, rx_lload_n, rx_lload, rx_aload_n, rx_aload, rx_istore_n, rx_istore, rx_lstore_n, rx_lstore, rx_astore_n, rx_astore, rx_iinc, rx_iadd, rx_isub, rx_imul, rx_iand, rx_ixor, rx_ishr, rx_idiv, rx_irem, rx_ladd, rx_lsub, rx_land, rx_lor, rx_lxor, rx_lmul, rx_ldiv, rx_lrem, rx_lushr, rx_lshl, rx_lshr, rx_lneg, rx_i2l, rx_l2i, rx_i2b, rx_lcmp, rx_dup_i, rx_dup_a, rx_pop_i, rx_pop_a, rx_if_eq, rx_if_ne, rx_if_lt, rx_if_ge, rx_if_gt, rx_if_le, rx_icmp_eq, rx_icmp_ne, rx_icmp_lt, rx_icmp_ge, rx_icmp_gt, rx_icmp_le, rx_goto, rx_tsw, rx_ireturn, rx_lreturn, rx_return_, rx_getfield, rx_putfield, rx_invokevirtual, rx_invokespecial, rx_invokestatic, rx_ldc, rx_ldc2_w, rx_iaload, rx_iastore, rx_baload, rx_bastore, Nat.reduceBEq, Nat.reduceAdd, Nat.reduceSub, Nat.reduceMul, Nat.reduceLeDiff, Nat.reduceEqDiff, Nat.reduceLT, Int.reduceLT, Int.reduceLE, Int.reduceNeg, Int.reduceToNat, Int.reduceAdd, Fin.isValue, Fin.val_zero, Fin.val_one, Fin.reduceFinMk, Fin.val_ofNat, Bool.or_true, Bool.true_or, Bool.or_false, Bool.false_or, Bool.and_true, Bool.true_and, Bool.and_false, Bool.false_and, cond_true, cond_false, ↓reduceIte, eq_self, ne_eq, not_true_eq_false, not_false_eq_true, true_and, and_true, Option.toList_some, Option.toList_none, List.cons_append, List.nil_append, Option.some.injEq, Value.int.injEq, Value.long.injEq, rx_l0, rx_l1, rx_fv0, rx_fv1, rx_fv2, rx_fv3, nI_c1, nI_c2, nI_c4, nI_c8, nI_c9, nI_c24, nI_c64, Nat.le_refl, bI_z, bI_0, bI_1, Classical.not_not, lg_cmp_ge, lg_cmp_le, lg_cmp_gt, lg_cmp_lt, lg_cmp_eq]
      obtain ⟨hx, hy⟩ := hg
      obtain ⟨a, ha, rfl, -⟩ := vp_ex hx (by decide)
      obtain ⟨c, hc, rfl, -⟩ := vp_ex hy (by decide)
      have h1 := bl_q4 w.1 a
      have h3 := bl_q4 w.1 c
      have h5 := bl_8 w.1 a
      have h6 := bl_8 w.1 c
      have hB := bn_le w.1
      simp (disch := omega) only [nI_clamp, bn_l, uN_bn, lN_add, pk_lLT]
      refine ⟨⟨vp_in_nI (by omega) (by decide), by omega⟩, fun h => by omega, fun h => ⟨⟨vp_in_nI (by omega) (by decide), by omega⟩, fun h => by omega, fun h => ⟨vp_in_nI (by omega) (by decide), vp_in_nI (by omega) (by decide), fun h => by omega, fun h => by omega⟩⟩⟩)
  · cases hf
def pX4_segmentCount : rx_P := [(0, .aload_n 0, 0), (1, .bipush 56, 0), (3, .invokevirtual 24, 0), (6, .ireturn, 0)]
theorem pX4_segmentCount_ok : ∀ q ∈ pX4_segmentCount, rx_ok cX4_segmentCount q := rx_ok_all (by decide +kernel)
abbrev rX4_segmentCount : Room := { frames := 1, cells := 0, slots := 0, locals := 21 }
noncomputable def fX4_segmentCount : rx_F mS := fun w as => match as with
  | [] => some (True, w, some (.int (nI (gC w.1))))
  | _ => none
noncomputable def eX4_segmentCount (am : Nat → Nat) : rx_E mS := rx_any [rx_hV 24 1 (am 0) fX4_two]
set_option maxHeartbeats 4000000 in
set_option maxRecDepth 100000 in
theorem eo_X4_segmentCount (l : Launch) (D : va_G) (am : Nat → Nat) (cI cZ : ClassId) : ∀ (p : Program) (e : Env) (s : State) (m : MethodId) (args : Array Value) (below : List Frame) (meth : Method) (c : Code) (Qw : State → Prop), CallFix p m c cX4_segmentCount 1 s args (Cond.code yX4_segmentCount cX4_segmentCount 1 (some .int) :: wsA) RX4 → mK D cI cZ s → rx_Eok (fun H locs g => W p l e rX4_segmentCount s m args below meth c H locs 0 0 Qw g) m cX4_segmentCount 1 (tr_I D vwCl (mA am) s (mW am cI cZ)) (eX4_segmentCount am) := by
  intro p e s m args below meth c Qw S hK
  have ht : ∀ w ∈ wsA, w.before args s = true := fun w h => S.2.2.2.2 w (wsA_in h)
  exact rx_any_c (rx_hV_ok S ⟨Nat.zero_le _, Nat.zero_le _⟩ mK_tr hK (cwV 1 S.2.2.2.2 (wsA_V wkX4_24 wiX4_two weX4_two winiX4 wX4_two) rfl rfl rfl (by decide +kernel) ⟨by decide, by decide⟩) (ct_X4_two l D am cI cZ) (fun w H hP => va_recv hK.1 hP (rfl : vwCl[4]? = some (RX4, TX4, 7)) (rfl : (mW am cI cZ w)[0]? = some _))) (rx_any_0)
set_option maxHeartbeats 4000000 in
set_option maxRecDepth 100000 in
theorem ct_X4_segmentCount (l : Launch) (D : va_G) (am : Nat → Nat) (cI cZ : ClassId) : ctM l yX4_segmentCount cX4_segmentCount 1 (some .int) rX4_segmentCount D am cI cZ [.ref (am 0)] fX4_segmentCount := by
  intro w as g w1 r hf hg
  unfold fX4_segmentCount at hf
  split at hf
  · cases hf
    exact tr_of rx_nc 0 200 0 (by decide) rfl rfl (Nat.le_of_ble_eq_true rfl) pX4_segmentCount_ok (rt_i _) (eo_X4_segmentCount l D am cI cZ) (fun pc g h => by cases h) (by
      simp only [pX4_segmentCount, eX4_segmentCount, fX4_two, rx_n, rx_s, rx_to, rx_get, rx_f1, rx_f2, rx_two, rx_ext, rx_any, rx_hV, rx_hS, rx_hG, rx_hP, rx_hAi, rx_hAb, rx_hBb, rx_hBi, rx_hBp, rx_hL, rx_hLi, rx_got, rx_pop, rx_sum, rx_len, rx_c, rx_m1, lv_args, Value.category, rx_cut_n, rx_cut_m0, rx_cut_m1, rx_iconst, rx_bipush, rx_sipush, rx_lconst, rx_iload_n, rx_iload, rx_lload_n, rx_lload, rx_aload_n, rx_aload, rx_istore_n, rx_istore, rx_lstore_n, rx_lstore, rx_astore_n, rx_astore, rx_iinc, rx_iadd, rx_isub, rx_imul, rx_iand, rx_ixor, rx_ishr, rx_idiv, rx_irem, rx_ladd, rx_lsub, rx_land, rx_lor, rx_lxor, rx_lmul, rx_ldiv, rx_lrem, rx_lushr, rx_lshl, rx_lshr, rx_lneg, rx_i2l, rx_l2i, rx_i2b, rx_lcmp, rx_dup_i, rx_dup_a, rx_pop_i, rx_pop_a, rx_if_eq, rx_if_ne, rx_if_lt, rx_if_ge, rx_if_gt, rx_if_le, rx_icmp_eq, rx_icmp_ne, rx_icmp_lt, rx_icmp_ge, rx_icmp_gt, rx_icmp_le, rx_goto, rx_tsw, rx_ireturn, rx_lreturn, rx_return_, rx_getfield, rx_putfield, rx_invokevirtual, rx_invokespecial, rx_invokestatic, rx_ldc, rx_ldc2_w, rx_iaload, rx_iastore, rx_baload, rx_bastore, Nat.reduceBEq, Nat.reduceAdd, Nat.reduceSub, Nat.reduceMul, Nat.reduceLeDiff, Nat.reduceEqDiff, Nat.reduceLT, Int.reduceLT, Int.reduceLE, Int.reduceNeg, Int.reduceToNat, Int.reduceAdd, Fin.isValue, Fin.val_zero, Fin.val_one, Fin.reduceFinMk, Fin.val_ofNat, Bool.or_true, Bool.true_or, Bool.or_false, Bool.false_or, Bool.and_true, Bool.true_and, Bool.and_false, Bool.false_and, cond_true, cond_false, ↓reduceIte, eq_self, ne_eq, not_true_eq_false, not_false_eq_true, true_and, and_true, Option.toList_some, Option.toList_none, List.cons_append, List.nil_append, Option.some.injEq, Value.int.injEq, Value.long.injEq, rx_l0, rx_l1, rx_fv0, rx_fv1, rx_fv2, rx_fv3, nI_c1, nI_c2, nI_c4, nI_c8, nI_c9, nI_c24, nI_c64, Nat.le_refl, bI_z, bI_0, bI_1, Classical.not_not, lg_cmp_ge, lg_cmp_le, lg_cmp_gt, lg_cmp_lt, lg_cmp_eq]
      simp (disch := omega) only [nI_clamp]
      exact ⟨vp_in_nI (by omega) (by decide), rfl⟩)
  · cases hf
def pX4_sectionCount : rx_P := [(0, .aload_n 0, 0), (1, .bipush 60, 0), (3, .invokevirtual 24, 0), (6, .ireturn, 0)]
theorem pX4_sectionCount_ok : ∀ q ∈ pX4_sectionCount, rx_ok cX4_sectionCount q := rx_ok_all (by decide +kernel)
abbrev rX4_sectionCount : Room := { frames := 1, cells := 0, slots := 0, locals := 21 }
noncomputable def fX4_sectionCount : rx_F mS := fun w as => match as with
  | [] => some (True, w, some (.int (nI (sC w.1))))
  | _ => none
noncomputable def eX4_sectionCount (am : Nat → Nat) : rx_E mS := rx_any [rx_hV 24 1 (am 0) fX4_two]
set_option maxHeartbeats 4000000 in
set_option maxRecDepth 100000 in
theorem eo_X4_sectionCount (l : Launch) (D : va_G) (am : Nat → Nat) (cI cZ : ClassId) : ∀ (p : Program) (e : Env) (s : State) (m : MethodId) (args : Array Value) (below : List Frame) (meth : Method) (c : Code) (Qw : State → Prop), CallFix p m c cX4_sectionCount 1 s args (Cond.code yX4_sectionCount cX4_sectionCount 1 (some .int) :: wsA) RX4 → mK D cI cZ s → rx_Eok (fun H locs g => W p l e rX4_sectionCount s m args below meth c H locs 0 0 Qw g) m cX4_sectionCount 1 (tr_I D vwCl (mA am) s (mW am cI cZ)) (eX4_sectionCount am) := by
  intro p e s m args below meth c Qw S hK
  have ht : ∀ w ∈ wsA, w.before args s = true := fun w h => S.2.2.2.2 w (wsA_in h)
  exact rx_any_c (rx_hV_ok S ⟨Nat.zero_le _, Nat.zero_le _⟩ mK_tr hK (cwV 1 S.2.2.2.2 (wsA_V wkX4_24 wiX4_two weX4_two winiX4 wX4_two) rfl rfl rfl (by decide +kernel) ⟨by decide, by decide⟩) (ct_X4_two l D am cI cZ) (fun w H hP => va_recv hK.1 hP (rfl : vwCl[4]? = some (RX4, TX4, 7)) (rfl : (mW am cI cZ w)[0]? = some _))) (rx_any_0)
set_option maxHeartbeats 4000000 in
set_option maxRecDepth 100000 in
theorem ct_X4_sectionCount (l : Launch) (D : va_G) (am : Nat → Nat) (cI cZ : ClassId) : ctM l yX4_sectionCount cX4_sectionCount 1 (some .int) rX4_sectionCount D am cI cZ [.ref (am 0)] fX4_sectionCount := by
  intro w as g w1 r hf hg
  unfold fX4_sectionCount at hf
  split at hf
  · cases hf
    exact tr_of rx_nc 0 200 0 (by decide) rfl rfl (Nat.le_of_ble_eq_true rfl) pX4_sectionCount_ok (rt_i _) (eo_X4_sectionCount l D am cI cZ) (fun pc g h => by cases h) (by
      simp only [pX4_sectionCount, eX4_sectionCount, fX4_two, rx_n, rx_s, rx_to, rx_get, rx_f1, rx_f2, rx_two, rx_ext, rx_any, rx_hV, rx_hS, rx_hG, rx_hP, rx_hAi, rx_hAb, rx_hBb, rx_hBi, rx_hBp, rx_hL, rx_hLi, rx_got, rx_pop, rx_sum, rx_len, rx_c, rx_m1, lv_args, Value.category, rx_cut_n, rx_cut_m0, rx_cut_m1, rx_iconst, rx_bipush, rx_sipush, rx_lconst, rx_iload_n, rx_iload, rx_lload_n, rx_lload, rx_aload_n, rx_aload, rx_istore_n, rx_istore, rx_lstore_n, rx_lstore, rx_astore_n, rx_astore, rx_iinc, rx_iadd, rx_isub, rx_imul, rx_iand, rx_ixor, rx_ishr, rx_idiv, rx_irem, rx_ladd, rx_lsub, rx_land, rx_lor, rx_lxor, rx_lmul, rx_ldiv, rx_lrem, rx_lushr, rx_lshl, rx_lshr, rx_lneg, rx_i2l, rx_l2i, rx_i2b, rx_lcmp, rx_dup_i, rx_dup_a, rx_pop_i, rx_pop_a, rx_if_eq, rx_if_ne, rx_if_lt, rx_if_ge, rx_if_gt, rx_if_le, rx_icmp_eq, rx_icmp_ne, rx_icmp_lt, rx_icmp_ge, rx_icmp_gt, rx_icmp_le, rx_goto, rx_tsw, rx_ireturn, rx_lreturn, rx_return_, rx_getfield, rx_putfield, rx_invokevirtual, rx_invokespecial, rx_invokestatic, rx_ldc, rx_ldc2_w, rx_iaload, rx_iastore, rx_baload, rx_bastore, Nat.reduceBEq, Nat.reduceAdd, Nat.reduceSub, Nat.reduceMul, Nat.reduceLeDiff, Nat.reduceEqDiff, Nat.reduceLT, Int.reduceLT, Int.reduceLE, Int.reduceNeg, Int.reduceToNat, Int.reduceAdd, Fin.isValue, Fin.val_zero, Fin.val_one, Fin.reduceFinMk, Fin.val_ofNat, Bool.or_true, Bool.true_or, Bool.or_false, Bool.false_or, Bool.and_true, Bool.true_and, Bool.and_false, Bool.false_and, cond_true, cond_false, ↓reduceIte, eq_self, ne_eq, not_true_eq_false, not_false_eq_true, true_and, and_true, Option.toList_some, Option.toList_none, List.cons_append, List.nil_append, Option.some.injEq, Value.int.injEq, Value.long.injEq, rx_l0, rx_l1, rx_fv0, rx_fv1, rx_fv2, rx_fv3, nI_c1, nI_c2, nI_c4, nI_c8, nI_c9, nI_c24, nI_c64, Nat.le_refl, bI_z, bI_0, bI_1, Classical.not_not, lg_cmp_ge, lg_cmp_le, lg_cmp_gt, lg_cmp_lt, lg_cmp_eq]
      simp (disch := omega) only [nI_clamp]
      exact ⟨vp_in_nI (by omega) (by decide), rfl⟩)
  · cases hf
def pX4_segmentAt : rx_P := [(0, .aload_n 0, 0), (1, .bipush 32, 0), (3, .invokevirtual 30, 0), (6, .l2i, 0), (7, .bipush 56, 0), (9, .iload_n 1, 0), (10, .imul, 0), (11, .iadd, 0), (12, .ireturn, 0)]
theorem pX4_segmentAt_ok : ∀ q ∈ pX4_segmentAt, rx_ok cX4_segmentAt q := rx_ok_all (by decide +kernel)
abbrev rX4_segmentAt : Room := { frames := 2, cells := 0, slots := 0, locals := 42 }
noncomputable def fX4_segmentAt : rx_F mS := fun w as => match as with
  | [.int k] => some (True, w, some (.int (nI (bl w.1 32 8) + nI 56 * k)))
  | _ => none
noncomputable def eX4_segmentAt (am : Nat → Nat) : rx_E mS := rx_any [rx_hV 30 1 (am 0) fX4_four]
set_option maxHeartbeats 4000000 in
set_option maxRecDepth 100000 in
theorem eo_X4_segmentAt (l : Launch) (D : va_G) (am : Nat → Nat) (cI cZ : ClassId) : ∀ (p : Program) (e : Env) (s : State) (m : MethodId) (args : Array Value) (below : List Frame) (meth : Method) (c : Code) (Qw : State → Prop), CallFix p m c cX4_segmentAt 2 s args (Cond.code yX4_segmentAt cX4_segmentAt 2 (some .int) :: wsA) RX4 → mK D cI cZ s → rx_Eok (fun H locs g => W p l e rX4_segmentAt s m args below meth c H locs 0 0 Qw g) m cX4_segmentAt 2 (tr_I D vwCl (mA am) s (mW am cI cZ)) (eX4_segmentAt am) := by
  intro p e s m args below meth c Qw S hK
  have ht : ∀ w ∈ wsA, w.before args s = true := fun w h => S.2.2.2.2 w (wsA_in h)
  exact rx_any_c (rx_hV_ok S ⟨Nat.zero_le _, Nat.zero_le _⟩ mK_tr hK (cwV 1 S.2.2.2.2 (wsA_V wkX4_30 wiX4_four weX4_four winiX4 wX4_four) rfl rfl rfl (by decide +kernel) ⟨by decide, by decide⟩) (ct_X4_four l D am cI cZ) (fun w H hP => va_recv hK.1 hP (rfl : vwCl[4]? = some (RX4, TX4, 7)) (rfl : (mW am cI cZ w)[0]? = some _))) (rx_any_0)
set_option maxHeartbeats 4000000 in
set_option maxRecDepth 100000 in
theorem ct_X4_segmentAt (l : Launch) (D : va_G) (am : Nat → Nat) (cI cZ : ClassId) : ctM l yX4_segmentAt cX4_segmentAt 2 (some .int) rX4_segmentAt D am cI cZ [.ref (am 0)] fX4_segmentAt := by
  intro w as g w1 r hf hg
  unfold fX4_segmentAt at hf
  split at hf
  · next k =>
    cases hf
    exact tr_of rx_nc 0 200 0 (by decide) rfl rfl (Nat.le_of_ble_eq_true rfl) pX4_segmentAt_ok (rt_i _) (eo_X4_segmentAt l D am cI cZ) (fun pc g h => by cases h) (by
      simp only [pX4_segmentAt, eX4_segmentAt, fX4_four, rx_n, rx_s, rx_to, rx_get, rx_f1, rx_f2, rx_two, rx_ext, rx_any, rx_hV, rx_hS, rx_hG, rx_hP, rx_hAi, rx_hAb, rx_hBb, rx_hBi, rx_hBp, rx_hL, rx_hLi, rx_got, rx_pop, rx_sum, rx_len, rx_c, rx_m1, lv_args, Value.category, rx_cut_n, rx_cut_m0, rx_cut_m1, rx_iconst, rx_bipush, rx_sipush, rx_lconst, rx_iload_n, rx_iload, rx_lload_n, rx_lload, rx_aload_n, rx_aload, rx_istore_n, rx_istore, rx_lstore_n, rx_lstore, rx_astore_n, rx_astore, rx_iinc, rx_iadd, rx_isub, rx_imul, rx_iand, rx_ixor, rx_ishr, rx_idiv, rx_irem, rx_ladd, rx_lsub, rx_land, rx_lor, rx_lxor, rx_lmul, rx_ldiv, rx_lrem, rx_lushr, rx_lshl, rx_lshr, rx_lneg, rx_i2l, rx_l2i, rx_i2b, rx_lcmp, rx_dup_i, rx_dup_a, rx_pop_i, rx_pop_a, rx_if_eq, rx_if_ne, rx_if_lt, rx_if_ge, rx_if_gt, rx_if_le, rx_icmp_eq, rx_icmp_ne, rx_icmp_lt, rx_icmp_ge, rx_icmp_gt, rx_icmp_le, rx_goto, rx_tsw, rx_ireturn, rx_lreturn, rx_return_, rx_getfield, rx_putfield, rx_invokevirtual, rx_invokespecial, rx_invokestatic, rx_ldc, rx_ldc2_w, rx_iaload, rx_iastore, rx_baload, rx_bastore, Nat.reduceBEq, Nat.reduceAdd, Nat.reduceSub, Nat.reduceMul, Nat.reduceLeDiff, Nat.reduceEqDiff, Nat.reduceLT, Int.reduceLT, Int.reduceLE, Int.reduceNeg, Int.reduceToNat, Int.reduceAdd, Fin.isValue, Fin.val_zero, Fin.val_one, Fin.reduceFinMk, Fin.val_ofNat, Bool.or_true, Bool.true_or, Bool.or_false, Bool.false_or, Bool.and_true, Bool.true_and, Bool.and_false, Bool.false_and, cond_true, cond_false, ↓reduceIte, eq_self, ne_eq, not_true_eq_false, not_false_eq_true, true_and, and_true, Option.toList_some, Option.toList_none, List.cons_append, List.nil_append, Option.some.injEq, Value.int.injEq, Value.long.injEq, rx_l0, rx_l1, rx_fv0, rx_fv1, rx_fv2, rx_fv3, nI_c1, nI_c2, nI_c4, nI_c8, nI_c9, nI_c24, nI_c64, Nat.le_refl, bI_z, bI_0, bI_1, Classical.not_not, lg_cmp_ge, lg_cmp_le, lg_cmp_gt, lg_cmp_lt, lg_cmp_eq]
      simp (disch := omega) only [nI_clamp, lN_i, nI_8]
      exact ⟨vp_in_nI (by omega) (by decide), trivial⟩)
  · cases hf
def pX4_sectionAt : rx_P := [(0, .aload_n 0, 0), (1, .bipush 40, 0), (3, .invokevirtual 30, 0), (6, .l2i, 0), (7, .bipush 64, 0), (9, .iload_n 1, 0), (10, .imul, 0), (11, .iadd, 0), (12, .ireturn, 0)]
theorem pX4_sectionAt_ok : ∀ q ∈ pX4_sectionAt, rx_ok cX4_sectionAt q := rx_ok_all (by decide +kernel)
abbrev rX4_sectionAt : Room := { frames := 2, cells := 0, slots := 0, locals := 42 }
noncomputable def fX4_sectionAt : rx_F mS := fun w as => match as with
  | [.int k] => some (True, w, some (.int (nI (bl w.1 40 8) + nI 64 * k)))
  | _ => none
noncomputable def eX4_sectionAt (am : Nat → Nat) : rx_E mS := rx_any [rx_hV 30 1 (am 0) fX4_four]
set_option maxHeartbeats 4000000 in
set_option maxRecDepth 100000 in
theorem eo_X4_sectionAt (l : Launch) (D : va_G) (am : Nat → Nat) (cI cZ : ClassId) : ∀ (p : Program) (e : Env) (s : State) (m : MethodId) (args : Array Value) (below : List Frame) (meth : Method) (c : Code) (Qw : State → Prop), CallFix p m c cX4_sectionAt 2 s args (Cond.code yX4_sectionAt cX4_sectionAt 2 (some .int) :: wsA) RX4 → mK D cI cZ s → rx_Eok (fun H locs g => W p l e rX4_sectionAt s m args below meth c H locs 0 0 Qw g) m cX4_sectionAt 2 (tr_I D vwCl (mA am) s (mW am cI cZ)) (eX4_sectionAt am) := by
  intro p e s m args below meth c Qw S hK
  have ht : ∀ w ∈ wsA, w.before args s = true := fun w h => S.2.2.2.2 w (wsA_in h)
  exact rx_any_c (rx_hV_ok S ⟨Nat.zero_le _, Nat.zero_le _⟩ mK_tr hK (cwV 1 S.2.2.2.2 (wsA_V wkX4_30 wiX4_four weX4_four winiX4 wX4_four) rfl rfl rfl (by decide +kernel) ⟨by decide, by decide⟩) (ct_X4_four l D am cI cZ) (fun w H hP => va_recv hK.1 hP (rfl : vwCl[4]? = some (RX4, TX4, 7)) (rfl : (mW am cI cZ w)[0]? = some _))) (rx_any_0)
set_option maxHeartbeats 4000000 in
set_option maxRecDepth 100000 in
theorem ct_X4_sectionAt (l : Launch) (D : va_G) (am : Nat → Nat) (cI cZ : ClassId) : ctM l yX4_sectionAt cX4_sectionAt 2 (some .int) rX4_sectionAt D am cI cZ [.ref (am 0)] fX4_sectionAt := by
  intro w as g w1 r hf hg
  unfold fX4_sectionAt at hf
  split at hf
  · next k =>
    cases hf
    exact tr_of rx_nc 0 200 0 (by decide) rfl rfl (Nat.le_of_ble_eq_true rfl) pX4_sectionAt_ok (rt_i _) (eo_X4_sectionAt l D am cI cZ) (fun pc g h => by cases h) (by
      simp only [pX4_sectionAt, eX4_sectionAt, fX4_four, rx_n, rx_s, rx_to, rx_get, rx_f1, rx_f2, rx_two, rx_ext, rx_any, rx_hV, rx_hS, rx_hG, rx_hP, rx_hAi, rx_hAb, rx_hBb, rx_hBi, rx_hBp, rx_hL, rx_hLi, rx_got, rx_pop, rx_sum, rx_len, rx_c, rx_m1, lv_args, Value.category, rx_cut_n, rx_cut_m0, rx_cut_m1, rx_iconst, rx_bipush, rx_sipush, rx_lconst, rx_iload_n, rx_iload, rx_lload_n, rx_lload, rx_aload_n, rx_aload, rx_istore_n, rx_istore, rx_lstore_n, rx_lstore, rx_astore_n, rx_astore, rx_iinc, rx_iadd, rx_isub, rx_imul, rx_iand, rx_ixor, rx_ishr, rx_idiv, rx_irem, rx_ladd, rx_lsub, rx_land, rx_lor, rx_lxor, rx_lmul, rx_ldiv, rx_lrem, rx_lushr, rx_lshl, rx_lshr, rx_lneg, rx_i2l, rx_l2i, rx_i2b, rx_lcmp, rx_dup_i, rx_dup_a, rx_pop_i, rx_pop_a, rx_if_eq, rx_if_ne, rx_if_lt, rx_if_ge, rx_if_gt, rx_if_le, rx_icmp_eq, rx_icmp_ne, rx_icmp_lt, rx_icmp_ge, rx_icmp_gt, rx_icmp_le, rx_goto, rx_tsw, rx_ireturn, rx_lreturn, rx_return_, rx_getfield, rx_putfield, rx_invokevirtual, rx_invokespecial, rx_invokestatic, rx_ldc, rx_ldc2_w, rx_iaload, rx_iastore, rx_baload, rx_bastore, Nat.reduceBEq, Nat.reduceAdd, Nat.reduceSub, Nat.reduceMul, Nat.reduceLeDiff, Nat.reduceEqDiff, Nat.reduceLT, Int.reduceLT, Int.reduceLE, Int.reduceNeg, Int.reduceToNat, Int.reduceAdd, Fin.isValue, Fin.val_zero, Fin.val_one, Fin.reduceFinMk, Fin.val_ofNat, Bool.or_true, Bool.true_or, Bool.or_false, Bool.false_or, Bool.and_true, Bool.true_and, Bool.and_false, Bool.false_and, cond_true, cond_false, ↓reduceIte, eq_self, ne_eq, not_true_eq_false, not_false_eq_true, true_and, and_true, Option.toList_some, Option.toList_none, List.cons_append, List.nil_append, Option.some.injEq, Value.int.injEq, Value.long.injEq, rx_l0, rx_l1, rx_fv0, rx_fv1, rx_fv2, rx_fv3, nI_c1, nI_c2, nI_c4, nI_c8, nI_c9, nI_c24, nI_c64, Nat.le_refl, bI_z, bI_0, bI_1, Classical.not_not, lg_cmp_ge, lg_cmp_le, lg_cmp_gt, lg_cmp_lt, lg_cmp_eq]
      simp (disch := omega) only [nI_clamp, lN_i, nI_8]
      exact ⟨vp_in_nI (by omega) (by decide), trivial⟩)
  · cases hf
def pX4_hasBytes : rx_P := [(0, .aload_n 0, 0), (1, .aload_n 0, 0), (2, .iload_n 1, 0), (3, .invokevirtual 50, 0), (6, .iconst 4, 0), (7, .iadd, 0), (8, .invokevirtual 30, 0), (11, .lconst 0, 0), (12, .lcmp, 0), (13, .ifCond .eq 25, 38), (16, .aload_n 0, 0), (17, .aload_n 0, 0), (18, .iload_n 1, 0), (19, .invokevirtual 50, 0), (22, .iconst 4, 0), (23, .iadd, 0), (24, .invokevirtual 30, 0), (27, .ldc2_w 53, 0), (30, .lcmp, 0), (31, .ifCond .eq 7, 38), (34, .iconst 1, 0), (35, .goto 4, 39), (38, .iconst 0, 0), (39, .ireturn, 0)]
theorem pX4_hasBytes_ok : ∀ q ∈ pX4_hasBytes, rx_ok cX4_hasBytes q := rx_ok_all (by decide +kernel)
abbrev rX4_hasBytes : Room := { frames := 3, cells := 0, slots := 0, locals := 63 }
noncomputable def fX4_hasBytes : rx_F mS := fun w as => match as with
  | [.int k] => some (t6 w.1 ∧ nI k.toNatClampNeg = k ∧ k.toNatClampNeg < sC w.1, w, some (.int (bI (¬ kd w.1 k.toNatClampNeg = 0 ∧ ¬ kd w.1 k.toNatClampNeg = 8))))
  | _ => none
noncomputable def eX4_hasBytes (am : Nat → Nat) : rx_E mS := rx_any [rx_hV 50 1 (am 0) fX4_sectionAt, rx_hV 30 1 (am 0) fX4_four, rx_hL 53 (lN 8)]
set_option maxHeartbeats 4000000 in
set_option maxRecDepth 100000 in
theorem eo_X4_hasBytes (l : Launch) (D : va_G) (am : Nat → Nat) (cI cZ : ClassId) : ∀ (p : Program) (e : Env) (s : State) (m : MethodId) (args : Array Value) (below : List Frame) (meth : Method) (c : Code) (Qw : State → Prop), CallFix p m c cX4_hasBytes 2 s args (Cond.code yX4_hasBytes cX4_hasBytes 2 (some .boolean) :: wsA) RX4 → mK D cI cZ s → rx_Eok (fun H locs g => W p l e rX4_hasBytes s m args below meth c H locs 0 0 Qw g) m cX4_hasBytes 2 (tr_I D vwCl (mA am) s (mW am cI cZ)) (eX4_hasBytes am) := by
  intro p e s m args below meth c Qw S hK
  have ht : ∀ w ∈ wsA, w.before args s = true := fun w h => S.2.2.2.2 w (wsA_in h)
  exact rx_any_c (rx_hV_ok S ⟨Nat.zero_le _, Nat.zero_le _⟩ mK_tr hK (cwV 1 S.2.2.2.2 (wsA_V wkX4_50 wiX4_sectionAt weX4_sectionAt winiX4 wX4_sectionAt) rfl rfl rfl (by decide +kernel) ⟨by decide, by decide⟩) (ct_X4_sectionAt l D am cI cZ) (fun w H hP => va_recv hK.1 hP (rfl : vwCl[4]? = some (RX4, TX4, 7)) (rfl : (mW am cI cZ w)[0]? = some _))) (rx_any_c (rx_hV_ok S ⟨Nat.zero_le _, Nat.zero_le _⟩ mK_tr hK (cwV 1 S.2.2.2.2 (wsA_V wkX4_30 wiX4_four weX4_four winiX4 wX4_four) rfl rfl rfl (by decide +kernel) ⟨by decide, by decide⟩) (ct_X4_four l D am cI cZ) (fun w H hP => va_recv hK.1 hP (rfl : vwCl[4]? = some (RX4, TX4, 7)) (rfl : (mW am cI cZ w)[0]? = some _))) (rx_any_c (rx_hL_ok S (ht _ wcX4_53)) (rx_any_0)))
set_option maxHeartbeats 4000000 in
set_option maxRecDepth 100000 in
theorem ct_X4_hasBytes (l : Launch) (D : va_G) (am : Nat → Nat) (cI cZ : ClassId) : ctM l yX4_hasBytes cX4_hasBytes 2 (some .boolean) rX4_hasBytes D am cI cZ [.ref (am 0)] fX4_hasBytes := by
  intro w as g w1 r hf hg
  unfold fX4_hasBytes at hf
  split at hf
  · next k =>
    cases hf
    exact tr_of rx_nc 0 200 0 (by decide) rfl rfl (Nat.le_of_ble_eq_true rfl) pX4_hasBytes_ok (rt_z _) (eo_X4_hasBytes l D am cI cZ) (fun pc g h => by cases h) (by
      simp only [pX4_hasBytes, eX4_hasBytes, fX4_four, fX4_sectionAt, rx_n, rx_s, rx_to, rx_get, rx_f1, rx_f2, rx_two, rx_ext, rx_any, rx_hV, rx_hS, rx_hG, rx_hP, rx_hAi, rx_hAb, rx_hBb, rx_hBi, rx_hBp, rx_hL, rx_hLi, rx_got, rx_pop, rx_sum, rx_len, rx_c, rx_m1, lv_args, Value.category, rx_cut_n, rx_cut_m0, rx_cut_m1, rx_iconst, rx_bipush, rx_sipush, rx_lconst, rx_iload_n, rx_iload, rx_lload_n, rx_lload, rx_aload_n, rx_aload, rx_istore_n, rx_istore, rx_lstore_n, rx_lstore, rx_astore_n, rx_astore, rx_iinc, rx_iadd, rx_isub, rx_imul, rx_iand, rx_ixor, rx_ishr, rx_idiv, rx_irem, rx_ladd, rx_lsub, rx_land, rx_lor, rx_lxor, rx_lmul, rx_ldiv, rx_lrem, rx_lushr, rx_lshl, rx_lshr, rx_lneg, rx_i2l, rx_l2i, rx_i2b, rx_lcmp, rx_dup_i, rx_dup_a, rx_pop_i, rx_pop_a, rx_if_eq, rx_if_ne, rx_if_lt, rx_if_ge, rx_if_gt, rx_if_le, rx_icmp_eq, rx_icmp_ne, rx_icmp_lt, rx_icmp_ge, rx_icmp_gt, rx_icmp_le, rx_goto, rx_tsw, rx_ireturn, rx_lreturn, rx_return_, rx_getfield, rx_putfield, rx_invokevirtual, rx_invokespecial, rx_invokestatic, rx_ldc, rx_ldc2_w, rx_iaload, rx_iastore, rx_baload, rx_bastore, Nat.reduceBEq, Nat.reduceAdd, Nat.reduceSub, Nat.reduceMul, Nat.reduceLeDiff, Nat.reduceEqDiff, Nat.reduceLT, Int.reduceLT, Int.reduceLE, Int.reduceNeg, Int.reduceToNat, Int.reduceAdd, Fin.isValue, Fin.val_zero, Fin.val_one, Fin.reduceFinMk, Fin.val_ofNat, Bool.or_true, Bool.true_or, Bool.or_false, Bool.false_or, Bool.and_true, Bool.true_and, Bool.and_false, Bool.false_and, cond_true, cond_false, ↓reduceIte, eq_self, ne_eq, not_true_eq_false, not_false_eq_true, true_and, and_true, Option.toList_some, Option.toList_none, List.cons_append, List.nil_append, Option.some.injEq, Value.int.injEq, Value.long.injEq, rx_l0, rx_l1, rx_fv0, rx_fv1, rx_fv2, rx_fv3, nI_c1, nI_c2, nI_c4, nI_c8, nI_c9, nI_c24, nI_c64, Nat.le_refl, bI_z, bI_0, bI_1, Classical.not_not, lg_cmp_ge, lg_cmp_le, lg_cmp_gt, lg_cmp_lt, lg_cmp_eq]
      obtain ⟨h6, hk, hl⟩ := hg
      generalize k.toNatClampNeg = K at hk hl ⊢
      subst hk
      have hB := bn_le w.1
      have hA := t6_sA h6 hl
      have e : nI (bl w.1 40 8) + nI 64 * nI K = nI (sA w.1 K) := by unfold sA; rw [pk_mul, nI_add]
      try rw [e]
      have h4 : kd w.1 K < 4294967296 := bl_q4 w.1 _
      simp (disch := omega) only [nI_add, nI_clamp]
      rw [show bl w.1 (sA w.1 K + 4) 4 = kd w.1 K from rfl, pk_lEQ (b := 0) (by omega) (by omega), pk_lEQ (b := 8) (by omega) (by omega)]
      exact ⟨vp_in_nI (by omega) (by decide), fun a q => q.1 a, fun a => ⟨vp_in_nI (by omega) (by decide), fun b q => q.2 b, fun b => ⟨a, b⟩⟩⟩)
  · cases hf
def pX4_placeOf : rx_P := [(0, .aload_n 0, 0), (1, .aload_n 0, 0), (2, .iload_n 1, 0), (3, .invokevirtual 50, 0), (6, .bipush 24, 0), (8, .iadd, 0), (9, .invokevirtual 30, 0), (12, .l2i, 0), (13, .ireturn, 0)]
theorem pX4_placeOf_ok : ∀ q ∈ pX4_placeOf, rx_ok cX4_placeOf q := rx_ok_all (by decide +kernel)
abbrev rX4_placeOf : Room := { frames := 3, cells := 0, slots := 0, locals := 63 }
noncomputable def fX4_placeOf : rx_F mS := fun w as => match as with
  | [.int k] => some (t6 w.1 ∧ nI k.toNatClampNeg = k ∧ k.toNatClampNeg < sC w.1, w, some (.int (nI (rP w.1 k.toNatClampNeg))))
  | _ => none
noncomputable def eX4_placeOf (am : Nat → Nat) : rx_E mS := rx_any [rx_hV 50 1 (am 0) fX4_sectionAt, rx_hV 30 1 (am 0) fX4_four]
set_option maxHeartbeats 4000000 in
set_option maxRecDepth 100000 in
theorem eo_X4_placeOf (l : Launch) (D : va_G) (am : Nat → Nat) (cI cZ : ClassId) : ∀ (p : Program) (e : Env) (s : State) (m : MethodId) (args : Array Value) (below : List Frame) (meth : Method) (c : Code) (Qw : State → Prop), CallFix p m c cX4_placeOf 2 s args (Cond.code yX4_placeOf cX4_placeOf 2 (some .int) :: wsA) RX4 → mK D cI cZ s → rx_Eok (fun H locs g => W p l e rX4_placeOf s m args below meth c H locs 0 0 Qw g) m cX4_placeOf 2 (tr_I D vwCl (mA am) s (mW am cI cZ)) (eX4_placeOf am) := by
  intro p e s m args below meth c Qw S hK
  have ht : ∀ w ∈ wsA, w.before args s = true := fun w h => S.2.2.2.2 w (wsA_in h)
  exact rx_any_c (rx_hV_ok S ⟨Nat.zero_le _, Nat.zero_le _⟩ mK_tr hK (cwV 1 S.2.2.2.2 (wsA_V wkX4_50 wiX4_sectionAt weX4_sectionAt winiX4 wX4_sectionAt) rfl rfl rfl (by decide +kernel) ⟨by decide, by decide⟩) (ct_X4_sectionAt l D am cI cZ) (fun w H hP => va_recv hK.1 hP (rfl : vwCl[4]? = some (RX4, TX4, 7)) (rfl : (mW am cI cZ w)[0]? = some _))) (rx_any_c (rx_hV_ok S ⟨Nat.zero_le _, Nat.zero_le _⟩ mK_tr hK (cwV 1 S.2.2.2.2 (wsA_V wkX4_30 wiX4_four weX4_four winiX4 wX4_four) rfl rfl rfl (by decide +kernel) ⟨by decide, by decide⟩) (ct_X4_four l D am cI cZ) (fun w H hP => va_recv hK.1 hP (rfl : vwCl[4]? = some (RX4, TX4, 7)) (rfl : (mW am cI cZ w)[0]? = some _))) (rx_any_0))
set_option maxHeartbeats 4000000 in
set_option maxRecDepth 100000 in
theorem ct_X4_placeOf (l : Launch) (D : va_G) (am : Nat → Nat) (cI cZ : ClassId) : ctM l yX4_placeOf cX4_placeOf 2 (some .int) rX4_placeOf D am cI cZ [.ref (am 0)] fX4_placeOf := by
  intro w as g w1 r hf hg
  unfold fX4_placeOf at hf
  split at hf
  · next k =>
    cases hf
    exact tr_of rx_nc 0 200 0 (by decide) rfl rfl (Nat.le_of_ble_eq_true rfl) pX4_placeOf_ok (rt_i _) (eo_X4_placeOf l D am cI cZ) (fun pc g h => by cases h) (by
      simp only [pX4_placeOf, eX4_placeOf, fX4_four, fX4_sectionAt, rx_n, rx_s, rx_to, rx_get, rx_f1, rx_f2, rx_two, rx_ext, rx_any, rx_hV, rx_hS, rx_hG, rx_hP, rx_hAi, rx_hAb, rx_hBb, rx_hBi, rx_hBp, rx_hL, rx_hLi, rx_got, rx_pop, rx_sum, rx_len, rx_c, rx_m1, lv_args, Value.category, rx_cut_n, rx_cut_m0, rx_cut_m1, rx_iconst, rx_bipush, rx_sipush, rx_lconst, rx_iload_n, rx_iload, rx_lload_n, rx_lload, rx_aload_n, rx_aload, rx_istore_n, rx_istore, rx_lstore_n, rx_lstore, rx_astore_n, rx_astore, rx_iinc, rx_iadd, rx_isub, rx_imul, rx_iand, rx_ixor, rx_ishr, rx_idiv, rx_irem, rx_ladd, rx_lsub, rx_land, rx_lor, rx_lxor, rx_lmul, rx_ldiv, rx_lrem, rx_lushr, rx_lshl, rx_lshr, rx_lneg, rx_i2l, rx_l2i, rx_i2b, rx_lcmp, rx_dup_i, rx_dup_a, rx_pop_i, rx_pop_a, rx_if_eq, rx_if_ne, rx_if_lt, rx_if_ge, rx_if_gt, rx_if_le, rx_icmp_eq, rx_icmp_ne, rx_icmp_lt, rx_icmp_ge, rx_icmp_gt, rx_icmp_le, rx_goto, rx_tsw, rx_ireturn, rx_lreturn, rx_return_, rx_getfield, rx_putfield, rx_invokevirtual, rx_invokespecial, rx_invokestatic, rx_ldc, rx_ldc2_w, rx_iaload, rx_iastore, rx_baload, rx_bastore, Nat.reduceBEq, Nat.reduceAdd, Nat.reduceSub, Nat.reduceMul, Nat.reduceLeDiff, Nat.reduceEqDiff, Nat.reduceLT, Int.reduceLT, Int.reduceLE, Int.reduceNeg, Int.reduceToNat, Int.reduceAdd, Fin.isValue, Fin.val_zero, Fin.val_one, Fin.reduceFinMk, Fin.val_ofNat, Bool.or_true, Bool.true_or, Bool.or_false, Bool.false_or, Bool.and_true, Bool.true_and, Bool.and_false, Bool.false_and, cond_true, cond_false, ↓reduceIte, eq_self, ne_eq, not_true_eq_false, not_false_eq_true, true_and, and_true, Option.toList_some, Option.toList_none, List.cons_append, List.nil_append, Option.some.injEq, Value.int.injEq, Value.long.injEq, rx_l0, rx_l1, rx_fv0, rx_fv1, rx_fv2, rx_fv3, nI_c1, nI_c2, nI_c4, nI_c8, nI_c9, nI_c24, nI_c64, Nat.le_refl, bI_z, bI_0, bI_1, Classical.not_not, lg_cmp_ge, lg_cmp_le, lg_cmp_gt, lg_cmp_lt, lg_cmp_eq]
      obtain ⟨h6, hk, hl⟩ := hg
      generalize k.toNatClampNeg = K at hk hl ⊢
      subst hk
      have hB := bn_le w.1
      have hA := t6_sA h6 hl
      have e : nI (bl w.1 40 8) + nI 64 * nI K = nI (sA w.1 K) := by unfold sA; rw [pk_mul, nI_add]
      try rw [e]
      simp (disch := omega) only [nI_add, nI_clamp, lN_i]
      exact ⟨vp_in_nI (by omega) (by decide), nI_8 w.1 _⟩)
  · cases hf
def pX4_lengthOf : rx_P := [(0, .aload_n 0, 0), (1, .iload_n 1, 0), (2, .invokevirtual 55, 0), (5, .ifCond .eq 19, 24), (8, .aload_n 0, 0), (9, .aload_n 0, 0), (10, .iload_n 1, 0), (11, .invokevirtual 50, 0), (14, .bipush 32, 0), (16, .iadd, 0), (17, .invokevirtual 30, 0), (20, .l2i, 0), (21, .goto 4, 25), (24, .iconst 0, 0), (25, .ireturn, 0)]
theorem pX4_lengthOf_ok : ∀ q ∈ pX4_lengthOf, rx_ok cX4_lengthOf q := rx_ok_all (by decide +kernel)
abbrev rX4_lengthOf : Room := { frames := 4, cells := 0, slots := 0, locals := 84 }
noncomputable def fX4_lengthOf : rx_F mS := fun w as => match as with
  | [.int k] => some (t6 w.1 ∧ nI k.toNatClampNeg = k ∧ k.toNatClampNeg < sC w.1, w, some (.int (nI (rL w.1 k.toNatClampNeg))))
  | _ => none
noncomputable def eX4_lengthOf (am : Nat → Nat) : rx_E mS := rx_any [rx_hV 55 1 (am 0) fX4_hasBytes, rx_hV 50 1 (am 0) fX4_sectionAt, rx_hV 30 1 (am 0) fX4_four]
set_option maxHeartbeats 4000000 in
set_option maxRecDepth 100000 in
theorem eo_X4_lengthOf (l : Launch) (D : va_G) (am : Nat → Nat) (cI cZ : ClassId) : ∀ (p : Program) (e : Env) (s : State) (m : MethodId) (args : Array Value) (below : List Frame) (meth : Method) (c : Code) (Qw : State → Prop), CallFix p m c cX4_lengthOf 2 s args (Cond.code yX4_lengthOf cX4_lengthOf 2 (some .int) :: wsA) RX4 → mK D cI cZ s → rx_Eok (fun H locs g => W p l e rX4_lengthOf s m args below meth c H locs 0 0 Qw g) m cX4_lengthOf 2 (tr_I D vwCl (mA am) s (mW am cI cZ)) (eX4_lengthOf am) := by
  intro p e s m args below meth c Qw S hK
  have ht : ∀ w ∈ wsA, w.before args s = true := fun w h => S.2.2.2.2 w (wsA_in h)
  exact rx_any_c (rx_hV_ok S ⟨Nat.zero_le _, Nat.zero_le _⟩ mK_tr hK (cwV 1 S.2.2.2.2 (wsA_V wkX4_55 wiX4_hasBytes weX4_hasBytes winiX4 wX4_hasBytes) rfl rfl rfl (by decide +kernel) ⟨by decide, by decide⟩) (ct_X4_hasBytes l D am cI cZ) (fun w H hP => va_recv hK.1 hP (rfl : vwCl[4]? = some (RX4, TX4, 7)) (rfl : (mW am cI cZ w)[0]? = some _))) (rx_any_c (rx_hV_ok S ⟨Nat.zero_le _, Nat.zero_le _⟩ mK_tr hK (cwV 1 S.2.2.2.2 (wsA_V wkX4_50 wiX4_sectionAt weX4_sectionAt winiX4 wX4_sectionAt) rfl rfl rfl (by decide +kernel) ⟨by decide, by decide⟩) (ct_X4_sectionAt l D am cI cZ) (fun w H hP => va_recv hK.1 hP (rfl : vwCl[4]? = some (RX4, TX4, 7)) (rfl : (mW am cI cZ w)[0]? = some _))) (rx_any_c (rx_hV_ok S ⟨Nat.zero_le _, Nat.zero_le _⟩ mK_tr hK (cwV 1 S.2.2.2.2 (wsA_V wkX4_30 wiX4_four weX4_four winiX4 wX4_four) rfl rfl rfl (by decide +kernel) ⟨by decide, by decide⟩) (ct_X4_four l D am cI cZ) (fun w H hP => va_recv hK.1 hP (rfl : vwCl[4]? = some (RX4, TX4, 7)) (rfl : (mW am cI cZ w)[0]? = some _))) (rx_any_0)))
set_option maxHeartbeats 4000000 in
set_option maxRecDepth 100000 in
theorem ct_X4_lengthOf (l : Launch) (D : va_G) (am : Nat → Nat) (cI cZ : ClassId) : ctM l yX4_lengthOf cX4_lengthOf 2 (some .int) rX4_lengthOf D am cI cZ [.ref (am 0)] fX4_lengthOf := by
  intro w as g w1 r hf hg
  unfold fX4_lengthOf at hf
  split at hf
  · next k =>
    cases hf
    exact tr_of rx_nc 0 200 0 (by decide) rfl rfl (Nat.le_of_ble_eq_true rfl) pX4_lengthOf_ok (rt_i _) (eo_X4_lengthOf l D am cI cZ) (fun pc g h => by cases h) (by
      simp only [pX4_lengthOf, eX4_lengthOf, fX4_four, fX4_hasBytes, fX4_sectionAt, rx_n, rx_s, rx_to, rx_get, rx_f1, rx_f2, rx_two, rx_ext, rx_any, rx_hV, rx_hS, rx_hG, rx_hP, rx_hAi, rx_hAb, rx_hBb, rx_hBi, rx_hBp, rx_hL, rx_hLi, rx_got, rx_pop, rx_sum, rx_len, rx_c, rx_m1, lv_args, Value.category, rx_cut_n, rx_cut_m0, rx_cut_m1, rx_iconst, rx_bipush, rx_sipush, rx_lconst, rx_iload_n, rx_iload, rx_lload_n, rx_lload, rx_aload_n, rx_aload, rx_istore_n, rx_istore, rx_lstore_n, rx_lstore, rx_astore_n, rx_astore, rx_iinc, rx_iadd, rx_isub, rx_imul, rx_iand, rx_ixor, rx_ishr, rx_idiv, rx_irem, rx_ladd, rx_lsub, rx_land, rx_lor, rx_lxor, rx_lmul, rx_ldiv, rx_lrem, rx_lushr, rx_lshl, rx_lshr, rx_lneg, rx_i2l, rx_l2i, rx_i2b, rx_lcmp, rx_dup_i, rx_dup_a, rx_pop_i, rx_pop_a, rx_if_eq, rx_if_ne, rx_if_lt, rx_if_ge, rx_if_gt, rx_if_le, rx_icmp_eq, rx_icmp_ne, rx_icmp_lt, rx_icmp_ge, rx_icmp_gt, rx_icmp_le, rx_goto, rx_tsw, rx_ireturn, rx_lreturn, rx_return_, rx_getfield, rx_putfield, rx_invokevirtual, rx_invokespecial, rx_invokestatic, rx_ldc, rx_ldc2_w, rx_iaload, rx_iastore, rx_baload, rx_bastore, Nat.reduceBEq, Nat.reduceAdd, Nat.reduceSub, Nat.reduceMul, Nat.reduceLeDiff, Nat.reduceEqDiff, Nat.reduceLT, Int.reduceLT, Int.reduceLE, Int.reduceNeg, Int.reduceToNat, Int.reduceAdd, Fin.isValue, Fin.val_zero, Fin.val_one, Fin.reduceFinMk, Fin.val_ofNat, Bool.or_true, Bool.true_or, Bool.or_false, Bool.false_or, Bool.and_true, Bool.true_and, Bool.and_false, Bool.false_and, cond_true, cond_false, ↓reduceIte, eq_self, ne_eq, not_true_eq_false, not_false_eq_true, true_and, and_true, Option.toList_some, Option.toList_none, List.cons_append, List.nil_append, Option.some.injEq, Value.int.injEq, Value.long.injEq, rx_l0, rx_l1, rx_fv0, rx_fv1, rx_fv2, rx_fv3, nI_c1, nI_c2, nI_c4, nI_c8, nI_c9, nI_c24, nI_c64, Nat.le_refl, bI_z, bI_0, bI_1, Classical.not_not, lg_cmp_ge, lg_cmp_le, lg_cmp_gt, lg_cmp_lt, lg_cmp_eq]
      obtain ⟨h6, hk, hl⟩ := hg
      generalize k.toNatClampNeg = K at hk hl ⊢
      subst hk
      have hB := bn_le w.1
      have hA := t6_sA h6 hl
      have e : nI (bl w.1 40 8) + nI 64 * nI K = nI (sA w.1 K) := by unfold sA; rw [pk_mul, nI_add]
      try rw [e]
      simp (disch := omega) only [nI_add, nI_clamp, lN_i, nI_8]
      unfold rL
      refine ⟨⟨h6, trivial, hl⟩, fun h => ?_, fun h => ⟨vp_in_nI (by omega) (by decide), ?_⟩⟩
      · rw [if_pos (by omega)]
      · rw [if_neg (by omega)])
  · cases hf
def pX4_isTexts : rx_P := [(0, .lload_n 1, 0), (1, .aload_n 0, 0), (2, .invokevirtual 59, 0), (5, .i2l, 0), (6, .lcmp, 0), (7, .ifCond .ge 26, 33), (10, .aload_n 0, 0), (11, .aload_n 0, 0), (12, .lload_n 1, 0), (13, .l2i, 0), (14, .invokevirtual 50, 0), (17, .iconst 4, 0), (18, .iadd, 0), (19, .invokevirtual 30, 0), (22, .ldc2_w 63, 0), (25, .lcmp, 0), (26, .ifCond .ne 7, 33), (29, .iconst 1, 0), (30, .goto 4, 34), (33, .iconst 0, 0), (34, .ireturn, 0)]
theorem pX4_isTexts_ok : ∀ q ∈ pX4_isTexts, rx_ok cX4_isTexts q := rx_ok_all (by decide +kernel)
abbrev rX4_isTexts : Room := { frames := 3, cells := 0, slots := 0, locals := 63 }
noncomputable def fX4_isTexts : rx_F mS := fun w as => match as with
  | [.long t] => some (t6 w.1 ∧ uN t < 9223372036854775808, w, some (.int (bI (tX w.1 (uN t)))))
  | _ => none
noncomputable def eX4_isTexts (am : Nat → Nat) : rx_E mS := rx_any [rx_hV 59 0 (am 0) fX4_sectionCount, rx_hV 50 1 (am 0) fX4_sectionAt, rx_hV 30 1 (am 0) fX4_four, rx_hL 63 (lN 3)]
set_option maxHeartbeats 4000000 in
set_option maxRecDepth 100000 in
theorem eo_X4_isTexts (l : Launch) (D : va_G) (am : Nat → Nat) (cI cZ : ClassId) : ∀ (p : Program) (e : Env) (s : State) (m : MethodId) (args : Array Value) (below : List Frame) (meth : Method) (c : Code) (Qw : State → Prop), CallFix p m c cX4_isTexts 3 s args (Cond.code yX4_isTexts cX4_isTexts 3 (some .boolean) :: wsA) RX4 → mK D cI cZ s → rx_Eok (fun H locs g => W p l e rX4_isTexts s m args below meth c H locs 0 0 Qw g) m cX4_isTexts 3 (tr_I D vwCl (mA am) s (mW am cI cZ)) (eX4_isTexts am) := by
  intro p e s m args below meth c Qw S hK
  have ht : ∀ w ∈ wsA, w.before args s = true := fun w h => S.2.2.2.2 w (wsA_in h)
  exact rx_any_c (rx_hV_ok S ⟨Nat.zero_le _, Nat.zero_le _⟩ mK_tr hK (cwV 0 S.2.2.2.2 (wsA_V wkX4_59 wiX4_sectionCount weX4_sectionCount winiX4 wX4_sectionCount) rfl rfl rfl (by decide +kernel) ⟨by decide, by decide⟩) (ct_X4_sectionCount l D am cI cZ) (fun w H hP => va_recv hK.1 hP (rfl : vwCl[4]? = some (RX4, TX4, 7)) (rfl : (mW am cI cZ w)[0]? = some _))) (rx_any_c (rx_hV_ok S ⟨Nat.zero_le _, Nat.zero_le _⟩ mK_tr hK (cwV 1 S.2.2.2.2 (wsA_V wkX4_50 wiX4_sectionAt weX4_sectionAt winiX4 wX4_sectionAt) rfl rfl rfl (by decide +kernel) ⟨by decide, by decide⟩) (ct_X4_sectionAt l D am cI cZ) (fun w H hP => va_recv hK.1 hP (rfl : vwCl[4]? = some (RX4, TX4, 7)) (rfl : (mW am cI cZ w)[0]? = some _))) (rx_any_c (rx_hV_ok S ⟨Nat.zero_le _, Nat.zero_le _⟩ mK_tr hK (cwV 1 S.2.2.2.2 (wsA_V wkX4_30 wiX4_four weX4_four winiX4 wX4_four) rfl rfl rfl (by decide +kernel) ⟨by decide, by decide⟩) (ct_X4_four l D am cI cZ) (fun w H hP => va_recv hK.1 hP (rfl : vwCl[4]? = some (RX4, TX4, 7)) (rfl : (mW am cI cZ w)[0]? = some _))) (rx_any_c (rx_hL_ok S (ht _ wcX4_63)) (rx_any_0))))
set_option maxHeartbeats 4000000 in
set_option maxRecDepth 100000 in
theorem ct_X4_isTexts (l : Launch) (D : va_G) (am : Nat → Nat) (cI cZ : ClassId) : ctM l yX4_isTexts cX4_isTexts 3 (some .boolean) rX4_isTexts D am cI cZ [.ref (am 0)] fX4_isTexts := by
  intro w as g w1 r hf hg
  unfold fX4_isTexts at hf
  split at hf
  · next t =>
    cases hf
    exact tr_of rx_nc 0 200 0 (by decide) rfl rfl (Nat.le_of_ble_eq_true rfl) pX4_isTexts_ok (rt_z _) (eo_X4_isTexts l D am cI cZ) (fun pc g h => by cases h) (by
      simp only [pX4_isTexts, eX4_isTexts, fX4_four, fX4_sectionAt, fX4_sectionCount, rx_n, rx_s, rx_to, rx_get, rx_f1, rx_f2, rx_two, rx_ext, rx_any, rx_hV, rx_hS, rx_hG, rx_hP, rx_hAi, rx_hAb, rx_hBb, rx_hBi, rx_hBp, rx_hL, rx_hLi, rx_got, rx_pop, rx_sum, rx_len, rx_c, rx_m1, lv_args, Value.category, rx_cut_n, rx_cut_m0, rx_cut_m1, rx_iconst, rx_bipush, rx_sipush, rx_lconst, rx_iload_n, rx_iload, rx_lload_n, rx_lload, rx_aload_n, rx_aload, rx_istore_n, rx_istore, rx_lstore_n, rx_lstore, rx_astore_n, rx_astore, rx_iinc, rx_iadd, rx_isub, rx_imul, rx_iand, rx_ixor, rx_ishr, rx_idiv, rx_irem, rx_ladd, rx_lsub, rx_land, rx_lor, rx_lxor, rx_lmul, rx_ldiv, rx_lrem, rx_lushr, rx_lshl, rx_lshr, rx_lneg, rx_i2l, rx_l2i, rx_i2b, rx_lcmp, rx_dup_i, rx_dup_a, rx_pop_i, rx_pop_a, rx_if_eq, rx_if_ne, rx_if_lt, rx_if_ge, rx_if_gt, rx_if_le, rx_icmp_eq, rx_icmp_ne, rx_icmp_lt, rx_icmp_ge, rx_icmp_gt, rx_icmp_le, rx_goto, rx_tsw, rx_ireturn, rx_lreturn, rx_return_, rx_getfield, rx_putfield, rx_invokevirtual, rx_invokespecial, rx_invokestatic, rx_ldc, rx_ldc2_w, rx_iaload, rx_iastore, rx_baload, rx_bastore, Nat.reduceBEq, Nat.reduceAdd, Nat.reduceSub, Nat.reduceMul, Nat.reduceLeDiff, Nat.reduceEqDiff, Nat.reduceLT, Int.reduceLT, Int.reduceLE, Int.reduceNeg, Int.reduceToNat, Int.reduceAdd, Fin.isValue, Fin.val_zero, Fin.val_one, Fin.reduceFinMk, Fin.val_ofNat, Bool.or_true, Bool.true_or, Bool.or_false, Bool.false_or, Bool.and_true, Bool.true_and, Bool.and_false, Bool.false_and, cond_true, cond_false, ↓reduceIte, eq_self, ne_eq, not_true_eq_false, not_false_eq_true, true_and, and_true, Option.toList_some, Option.toList_none, List.cons_append, List.nil_append, Option.some.injEq, Value.int.injEq, Value.long.injEq, rx_l0, rx_l1, rx_fv0, rx_fv1, rx_fv2, rx_fv3, nI_c1, nI_c2, nI_c4, nI_c8, nI_c9, nI_c24, nI_c64, Nat.le_refl, bI_z, bI_0, bI_1, Classical.not_not, lg_cmp_ge, lg_cmp_le, lg_cmp_gt, lg_cmp_lt, lg_cmp_eq]
      obtain ⟨h6, ht⟩ := hg
      obtain ⟨T, hT, et⟩ := uN_ex t
      rw [← hT] at ht ⊢
      rw [et, lN_i]
      have hB := bn_le w.1
      have hc := sC_lt w.1
      rw [nI_l (by omega), pk_lLE (by omega) (by omega)]
      refine ⟨fun h q => by have := q.1; omega, fun h => ?_⟩
      have hl : T < sC w.1 := by omega
      have hA := t6_sA h6 hl
      have e : nI (bl w.1 40 8) + nI 64 * nI T = nI (sA w.1 T) := by unfold sA; rw [pk_mul, nI_add]
      have h4 : kd w.1 T < 4294967296 := bl_q4 w.1 _
      rw [e, nI_add, nI_clamp (by omega), show bl w.1 (sA w.1 T + 4) 4 = kd w.1 T from rfl, pk_lEQ (by omega) (by omega)]
      exact ⟨vp_in_nI (by omega) (by decide), fun a q => a q.2, fun a => ⟨hl, a⟩⟩)
  · cases hf
def pX4_countOf : rx_P := [(0, .aload_n 0, 0), (1, .aload_n 0, 0), (2, .iload_n 1, 0), (3, .invokevirtual 50, 0), (6, .iconst 4, 0), (7, .iadd, 0), (8, .invokevirtual 30, 0), (11, .ldc2_w 65, 0), (14, .lcmp, 0), (15, .ifCond .ne 14, 29), (18, .aload_n 0, 0), (19, .iload_n 1, 0), (20, .invokevirtual 67, 0), (23, .bipush 24, 0), (25, .idiv, 0), (26, .goto 4, 30), (29, .iconst 0, 0), (30, .ireturn, 0)]
theorem pX4_countOf_ok : ∀ q ∈ pX4_countOf, rx_ok cX4_countOf q := rx_ok_all (by decide +kernel)
abbrev rX4_countOf : Room := { frames := 5, cells := 0, slots := 0, locals := 105 }
noncomputable def fX4_countOf : rx_F mS := fun w as => match as with
  | [.int k] => some (t9 w.1 ∧ nI k.toNatClampNeg = k ∧ k.toNatClampNeg < sC w.1, w, some (.int (nI (cO w.1 k.toNatClampNeg))))
  | _ => none
noncomputable def eX4_countOf (am : Nat → Nat) : rx_E mS := rx_any [rx_hV 50 1 (am 0) fX4_sectionAt, rx_hV 30 1 (am 0) fX4_four, rx_hL 65 (lN 2), rx_hV 67 1 (am 0) fX4_lengthOf]
set_option maxHeartbeats 4000000 in
set_option maxRecDepth 100000 in
theorem eo_X4_countOf (l : Launch) (D : va_G) (am : Nat → Nat) (cI cZ : ClassId) : ∀ (p : Program) (e : Env) (s : State) (m : MethodId) (args : Array Value) (below : List Frame) (meth : Method) (c : Code) (Qw : State → Prop), CallFix p m c cX4_countOf 2 s args (Cond.code yX4_countOf cX4_countOf 2 (some .int) :: wsA) RX4 → mK D cI cZ s → rx_Eok (fun H locs g => W p l e rX4_countOf s m args below meth c H locs 0 0 Qw g) m cX4_countOf 2 (tr_I D vwCl (mA am) s (mW am cI cZ)) (eX4_countOf am) := by
  intro p e s m args below meth c Qw S hK
  have ht : ∀ w ∈ wsA, w.before args s = true := fun w h => S.2.2.2.2 w (wsA_in h)
  exact rx_any_c (rx_hV_ok S ⟨Nat.zero_le _, Nat.zero_le _⟩ mK_tr hK (cwV 1 S.2.2.2.2 (wsA_V wkX4_50 wiX4_sectionAt weX4_sectionAt winiX4 wX4_sectionAt) rfl rfl rfl (by decide +kernel) ⟨by decide, by decide⟩) (ct_X4_sectionAt l D am cI cZ) (fun w H hP => va_recv hK.1 hP (rfl : vwCl[4]? = some (RX4, TX4, 7)) (rfl : (mW am cI cZ w)[0]? = some _))) (rx_any_c (rx_hV_ok S ⟨Nat.zero_le _, Nat.zero_le _⟩ mK_tr hK (cwV 1 S.2.2.2.2 (wsA_V wkX4_30 wiX4_four weX4_four winiX4 wX4_four) rfl rfl rfl (by decide +kernel) ⟨by decide, by decide⟩) (ct_X4_four l D am cI cZ) (fun w H hP => va_recv hK.1 hP (rfl : vwCl[4]? = some (RX4, TX4, 7)) (rfl : (mW am cI cZ w)[0]? = some _))) (rx_any_c (rx_hL_ok S (ht _ wcX4_65)) (rx_any_c (rx_hV_ok S ⟨Nat.zero_le _, Nat.zero_le _⟩ mK_tr hK (cwV 1 S.2.2.2.2 (wsA_V wkX4_67 wiX4_lengthOf weX4_lengthOf winiX4 wX4_lengthOf) rfl rfl rfl (by decide +kernel) ⟨by decide, by decide⟩) (ct_X4_lengthOf l D am cI cZ) (fun w H hP => va_recv hK.1 hP (rfl : vwCl[4]? = some (RX4, TX4, 7)) (rfl : (mW am cI cZ w)[0]? = some _))) (rx_any_0))))
set_option maxHeartbeats 4000000 in
set_option maxRecDepth 100000 in
theorem ct_X4_countOf (l : Launch) (D : va_G) (am : Nat → Nat) (cI cZ : ClassId) : ctM l yX4_countOf cX4_countOf 2 (some .int) rX4_countOf D am cI cZ [.ref (am 0)] fX4_countOf := by
  intro w as g w1 r hf hg
  unfold fX4_countOf at hf
  split at hf
  · next k =>
    cases hf
    exact tr_of rx_nc 0 200 0 (by decide) rfl rfl (Nat.le_of_ble_eq_true rfl) pX4_countOf_ok (rt_i _) (eo_X4_countOf l D am cI cZ) (fun pc g h => by cases h) (by
      simp only [pX4_countOf, eX4_countOf, fX4_four, fX4_lengthOf, fX4_sectionAt, rx_n, rx_s, rx_to, rx_get, rx_f1, rx_f2, rx_two, rx_ext, rx_any, rx_hV, rx_hS, rx_hG, rx_hP, rx_hAi, rx_hAb, rx_hBb, rx_hBi, rx_hBp, rx_hL, rx_hLi, rx_got, rx_pop, rx_sum, rx_len, rx_c, rx_m1, lv_args, Value.category, rx_cut_n, rx_cut_m0, rx_cut_m1, rx_iconst, rx_bipush, rx_sipush, rx_lconst, rx_iload_n, rx_iload, rx_lload_n, rx_lload, rx_aload_n, rx_aload, rx_istore_n, rx_istore, rx_lstore_n, rx_lstore, rx_astore_n, rx_astore, rx_iinc, rx_iadd, rx_isub, rx_imul, rx_iand, rx_ixor, rx_ishr, rx_idiv, rx_irem, rx_ladd, rx_lsub, rx_land, rx_lor, rx_lxor, rx_lmul, rx_ldiv, rx_lrem, rx_lushr, rx_lshl, rx_lshr, rx_lneg, rx_i2l, rx_l2i, rx_i2b, rx_lcmp, rx_dup_i, rx_dup_a, rx_pop_i, rx_pop_a, rx_if_eq, rx_if_ne, rx_if_lt, rx_if_ge, rx_if_gt, rx_if_le, rx_icmp_eq, rx_icmp_ne, rx_icmp_lt, rx_icmp_ge, rx_icmp_gt, rx_icmp_le, rx_goto, rx_tsw, rx_ireturn, rx_lreturn, rx_return_, rx_getfield, rx_putfield, rx_invokevirtual, rx_invokespecial, rx_invokestatic, rx_ldc, rx_ldc2_w, rx_iaload, rx_iastore, rx_baload, rx_bastore, Nat.reduceBEq, Nat.reduceAdd, Nat.reduceSub, Nat.reduceMul, Nat.reduceLeDiff, Nat.reduceEqDiff, Nat.reduceLT, Int.reduceLT, Int.reduceLE, Int.reduceNeg, Int.reduceToNat, Int.reduceAdd, Fin.isValue, Fin.val_zero, Fin.val_one, Fin.reduceFinMk, Fin.val_ofNat, Bool.or_true, Bool.true_or, Bool.or_false, Bool.false_or, Bool.and_true, Bool.true_and, Bool.and_false, Bool.false_and, cond_true, cond_false, ↓reduceIte, eq_self, ne_eq, not_true_eq_false, not_false_eq_true, true_and, and_true, Option.toList_some, Option.toList_none, List.cons_append, List.nil_append, Option.some.injEq, Value.int.injEq, Value.long.injEq, rx_l0, rx_l1, rx_fv0, rx_fv1, rx_fv2, rx_fv3, nI_c1, nI_c2, nI_c4, nI_c8, nI_c9, nI_c24, nI_c64, Nat.le_refl, bI_z, bI_0, bI_1, Classical.not_not, lg_cmp_ge, lg_cmp_le, lg_cmp_gt, lg_cmp_lt, lg_cmp_eq]
      obtain ⟨h6, hk, hl⟩ := hg
      generalize k.toNatClampNeg = K at hk hl ⊢
      subst hk
      have hB := bn_le w.1
      have hA := t6_sA h6.1 hl
      have e : nI (bl w.1 40 8) + nI 64 * nI K = nI (sA w.1 K) := by unfold sA; rw [pk_mul, nI_add]
      try rw [e]
      have h4 : kd w.1 K < 4294967296 := bl_q4 w.1 _
      have hR := t9_room h6 hl
      simp (disch := omega) only [nI_add, nI_clamp]
      rw [show bl w.1 (sA w.1 K + 4) 4 = kd w.1 K from rfl, pk_lEQ (by omega) (by omega)]
      unfold cO
      refine ⟨vp_in_nI (by omega) (by decide), fun a => by rw [if_neg a], fun a => ⟨⟨h6.1, trivial, hl⟩, by decide, ?_⟩⟩
      rw [if_pos a, pk_div (by omega) (by decide) (by decide)])
  · cases hf
def pX4_symbolAt : rx_P := [(0, .aload_n 0, 0), (1, .iload_n 1, 0), (2, .invokevirtual 70, 0), (5, .bipush 24, 0), (7, .iload_n 2, 0), (8, .imul, 0), (9, .iadd, 0), (10, .ireturn, 0)]
theorem pX4_symbolAt_ok : ∀ q ∈ pX4_symbolAt, rx_ok cX4_symbolAt q := rx_ok_all (by decide +kernel)
abbrev rX4_symbolAt : Room := { frames := 4, cells := 0, slots := 0, locals := 84 }
noncomputable def fX4_symbolAt : rx_F mS := fun w as => match as with
  | [.int k, .int i] => some (t6 w.1 ∧ nI k.toNatClampNeg = k ∧ k.toNatClampNeg < sC w.1, w, some (.int (nI (rP w.1 k.toNatClampNeg) + nI 24 * i)))
  | _ => none
noncomputable def eX4_symbolAt (am : Nat → Nat) : rx_E mS := rx_any [rx_hV 70 1 (am 0) fX4_placeOf]
set_option maxHeartbeats 4000000 in
set_option maxRecDepth 100000 in
theorem eo_X4_symbolAt (l : Launch) (D : va_G) (am : Nat → Nat) (cI cZ : ClassId) : ∀ (p : Program) (e : Env) (s : State) (m : MethodId) (args : Array Value) (below : List Frame) (meth : Method) (c : Code) (Qw : State → Prop), CallFix p m c cX4_symbolAt 3 s args (Cond.code yX4_symbolAt cX4_symbolAt 3 (some .int) :: wsA) RX4 → mK D cI cZ s → rx_Eok (fun H locs g => W p l e rX4_symbolAt s m args below meth c H locs 0 0 Qw g) m cX4_symbolAt 3 (tr_I D vwCl (mA am) s (mW am cI cZ)) (eX4_symbolAt am) := by
  intro p e s m args below meth c Qw S hK
  have ht : ∀ w ∈ wsA, w.before args s = true := fun w h => S.2.2.2.2 w (wsA_in h)
  exact rx_any_c (rx_hV_ok S ⟨Nat.zero_le _, Nat.zero_le _⟩ mK_tr hK (cwV 1 S.2.2.2.2 (wsA_V wkX4_70 wiX4_placeOf weX4_placeOf winiX4 wX4_placeOf) rfl rfl rfl (by decide +kernel) ⟨by decide, by decide⟩) (ct_X4_placeOf l D am cI cZ) (fun w H hP => va_recv hK.1 hP (rfl : vwCl[4]? = some (RX4, TX4, 7)) (rfl : (mW am cI cZ w)[0]? = some _))) (rx_any_0)
set_option maxHeartbeats 4000000 in
set_option maxRecDepth 100000 in
theorem ct_X4_symbolAt (l : Launch) (D : va_G) (am : Nat → Nat) (cI cZ : ClassId) : ctM l yX4_symbolAt cX4_symbolAt 3 (some .int) rX4_symbolAt D am cI cZ [.ref (am 0)] fX4_symbolAt := by
  intro w as g w1 r hf hg
  unfold fX4_symbolAt at hf
  split at hf
  · next k i =>
    cases hf
    exact tr_of rx_nc 0 200 0 (by decide) rfl rfl (Nat.le_of_ble_eq_true rfl) pX4_symbolAt_ok (rt_i _) (eo_X4_symbolAt l D am cI cZ) (fun pc g h => by cases h) (by
      simp only [pX4_symbolAt, eX4_symbolAt, fX4_placeOf, rx_n, rx_s, rx_to, rx_get, rx_f1, rx_f2, rx_two, rx_ext, rx_any, rx_hV, rx_hS, rx_hG, rx_hP, rx_hAi, rx_hAb, rx_hBb, rx_hBi, rx_hBp, rx_hL, rx_hLi, rx_got, rx_pop, rx_sum, rx_len, rx_c, rx_m1, lv_args, Value.category, rx_cut_n, rx_cut_m0, rx_cut_m1, rx_iconst, rx_bipush, rx_sipush, rx_lconst, rx_iload_n, rx_iload, rx_lload_n, rx_lload, rx_aload_n, rx_aload, rx_istore_n, rx_istore, rx_lstore_n, rx_lstore, rx_astore_n, rx_astore, rx_iinc, rx_iadd, rx_isub, rx_imul, rx_iand, rx_ixor, rx_ishr, rx_idiv, rx_irem, rx_ladd, rx_lsub, rx_land, rx_lor, rx_lxor, rx_lmul, rx_ldiv, rx_lrem, rx_lushr, rx_lshl, rx_lshr, rx_lneg, rx_i2l, rx_l2i, rx_i2b, rx_lcmp, rx_dup_i, rx_dup_a, rx_pop_i, rx_pop_a, rx_if_eq, rx_if_ne, rx_if_lt, rx_if_ge, rx_if_gt, rx_if_le, rx_icmp_eq, rx_icmp_ne, rx_icmp_lt, rx_icmp_ge, rx_icmp_gt, rx_icmp_le, rx_goto, rx_tsw, rx_ireturn, rx_lreturn, rx_return_, rx_getfield, rx_putfield, rx_invokevirtual, rx_invokespecial, rx_invokestatic, rx_ldc, rx_ldc2_w, rx_iaload, rx_iastore, rx_baload, rx_bastore, Nat.reduceBEq, Nat.reduceAdd, Nat.reduceSub, Nat.reduceMul, Nat.reduceLeDiff, Nat.reduceEqDiff, Nat.reduceLT, Int.reduceLT, Int.reduceLE, Int.reduceNeg, Int.reduceToNat, Int.reduceAdd, Fin.isValue, Fin.val_zero, Fin.val_one, Fin.reduceFinMk, Fin.val_ofNat, Bool.or_true, Bool.true_or, Bool.or_false, Bool.false_or, Bool.and_true, Bool.true_and, Bool.and_false, Bool.false_and, cond_true, cond_false, ↓reduceIte, eq_self, ne_eq, not_true_eq_false, not_false_eq_true, true_and, and_true, Option.toList_some, Option.toList_none, List.cons_append, List.nil_append, Option.some.injEq, Value.int.injEq, Value.long.injEq, rx_l0, rx_l1, rx_fv0, rx_fv1, rx_fv2, rx_fv3, nI_c1, nI_c2, nI_c4, nI_c8, nI_c9, nI_c24, nI_c64, Nat.le_refl, bI_z, bI_0, bI_1, Classical.not_not, lg_cmp_ge, lg_cmp_le, lg_cmp_gt, lg_cmp_lt, lg_cmp_eq]
      exact hg)
  · cases hf
def pX4_linkOf : rx_P := [(0, .aload_n 0, 0), (1, .aload_n 0, 0), (2, .iload_n 1, 0), (3, .invokevirtual 50, 0), (6, .bipush 40, 0), (8, .iadd, 0), (9, .invokevirtual 30, 0), (12, .l2i, 0), (13, .ireturn, 0)]
theorem pX4_linkOf_ok : ∀ q ∈ pX4_linkOf, rx_ok cX4_linkOf q := rx_ok_all (by decide +kernel)
abbrev rX4_linkOf : Room := { frames := 3, cells := 0, slots := 0, locals := 63 }
noncomputable def fX4_linkOf : rx_F mS := fun w as => match as with
  | [.int k] => some (t6 w.1 ∧ nI k.toNatClampNeg = k ∧ k.toNatClampNeg < sC w.1, w, some (.int (nI (lK w.1 k.toNatClampNeg))))
  | _ => none
noncomputable def eX4_linkOf (am : Nat → Nat) : rx_E mS := rx_any [rx_hV 50 1 (am 0) fX4_sectionAt, rx_hV 30 1 (am 0) fX4_four]
set_option maxHeartbeats 4000000 in
set_option maxRecDepth 100000 in
theorem eo_X4_linkOf (l : Launch) (D : va_G) (am : Nat → Nat) (cI cZ : ClassId) : ∀ (p : Program) (e : Env) (s : State) (m : MethodId) (args : Array Value) (below : List Frame) (meth : Method) (c : Code) (Qw : State → Prop), CallFix p m c cX4_linkOf 2 s args (Cond.code yX4_linkOf cX4_linkOf 2 (some .int) :: wsA) RX4 → mK D cI cZ s → rx_Eok (fun H locs g => W p l e rX4_linkOf s m args below meth c H locs 0 0 Qw g) m cX4_linkOf 2 (tr_I D vwCl (mA am) s (mW am cI cZ)) (eX4_linkOf am) := by
  intro p e s m args below meth c Qw S hK
  have ht : ∀ w ∈ wsA, w.before args s = true := fun w h => S.2.2.2.2 w (wsA_in h)
  exact rx_any_c (rx_hV_ok S ⟨Nat.zero_le _, Nat.zero_le _⟩ mK_tr hK (cwV 1 S.2.2.2.2 (wsA_V wkX4_50 wiX4_sectionAt weX4_sectionAt winiX4 wX4_sectionAt) rfl rfl rfl (by decide +kernel) ⟨by decide, by decide⟩) (ct_X4_sectionAt l D am cI cZ) (fun w H hP => va_recv hK.1 hP (rfl : vwCl[4]? = some (RX4, TX4, 7)) (rfl : (mW am cI cZ w)[0]? = some _))) (rx_any_c (rx_hV_ok S ⟨Nat.zero_le _, Nat.zero_le _⟩ mK_tr hK (cwV 1 S.2.2.2.2 (wsA_V wkX4_30 wiX4_four weX4_four winiX4 wX4_four) rfl rfl rfl (by decide +kernel) ⟨by decide, by decide⟩) (ct_X4_four l D am cI cZ) (fun w H hP => va_recv hK.1 hP (rfl : vwCl[4]? = some (RX4, TX4, 7)) (rfl : (mW am cI cZ w)[0]? = some _))) (rx_any_0))
set_option maxHeartbeats 4000000 in
set_option maxRecDepth 100000 in
theorem ct_X4_linkOf (l : Launch) (D : va_G) (am : Nat → Nat) (cI cZ : ClassId) : ctM l yX4_linkOf cX4_linkOf 2 (some .int) rX4_linkOf D am cI cZ [.ref (am 0)] fX4_linkOf := by
  intro w as g w1 r hf hg
  unfold fX4_linkOf at hf
  split at hf
  · next k =>
    cases hf
    exact tr_of rx_nc 0 200 0 (by decide) rfl rfl (Nat.le_of_ble_eq_true rfl) pX4_linkOf_ok (rt_i _) (eo_X4_linkOf l D am cI cZ) (fun pc g h => by cases h) (by
      simp only [pX4_linkOf, eX4_linkOf, fX4_four, fX4_sectionAt, rx_n, rx_s, rx_to, rx_get, rx_f1, rx_f2, rx_two, rx_ext, rx_any, rx_hV, rx_hS, rx_hG, rx_hP, rx_hAi, rx_hAb, rx_hBb, rx_hBi, rx_hBp, rx_hL, rx_hLi, rx_got, rx_pop, rx_sum, rx_len, rx_c, rx_m1, lv_args, Value.category, rx_cut_n, rx_cut_m0, rx_cut_m1, rx_iconst, rx_bipush, rx_sipush, rx_lconst, rx_iload_n, rx_iload, rx_lload_n, rx_lload, rx_aload_n, rx_aload, rx_istore_n, rx_istore, rx_lstore_n, rx_lstore, rx_astore_n, rx_astore, rx_iinc, rx_iadd, rx_isub, rx_imul, rx_iand, rx_ixor, rx_ishr, rx_idiv, rx_irem, rx_ladd, rx_lsub, rx_land, rx_lor, rx_lxor, rx_lmul, rx_ldiv, rx_lrem, rx_lushr, rx_lshl, rx_lshr, rx_lneg, rx_i2l, rx_l2i, rx_i2b, rx_lcmp, rx_dup_i, rx_dup_a, rx_pop_i, rx_pop_a, rx_if_eq, rx_if_ne, rx_if_lt, rx_if_ge, rx_if_gt, rx_if_le, rx_icmp_eq, rx_icmp_ne, rx_icmp_lt, rx_icmp_ge, rx_icmp_gt, rx_icmp_le, rx_goto, rx_tsw, rx_ireturn, rx_lreturn, rx_return_, rx_getfield, rx_putfield, rx_invokevirtual, rx_invokespecial, rx_invokestatic, rx_ldc, rx_ldc2_w, rx_iaload, rx_iastore, rx_baload, rx_bastore, Nat.reduceBEq, Nat.reduceAdd, Nat.reduceSub, Nat.reduceMul, Nat.reduceLeDiff, Nat.reduceEqDiff, Nat.reduceLT, Int.reduceLT, Int.reduceLE, Int.reduceNeg, Int.reduceToNat, Int.reduceAdd, Fin.isValue, Fin.val_zero, Fin.val_one, Fin.reduceFinMk, Fin.val_ofNat, Bool.or_true, Bool.true_or, Bool.or_false, Bool.false_or, Bool.and_true, Bool.true_and, Bool.and_false, Bool.false_and, cond_true, cond_false, ↓reduceIte, eq_self, ne_eq, not_true_eq_false, not_false_eq_true, true_and, and_true, Option.toList_some, Option.toList_none, List.cons_append, List.nil_append, Option.some.injEq, Value.int.injEq, Value.long.injEq, rx_l0, rx_l1, rx_fv0, rx_fv1, rx_fv2, rx_fv3, nI_c1, nI_c2, nI_c4, nI_c8, nI_c9, nI_c24, nI_c64, Nat.le_refl, bI_z, bI_0, bI_1, Classical.not_not, lg_cmp_ge, lg_cmp_le, lg_cmp_gt, lg_cmp_lt, lg_cmp_eq]
      obtain ⟨h6, hk, hl⟩ := hg
      generalize k.toNatClampNeg = K at hk hl ⊢
      subst hk
      have hB := bn_le w.1
      have hA := t6_sA h6 hl
      have e : nI (bl w.1 40 8) + nI 64 * nI K = nI (sA w.1 K) := by unfold sA; rw [pk_mul, nI_add]
      try rw [e]
      simp (disch := omega) only [nI_add, nI_clamp, lN_i]
      exact ⟨vp_in_nI (by omega) (by decide), rfl⟩)
  · cases hf
