def pX2_badSegment : rx_P := [(0, .aload_n 0, 0), (1, .getfield 15, 0), (4, .invokevirtual 100, 0), (7, .istore_n 1, 0), (8, .iconst 0, 0), (9, .istore_n 2, 0), (10, .iload_n 2, 0), (11, .iload_n 1, 0), (12, .if_icmp .ge 26, 38), (15, .aload_n 0, 0), (16, .aload_n 0, 0), (17, .getfield 15, 0), (20, .iload_n 2, 0), (21, .invokevirtual 124, 0), (24, .invokevirtual 128, 0), (27, .ifCond .ne 5, 32), (30, .iload_n 2, 0), (31, .ireturn, 0), (32, .iinc 2 1, 0), (35, .goto (-25), 10), (38, .iconst (-1), 0), (39, .ireturn, 0)]
theorem pX2_badSegment_ok : ∀ q ∈ pX2_badSegment, rx_ok cX2_badSegment q := rx_ok_all (by decide +kernel)
abbrev rX2_badSegment : Room := { frames := 3, cells := 0, slots := 0, locals := 78 }
noncomputable def fX2_badSegment : rx_F cS := fun w as => match as with
  | [] => some (t6 w.1, w, some (.int (oI (q7 w.1) (gC w.1))))
  | _ => none
noncomputable def eX2_badSegment (ad : Nat → Nat) : rx_E cS := rx_any [rx_hG 15 (ad 3) (fun w => .ref (ad 2)), rx_hV 100 0 (ad 2) fX0_segmentCount, rx_hV 124 1 (ad 2) fX0_segmentStart, rx_hV 128 1 (ad 3) fX2_segmentIsGood]
set_option maxHeartbeats 4000000 in
set_option maxRecDepth 100000 in
theorem eo_X2_badSegment (l : Launch) (D : va_G) (ad : Nat → Nat) (cB : ClassId) : ∀ (p : Program) (e : Env) (s : State) (m : MethodId) (args : Array Value) (below : List Frame) (meth : Method) (c : Code) (Qw : State → Prop), CallFix p m c cX2_badSegment 3 s args (Cond.code yX2_badSegment cX2_badSegment 3 (some .int) :: wsA) RX2 → cK D cB s → rx_Eok (fun H locs g => W p l e rX2_badSegment s m args below meth c H locs 0 0 Qw g) m cX2_badSegment 3 (tr_I D vwCl (cA ad) s (cW ad cB)) (eX2_badSegment ad) := by
  intro p e s m args below meth c Qw S hK
  have ht : ∀ w ∈ wsA, w.before args s = true := fun w h => S.2.2.2.2 w (wsA_in h)
  exact rx_any_c (rx_hG_ok (fun w H locs pc ls rest hI hd k => va_get (D := D) (ci := 2) (C := RX2) (T := TX2) (N := 3) S.1 S.2.1 ht inX2 S.2.2.2.1 hK.1 hI.1 3 rfl rfl 1 (by decide) (ht _ wfX2_15) (fun _ h9 => h9) rfl hd k)) (rx_any_c (rx_hV_ok S ⟨Nat.zero_le _, Nat.zero_le _⟩ cK_tr hK (cwV 0 S.2.2.2.2 (wsA_V wkX2_100 wiX0_segmentCount weX0_segmentCount winiX0 wX0_segmentCount) rfl rfl rfl (by decide +kernel) ⟨by decide, by decide⟩) (ct_X0_segmentCount l D ad cB) (fun w H hP => va_recv hK.1 hP (rfl : vwCl[0]? = some (RX0, TX0, 1)) (rfl : (cW ad cB w)[2]? = some _))) (rx_any_c (rx_hV_ok S ⟨Nat.zero_le _, Nat.zero_le _⟩ cK_tr hK (cwV 1 S.2.2.2.2 (wsA_V wkX2_124 wiX0_segmentStart weX0_segmentStart winiX0 wX0_segmentStart) rfl rfl rfl (by decide +kernel) ⟨by decide, by decide⟩) (ct_X0_segmentStart l D ad cB) (fun w H hP => va_recv hK.1 hP (rfl : vwCl[0]? = some (RX0, TX0, 1)) (rfl : (cW ad cB w)[2]? = some _))) (rx_any_c (rx_hV_ok S ⟨Nat.zero_le _, Nat.zero_le _⟩ cK_tr hK (cwV 1 S.2.2.2.2 (wsA_V wkX2_128 wiX2_segmentIsGood weX2_segmentIsGood winiX2 wX2_segmentIsGood) rfl rfl rfl (by decide +kernel) ⟨by decide, by decide⟩) (ct_X2_segmentIsGood l D ad cB) (fun w H hP => va_recv hK.1 hP (rfl : vwCl[2]? = some (RX2, TX2, 3)) (rfl : (cW ad cB w)[3]? = some _))) (rx_any_0))))
set_option maxHeartbeats 4000000 in
set_option maxRecDepth 100000 in
theorem ct_X2_badSegment (l : Launch) (D : va_G) (ad : Nat → Nat) (cB : ClassId) : ctC l yX2_badSegment cX2_badSegment 3 (some .int) rX2_badSegment D ad cB [.ref (ad 3)] fX2_badSegment := by
  intro w as g w1 r hf hg
  unfold fX2_badSegment at hf
  split at hf
  · cases hf
    refine tr_of (rx_1c 10 (fun u w0 lv => w0 = w ∧ ∃ k, k ≤ gC w.1 ∧ u = gC w.1 - k ∧ (∀ i, i < k → ¬ q7 w.1 i) ∧ lv = [(0, .ref (ad 3)), (1, .int (nI (gC w.1))), (2, .int (nI k))])) 200 200 10000 (by decide) rfl rfl (Nat.le_of_ble_eq_true rfl) pX2_badSegment_ok (rt_i _) (eo_X2_badSegment l D ad cB) ?_ ?_
    · intro pc g0 hpc u w0 lv hinv
      have hh := rx_1c_of hpc
      clear hpc
      obtain ⟨rfl, rfl⟩ := hh
      obtain ⟨rfl, k, hk, rfl, hz, rfl⟩ := hinv
      have hc := gC_lt w0.1
      simp only [pX2_badSegment, eX2_badSegment, fX0_segmentCount, fX0_segmentStart, fX2_segmentIsGood, rx_n, rx_s, rx_to, rx_get, rx_f1, rx_f2, rx_two, rx_ext, rx_any, rx_hV, rx_hS, rx_hG, rx_hP, rx_hAi, rx_hAb, rx_hL, rx_hLi, rx_got, rx_pop, rx_sum, rx_len, rx_c, rx_m1, lv_args, Value.category, rx_cut_n, rx_cut_1, rx_iconst, rx_bipush, rx_sipush, rx_lconst, rx_iload_n, rx_iload, rx_lload_n, rx_lload, rx_aload_n, rx_aload, rx_istore_n, rx_istore, rx_lstore_n, rx_lstore, rx_astore_n, rx_astore, rx_iinc, rx_iadd, rx_isub, rx_imul, rx_iand, rx_ixor, rx_ishr, rx_idiv, rx_irem, rx_ladd, rx_lsub, rx_land, rx_lor, rx_lxor, rx_lmul, rx_ldiv, rx_lrem, rx_lushr, rx_lshl, rx_lshr, rx_lneg, rx_i2l, rx_l2i, rx_i2b, rx_lcmp, rx_dup_i, rx_dup_a, rx_pop_i, rx_pop_a, rx_if_eq, rx_if_ne, rx_if_lt, rx_if_ge, rx_if_gt, rx_if_le, rx_icmp_eq, rx_icmp_ne, rx_icmp_lt, rx_icmp_ge, rx_icmp_gt, rx_icmp_le, rx_goto, rx_tsw, rx_ireturn, rx_lreturn, rx_return_, rx_getfield, rx_putfield, rx_invokevirtual, rx_invokespecial, rx_invokestatic, rx_ldc, rx_ldc2_w, rx_iaload, rx_iastore, rx_baload, rx_bastore, Nat.reduceBEq, Nat.reduceAdd, Nat.reduceSub, Nat.reduceMul, Nat.reduceLeDiff, Nat.reduceEqDiff, Nat.reduceLT, Int.reduceLT, Int.reduceLE, Int.reduceNeg, Int.reduceToNat, Int.reduceAdd, Fin.isValue, Fin.val_zero, Fin.val_one, Fin.reduceFinMk, Fin.val_ofNat, Bool.or_true, Bool.true_or, Bool.or_false, Bool.false_or, Bool.and_true, Bool.true_and, Bool.and_false, Bool.false_and, cond_true, cond_false, ↓reduceIte, eq_self, ne_eq, not_true_eq_false, not_false_eq_true, true_and, and_true, Option.toList_some, Option.toList_none, List.cons_append, List.nil_append, Option.some.injEq, Value.int.injEq, Value.long.injEq, rx_l0, rx_l1, rx_fv0, rx_fv1, rx_fv2, rx_fv3, nI_c1, nI_c2, nI_c4, nI_c8, nI_c9, nI_c24, nI_c64, Nat.le_refl, bI_z, bI_0, bI_1, Classical.not_not, lg_cmp_ge, lg_cmp_le, lg_cmp_gt, lg_cmp_lt, lg_cmp_eq]
      rw [nI_leI (by omega) (by omega)]
      refine ⟨fun h => (oI_none fun i hi => hz i (by omega)).symm, fun h => ?_⟩
      have hk2 : k < gC w0.1 := by omega
      have next : nI k + nI 1 = nI (k + 1) := nI_add k 1
      
      have hA := t6_gA hg hk2
      simp (disch := omega) only [t6_gS hg, nm_at]
      refine ⟨fun h2 => ?_, fun h2 => (oI_some hz h2 hk2).symm⟩
      refine ⟨gC w0.1 - (k + 1), _, by omega, ⟨k + 1, by omega, rfl, lt_s hz (fun q => q h2), rfl⟩, ?_⟩
      simp only [List.mem_cons, List.not_mem_nil, or_false, forall_eq_or_imp, forall_eq, Nat.reduceBEq, cond_true, cond_false, Option.some.injEq, Value.int.injEq, Value.long.injEq, Value.ref.injEq, true_and, and_true]
      exact next
    · simp only [pX2_badSegment, eX2_badSegment, fX0_segmentCount, fX0_segmentStart, fX2_segmentIsGood, rx_n, rx_s, rx_to, rx_get, rx_f1, rx_f2, rx_two, rx_ext, rx_any, rx_hV, rx_hS, rx_hG, rx_hP, rx_hAi, rx_hAb, rx_hL, rx_hLi, rx_got, rx_pop, rx_sum, rx_len, rx_c, rx_m1, lv_args, Value.category, rx_cut_n, rx_cut_1, rx_iconst, rx_bipush, rx_sipush, rx_lconst, rx_iload_n, rx_iload, rx_lload_n, rx_lload, rx_aload_n, rx_aload, rx_istore_n, rx_istore, rx_lstore_n, rx_lstore, rx_astore_n, rx_astore, rx_iinc, rx_iadd, rx_isub, rx_imul, rx_iand, rx_ixor, rx_ishr, rx_idiv, rx_irem, rx_ladd, rx_lsub, rx_land, rx_lor, rx_lxor, rx_lmul, rx_ldiv, rx_lrem, rx_lushr, rx_lshl, rx_lshr, rx_lneg, rx_i2l, rx_l2i, rx_i2b, rx_lcmp, rx_dup_i, rx_dup_a, rx_pop_i, rx_pop_a, rx_if_eq, rx_if_ne, rx_if_lt, rx_if_ge, rx_if_gt, rx_if_le, rx_icmp_eq, rx_icmp_ne, rx_icmp_lt, rx_icmp_ge, rx_icmp_gt, rx_icmp_le, rx_goto, rx_tsw, rx_ireturn, rx_lreturn, rx_return_, rx_getfield, rx_putfield, rx_invokevirtual, rx_invokespecial, rx_invokestatic, rx_ldc, rx_ldc2_w, rx_iaload, rx_iastore, rx_baload, rx_bastore, Nat.reduceBEq, Nat.reduceAdd, Nat.reduceSub, Nat.reduceMul, Nat.reduceLeDiff, Nat.reduceEqDiff, Nat.reduceLT, Int.reduceLT, Int.reduceLE, Int.reduceNeg, Int.reduceToNat, Int.reduceAdd, Fin.isValue, Fin.val_zero, Fin.val_one, Fin.reduceFinMk, Fin.val_ofNat, Bool.or_true, Bool.true_or, Bool.or_false, Bool.false_or, Bool.and_true, Bool.true_and, Bool.and_false, Bool.false_and, cond_true, cond_false, ↓reduceIte, eq_self, ne_eq, not_true_eq_false, not_false_eq_true, true_and, and_true, Option.toList_some, Option.toList_none, List.cons_append, List.nil_append, Option.some.injEq, Value.int.injEq, Value.long.injEq, rx_l0, rx_l1, rx_fv0, rx_fv1, rx_fv2, rx_fv3, nI_c1, nI_c2, nI_c4, nI_c8, nI_c9, nI_c24, nI_c64, Nat.le_refl, bI_z, bI_0, bI_1, Classical.not_not, lg_cmp_ge, lg_cmp_le, lg_cmp_gt, lg_cmp_lt, lg_cmp_eq]
      have h1 := t6_g11 hg
      simp only [t6_gC hg]
      refine ⟨gC w.1, _, by omega, ⟨0, by omega, rfl, lt_0, rfl⟩, ?_⟩
      simp only [List.mem_cons, List.not_mem_nil, or_false, forall_eq_or_imp, forall_eq, Nat.reduceBEq, cond_true, cond_false, Option.some.injEq, Value.int.injEq, Value.long.injEq, Value.ref.injEq, true_and, and_true]
  · cases hf
def pX2_sinkingSegment : rx_P := [(0, .aload_n 0, 0), (1, .getfield 15, 0), (4, .invokevirtual 100, 0), (7, .istore_n 1, 0), (8, .iconst (-1), 0), (9, .istore_n 2, 0), (10, .iconst 0, 0), (11, .istore_n 3, 0), (12, .iload_n 3, 0), (13, .iload_n 1, 0), (14, .if_icmp .ge 51, 65), (17, .aload_n 0, 0), (18, .getfield 15, 0), (21, .iload_n 3, 0), (22, .invokevirtual 124, 0), (25, .istore 4, 0), (27, .aload_n 0, 0), (28, .getfield 15, 0), (31, .iload 4, 0), (33, .invokevirtual 144, 0), (36, .ifCond .eq 23, 59), (39, .iload_n 2, 0), (40, .iconst (-1), 0), (41, .if_icmp .eq 15, 56), (44, .aload_n 0, 0), (45, .iload 4, 0), (47, .iload_n 2, 0), (48, .invokevirtual 147, 0), (51, .ifCond .ne 5, 56), (54, .iload_n 3, 0), (55, .ireturn, 0), (56, .iload 4, 0), (58, .istore_n 2, 0), (59, .iinc 3 1, 0), (62, .goto (-50), 12), (65, .iconst (-1), 0), (66, .ireturn, 0)]
theorem pX2_sinkingSegment_ok : ∀ q ∈ pX2_sinkingSegment, rx_ok cX2_sinkingSegment q := rx_ok_all (by decide +kernel)
abbrev rX2_sinkingSegment : Room := { frames := 2, cells := 0, slots := 0, locals := 53 }
noncomputable def fX2_sinkingSegment : rx_F cS := fun w as => match as with
  | [] => some (t6 w.1, w, some (.int (oI (q8 w.1) (gC w.1))))
  | _ => none
noncomputable def eX2_sinkingSegment (ad : Nat → Nat) : rx_E cS := rx_any [rx_hG 15 (ad 3) (fun w => .ref (ad 2)), rx_hV 100 0 (ad 2) fX0_segmentCount, rx_hV 124 1 (ad 2) fX0_segmentStart, rx_hV 144 1 (ad 2) fX0_isLoaded, rx_hV 147 2 (ad 3) fX2_beginsBehind]
set_option maxHeartbeats 4000000 in
set_option maxRecDepth 100000 in
theorem eo_X2_sinkingSegment (l : Launch) (D : va_G) (ad : Nat → Nat) (cB : ClassId) : ∀ (p : Program) (e : Env) (s : State) (m : MethodId) (args : Array Value) (below : List Frame) (meth : Method) (c : Code) (Qw : State → Prop), CallFix p m c cX2_sinkingSegment 5 s args (Cond.code yX2_sinkingSegment cX2_sinkingSegment 5 (some .int) :: wsA) RX2 → cK D cB s → rx_Eok (fun H locs g => W p l e rX2_sinkingSegment s m args below meth c H locs 0 0 Qw g) m cX2_sinkingSegment 5 (tr_I D vwCl (cA ad) s (cW ad cB)) (eX2_sinkingSegment ad) := by
  intro p e s m args below meth c Qw S hK
  have ht : ∀ w ∈ wsA, w.before args s = true := fun w h => S.2.2.2.2 w (wsA_in h)
  exact rx_any_c (rx_hG_ok (fun w H locs pc ls rest hI hd k => va_get (D := D) (ci := 2) (C := RX2) (T := TX2) (N := 3) S.1 S.2.1 ht inX2 S.2.2.2.1 hK.1 hI.1 3 rfl rfl 1 (by decide) (ht _ wfX2_15) (fun _ h9 => h9) rfl hd k)) (rx_any_c (rx_hV_ok S ⟨Nat.zero_le _, Nat.zero_le _⟩ cK_tr hK (cwV 0 S.2.2.2.2 (wsA_V wkX2_100 wiX0_segmentCount weX0_segmentCount winiX0 wX0_segmentCount) rfl rfl rfl (by decide +kernel) ⟨by decide, by decide⟩) (ct_X0_segmentCount l D ad cB) (fun w H hP => va_recv hK.1 hP (rfl : vwCl[0]? = some (RX0, TX0, 1)) (rfl : (cW ad cB w)[2]? = some _))) (rx_any_c (rx_hV_ok S ⟨Nat.zero_le _, Nat.zero_le _⟩ cK_tr hK (cwV 1 S.2.2.2.2 (wsA_V wkX2_124 wiX0_segmentStart weX0_segmentStart winiX0 wX0_segmentStart) rfl rfl rfl (by decide +kernel) ⟨by decide, by decide⟩) (ct_X0_segmentStart l D ad cB) (fun w H hP => va_recv hK.1 hP (rfl : vwCl[0]? = some (RX0, TX0, 1)) (rfl : (cW ad cB w)[2]? = some _))) (rx_any_c (rx_hV_ok S ⟨Nat.zero_le _, Nat.zero_le _⟩ cK_tr hK (cwV 1 S.2.2.2.2 (wsA_V wkX2_144 wiX0_isLoaded weX0_isLoaded winiX0 wX0_isLoaded) rfl rfl rfl (by decide +kernel) ⟨by decide, by decide⟩) (ct_X0_isLoaded l D ad cB) (fun w H hP => va_recv hK.1 hP (rfl : vwCl[0]? = some (RX0, TX0, 1)) (rfl : (cW ad cB w)[2]? = some _))) (rx_any_c (rx_hV_ok S ⟨Nat.zero_le _, Nat.zero_le _⟩ cK_tr hK (cwV 2 S.2.2.2.2 (wsA_V wkX2_147 wiX2_beginsBehind weX2_beginsBehind winiX2 wX2_beginsBehind) rfl rfl rfl (by decide +kernel) ⟨by decide, by decide⟩) (ct_X2_beginsBehind l D ad cB) (fun w H hP => va_recv hK.1 hP (rfl : vwCl[2]? = some (RX2, TX2, 3)) (rfl : (cW ad cB w)[3]? = some _))) (rx_any_0)))))
set_option maxHeartbeats 4000000 in
set_option maxRecDepth 100000 in
theorem ct_X2_sinkingSegment (l : Launch) (D : va_G) (ad : Nat → Nat) (cB : ClassId) : ctC l yX2_sinkingSegment cX2_sinkingSegment 5 (some .int) rX2_sinkingSegment D ad cB [.ref (ad 3)] fX2_sinkingSegment := by
  intro w as g w1 r hf hg
  unfold fX2_sinkingSegment at hf
  split at hf
  · cases hf
    refine tr_of (rx_1c 12 (fun u w0 lv => w0 = w ∧ ∃ k, k ≤ gC w.1 ∧ u = gC w.1 - k ∧ (∀ i, i < k → ¬ q8 w.1 i) ∧ ∃ z, lZ w.1 k z ∧ lv = [(0, .ref (ad 3)), (1, .int (nI (gC w.1))), (2, .int z), (3, .int (nI k))])) 200 200 10000 (by decide) rfl rfl (Nat.le_of_ble_eq_true rfl) pX2_sinkingSegment_ok (rt_i _) (eo_X2_sinkingSegment l D ad cB) ?_ ?_
    · intro pc g0 hpc u w0 lv hinv
      have hh := rx_1c_of hpc
      clear hpc
      obtain ⟨rfl, rfl⟩ := hh
      obtain ⟨rfl, k, hk, rfl, hz, z, hZ, rfl⟩ := hinv
      have hc := gC_lt w0.1
      simp only [pX2_sinkingSegment, eX2_sinkingSegment, fX0_isLoaded, fX0_segmentCount, fX0_segmentStart, fX2_beginsBehind, rx_n, rx_s, rx_to, rx_get, rx_f1, rx_f2, rx_two, rx_ext, rx_any, rx_hV, rx_hS, rx_hG, rx_hP, rx_hAi, rx_hAb, rx_hL, rx_hLi, rx_got, rx_pop, rx_sum, rx_len, rx_c, rx_m1, lv_args, Value.category, rx_cut_n, rx_cut_1, rx_iconst, rx_bipush, rx_sipush, rx_lconst, rx_iload_n, rx_iload, rx_lload_n, rx_lload, rx_aload_n, rx_aload, rx_istore_n, rx_istore, rx_lstore_n, rx_lstore, rx_astore_n, rx_astore, rx_iinc, rx_iadd, rx_isub, rx_imul, rx_iand, rx_ixor, rx_ishr, rx_idiv, rx_irem, rx_ladd, rx_lsub, rx_land, rx_lor, rx_lxor, rx_lmul, rx_ldiv, rx_lrem, rx_lushr, rx_lshl, rx_lshr, rx_lneg, rx_i2l, rx_l2i, rx_i2b, rx_lcmp, rx_dup_i, rx_dup_a, rx_pop_i, rx_pop_a, rx_if_eq, rx_if_ne, rx_if_lt, rx_if_ge, rx_if_gt, rx_if_le, rx_icmp_eq, rx_icmp_ne, rx_icmp_lt, rx_icmp_ge, rx_icmp_gt, rx_icmp_le, rx_goto, rx_tsw, rx_ireturn, rx_lreturn, rx_return_, rx_getfield, rx_putfield, rx_invokevirtual, rx_invokespecial, rx_invokestatic, rx_ldc, rx_ldc2_w, rx_iaload, rx_iastore, rx_baload, rx_bastore, Nat.reduceBEq, Nat.reduceAdd, Nat.reduceSub, Nat.reduceMul, Nat.reduceLeDiff, Nat.reduceEqDiff, Nat.reduceLT, Int.reduceLT, Int.reduceLE, Int.reduceNeg, Int.reduceToNat, Int.reduceAdd, Fin.isValue, Fin.val_zero, Fin.val_one, Fin.reduceFinMk, Fin.val_ofNat, Bool.or_true, Bool.true_or, Bool.or_false, Bool.false_or, Bool.and_true, Bool.true_and, Bool.and_false, Bool.false_and, cond_true, cond_false, ↓reduceIte, eq_self, ne_eq, not_true_eq_false, not_false_eq_true, true_and, and_true, Option.toList_some, Option.toList_none, List.cons_append, List.nil_append, Option.some.injEq, Value.int.injEq, Value.long.injEq, rx_l0, rx_l1, rx_fv0, rx_fv1, rx_fv2, rx_fv3, nI_c1, nI_c2, nI_c4, nI_c8, nI_c9, nI_c24, nI_c64, Nat.le_refl, bI_z, bI_0, bI_1, Classical.not_not, lg_cmp_ge, lg_cmp_le, lg_cmp_gt, lg_cmp_lt, lg_cmp_eq]
      rw [nI_leI (by omega) (by omega)]
      refine ⟨fun h => (oI_none fun i hi => hz i (by omega)).symm, fun h => ?_⟩
      have hk2 : k < gC w0.1 := by omega
      have next : nI k + nI 1 = nI (k + 1) := nI_add k 1
      have hA := t6_gA hg hk2
      have hB := bn_le w0.1
      simp (disch := omega) only [t6_gS hg, nm_at, nm_a0]
      have skip : (¬ gL w0.1 k) → ¬ q8 w0.1 k := fun q z => q z.1
      refine ⟨fun h2 => ?_, fun h2 => ⟨fun h3 => ?_, fun h3 => ⟨fun h4 => ?_, fun h4 => ?_⟩⟩⟩
      · refine ⟨gC w0.1 - (k + 1), _, by omega, ⟨k + 1, by omega, rfl, lt_s hz (skip h2), z, lZ_skip hZ h2, rfl⟩, ?_⟩
        simp only [List.mem_cons, List.not_mem_nil, or_false, forall_eq_or_imp, forall_eq, Nat.reduceBEq, cond_true, cond_false, Option.some.injEq, Value.int.injEq, Value.long.injEq, Value.ref.injEq, true_and, and_true]
        exact next
      · refine ⟨gC w0.1 - (k + 1), _, by omega, ⟨k + 1, by omega, rfl, lt_s hz ?_, _, lZ_new h2, rfl⟩, ?_⟩
        · rcases hZ with ⟨e1, e2⟩ | ⟨j, e1, e2, e3, e4⟩
          · exact fun q => by obtain ⟨_, j, hj, hl, _⟩ := q; exact e2 j hj hl
          · have hJ := t6_gA hg (show j < gC w0.1 by omega)
            exact absurd (e2.symm.trans h3) (nI_nm1 (by omega))
        · simp only [List.mem_cons, List.not_mem_nil, or_false, forall_eq_or_imp, forall_eq, Nat.reduceBEq, cond_true, cond_false, Option.some.injEq, Value.int.injEq, Value.long.injEq, Value.ref.injEq, true_and, and_true]
          exact next
      · refine ⟨gC w0.1 - (k + 1), _, by omega, ⟨k + 1, by omega, rfl, lt_s hz ?_, _, lZ_new h2, rfl⟩, ?_⟩
        · rcases hZ with ⟨e1, e2⟩ | ⟨j, e1, e2, e3, e4⟩
          · exact absurd e1 h3
          · have hJ := t6_gA hg (show j < gC w0.1 by omega)
            rw [e2, nm_at (by omega), nm_at (by omega)] at h4
            intro q
            obtain ⟨_, j', hj, hl, hm, hq⟩ := q
            have e5 : j' = j := by
              by_cases a1 : j' < j
              · exact absurd e3 (hm j a1 e1)
              · by_cases a2 : j < j'
                · exact absurd hl (e4 j' a2 hj)
                · omega
            rw [e5] at hq
            omega
        · simp only [List.mem_cons, List.not_mem_nil, or_false, forall_eq_or_imp, forall_eq, Nat.reduceBEq, cond_true, cond_false, Option.some.injEq, Value.int.injEq, Value.long.injEq, Value.ref.injEq, true_and, and_true]
          exact next
      · rcases hZ with ⟨e1, e2⟩ | ⟨j, e1, e2, e3, e4⟩
        · exact absurd e1 h3
        · have hJ := t6_gA hg (show j < gC w0.1 by omega)
          rw [e2, nm_at (by omega), nm_at (by omega)] at h4
          exact (oI_some hz ⟨h2, j, e1, e3, e4, by omega⟩ hk2).symm
    · simp only [pX2_sinkingSegment, eX2_sinkingSegment, fX0_isLoaded, fX0_segmentCount, fX0_segmentStart, fX2_beginsBehind, rx_n, rx_s, rx_to, rx_get, rx_f1, rx_f2, rx_two, rx_ext, rx_any, rx_hV, rx_hS, rx_hG, rx_hP, rx_hAi, rx_hAb, rx_hL, rx_hLi, rx_got, rx_pop, rx_sum, rx_len, rx_c, rx_m1, lv_args, Value.category, rx_cut_n, rx_cut_1, rx_iconst, rx_bipush, rx_sipush, rx_lconst, rx_iload_n, rx_iload, rx_lload_n, rx_lload, rx_aload_n, rx_aload, rx_istore_n, rx_istore, rx_lstore_n, rx_lstore, rx_astore_n, rx_astore, rx_iinc, rx_iadd, rx_isub, rx_imul, rx_iand, rx_ixor, rx_ishr, rx_idiv, rx_irem, rx_ladd, rx_lsub, rx_land, rx_lor, rx_lxor, rx_lmul, rx_ldiv, rx_lrem, rx_lushr, rx_lshl, rx_lshr, rx_lneg, rx_i2l, rx_l2i, rx_i2b, rx_lcmp, rx_dup_i, rx_dup_a, rx_pop_i, rx_pop_a, rx_if_eq, rx_if_ne, rx_if_lt, rx_if_ge, rx_if_gt, rx_if_le, rx_icmp_eq, rx_icmp_ne, rx_icmp_lt, rx_icmp_ge, rx_icmp_gt, rx_icmp_le, rx_goto, rx_tsw, rx_ireturn, rx_lreturn, rx_return_, rx_getfield, rx_putfield, rx_invokevirtual, rx_invokespecial, rx_invokestatic, rx_ldc, rx_ldc2_w, rx_iaload, rx_iastore, rx_baload, rx_bastore, Nat.reduceBEq, Nat.reduceAdd, Nat.reduceSub, Nat.reduceMul, Nat.reduceLeDiff, Nat.reduceEqDiff, Nat.reduceLT, Int.reduceLT, Int.reduceLE, Int.reduceNeg, Int.reduceToNat, Int.reduceAdd, Fin.isValue, Fin.val_zero, Fin.val_one, Fin.reduceFinMk, Fin.val_ofNat, Bool.or_true, Bool.true_or, Bool.or_false, Bool.false_or, Bool.and_true, Bool.true_and, Bool.and_false, Bool.false_and, cond_true, cond_false, ↓reduceIte, eq_self, ne_eq, not_true_eq_false, not_false_eq_true, true_and, and_true, Option.toList_some, Option.toList_none, List.cons_append, List.nil_append, Option.some.injEq, Value.int.injEq, Value.long.injEq, rx_l0, rx_l1, rx_fv0, rx_fv1, rx_fv2, rx_fv3, nI_c1, nI_c2, nI_c4, nI_c8, nI_c9, nI_c24, nI_c64, Nat.le_refl, bI_z, bI_0, bI_1, Classical.not_not, lg_cmp_ge, lg_cmp_le, lg_cmp_gt, lg_cmp_lt, lg_cmp_eq]
      have h1 := t6_g11 hg
      simp only [t6_gC hg]
      refine ⟨gC w.1, _, by omega, ⟨0, by omega, rfl, lt_0, -1, Or.inl ⟨rfl, lt_0⟩, rfl⟩, ?_⟩
      simp only [List.mem_cons, List.not_mem_nil, or_false, forall_eq_or_imp, forall_eq, Nat.reduceBEq, cond_true, cond_false, Option.some.injEq, Value.int.injEq, Value.long.injEq, Value.ref.injEq, true_and, and_true]
  · cases hf
def pX2_badSection : rx_P := [(0, .aload_n 0, 0), (1, .getfield 15, 0), (4, .invokevirtual 107, 0), (7, .istore_n 1, 0), (8, .iconst 0, 0), (9, .istore_n 2, 0), (10, .iload_n 2, 0), (11, .iload_n 1, 0), (12, .if_icmp .ge 45, 57), (15, .aload_n 0, 0), (16, .getfield 15, 0), (19, .iload_n 2, 0), (20, .invokevirtual 150, 0), (23, .istore_n 3, 0), (24, .aload_n 0, 0), (25, .iload_n 3, 0), (26, .invokevirtual 153, 0), (29, .ifCond .eq 20, 49), (32, .iload_n 2, 0), (33, .ifCond .ne 18, 51), (36, .aload_n 0, 0), (37, .getfield 9, 0), (40, .iload_n 3, 0), (41, .bipush 64, 0), (43, .invokevirtual 90, 0), (46, .ifCond .ne 5, 51), (49, .iload_n 2, 0), (50, .ireturn, 0), (51, .iinc 2 1, 0), (54, .goto (-44), 10), (57, .iconst (-1), 0), (58, .ireturn, 0)]
theorem pX2_badSection_ok : ∀ q ∈ pX2_badSection, rx_ok cX2_badSection q := rx_ok_all (by decide +kernel)
abbrev rX2_badSection : Room := { frames := 3, cells := 0, slots := 0, locals := 73 }
noncomputable def fX2_badSection : rx_F cS := fun w as => match as with
  | [] => some (t6 w.1, w, some (.int (oI (q9 w.1) (sC w.1))))
  | _ => none
noncomputable def eX2_badSection (ad : Nat → Nat) : rx_E cS := rx_any [rx_hG 15 (ad 3) (fun w => .ref (ad 2)), rx_hV 107 0 (ad 2) fX0_sectionCount, rx_hV 150 1 (ad 2) fX0_sectionStart, rx_hV 153 1 (ad 3) fX2_sectionIsGood, rx_hG 9 (ad 3) (fun w => .ref (ad 1)), rx_hV 90 2 (ad 1) fX1_isZeros]
set_option maxHeartbeats 4000000 in
set_option maxRecDepth 100000 in
theorem eo_X2_badSection (l : Launch) (D : va_G) (ad : Nat → Nat) (cB : ClassId) : ∀ (p : Program) (e : Env) (s : State) (m : MethodId) (args : Array Value) (below : List Frame) (meth : Method) (c : Code) (Qw : State → Prop), CallFix p m c cX2_badSection 4 s args (Cond.code yX2_badSection cX2_badSection 4 (some .int) :: wsA) RX2 → cK D cB s → rx_Eok (fun H locs g => W p l e rX2_badSection s m args below meth c H locs 0 0 Qw g) m cX2_badSection 4 (tr_I D vwCl (cA ad) s (cW ad cB)) (eX2_badSection ad) := by
  intro p e s m args below meth c Qw S hK
  have ht : ∀ w ∈ wsA, w.before args s = true := fun w h => S.2.2.2.2 w (wsA_in h)
  exact rx_any_c (rx_hG_ok (fun w H locs pc ls rest hI hd k => va_get (D := D) (ci := 2) (C := RX2) (T := TX2) (N := 3) S.1 S.2.1 ht inX2 S.2.2.2.1 hK.1 hI.1 3 rfl rfl 1 (by decide) (ht _ wfX2_15) (fun _ h9 => h9) rfl hd k)) (rx_any_c (rx_hV_ok S ⟨Nat.zero_le _, Nat.zero_le _⟩ cK_tr hK (cwV 0 S.2.2.2.2 (wsA_V wkX2_107 wiX0_sectionCount weX0_sectionCount winiX0 wX0_sectionCount) rfl rfl rfl (by decide +kernel) ⟨by decide, by decide⟩) (ct_X0_sectionCount l D ad cB) (fun w H hP => va_recv hK.1 hP (rfl : vwCl[0]? = some (RX0, TX0, 1)) (rfl : (cW ad cB w)[2]? = some _))) (rx_any_c (rx_hV_ok S ⟨Nat.zero_le _, Nat.zero_le _⟩ cK_tr hK (cwV 1 S.2.2.2.2 (wsA_V wkX2_150 wiX0_sectionStart weX0_sectionStart winiX0 wX0_sectionStart) rfl rfl rfl (by decide +kernel) ⟨by decide, by decide⟩) (ct_X0_sectionStart l D ad cB) (fun w H hP => va_recv hK.1 hP (rfl : vwCl[0]? = some (RX0, TX0, 1)) (rfl : (cW ad cB w)[2]? = some _))) (rx_any_c (rx_hV_ok S ⟨Nat.zero_le _, Nat.zero_le _⟩ cK_tr hK (cwV 1 S.2.2.2.2 (wsA_V wkX2_153 wiX2_sectionIsGood weX2_sectionIsGood winiX2 wX2_sectionIsGood) rfl rfl rfl (by decide +kernel) ⟨by decide, by decide⟩) (ct_X2_sectionIsGood l D ad cB) (fun w H hP => va_recv hK.1 hP (rfl : vwCl[2]? = some (RX2, TX2, 3)) (rfl : (cW ad cB w)[3]? = some _))) (rx_any_c (rx_hG_ok (fun w H locs pc ls rest hI hd k => va_get (D := D) (ci := 2) (C := RX2) (T := TX2) (N := 3) S.1 S.2.1 ht inX2 S.2.2.2.1 hK.1 hI.1 3 rfl rfl 0 (by decide) (ht _ wfX2_9) (fun _ h9 => h9) rfl hd k)) (rx_any_c (rx_hV_ok S ⟨Nat.zero_le _, Nat.zero_le _⟩ cK_tr hK (cwV 2 S.2.2.2.2 (wsA_V wkX2_90 wiX1_isZeros weX1_isZeros winiX1 wX1_isZeros) rfl rfl rfl (by decide +kernel) ⟨by decide, by decide⟩) (ct_X1_isZeros l D ad cB) (fun w H hP => va_recv hK.1 hP (rfl : vwCl[1]? = some (RX1, TX1, 2)) (rfl : (cW ad cB w)[1]? = some _))) (rx_any_0))))))
set_option maxHeartbeats 4000000 in
set_option maxRecDepth 100000 in
theorem ct_X2_badSection (l : Launch) (D : va_G) (ad : Nat → Nat) (cB : ClassId) : ctC l yX2_badSection cX2_badSection 4 (some .int) rX2_badSection D ad cB [.ref (ad 3)] fX2_badSection := by
  intro w as g w1 r hf hg
  unfold fX2_badSection at hf
  split at hf
  · cases hf
    refine tr_of (rx_1c 10 (fun u w0 lv => w0 = w ∧ ∃ k, k ≤ sC w.1 ∧ u = sC w.1 - k ∧ (∀ i, i < k → ¬ q9 w.1 i) ∧ lv = [(0, .ref (ad 3)), (1, .int (nI (sC w.1))), (2, .int (nI k))])) 200 200 10000 (by decide) rfl rfl (Nat.le_of_ble_eq_true rfl) pX2_badSection_ok (rt_i _) (eo_X2_badSection l D ad cB) ?_ ?_
    · intro pc g0 hpc u w0 lv hinv
      have hh := rx_1c_of hpc
      clear hpc
      obtain ⟨rfl, rfl⟩ := hh
      obtain ⟨rfl, k, hk, rfl, hz, rfl⟩ := hinv
      have hc := sC_lt w0.1
      simp only [pX2_badSection, eX2_badSection, fX0_sectionCount, fX0_sectionStart, fX1_isZeros, fX2_sectionIsGood, rx_n, rx_s, rx_to, rx_get, rx_f1, rx_f2, rx_two, rx_ext, rx_any, rx_hV, rx_hS, rx_hG, rx_hP, rx_hAi, rx_hAb, rx_hL, rx_hLi, rx_got, rx_pop, rx_sum, rx_len, rx_c, rx_m1, lv_args, Value.category, rx_cut_n, rx_cut_1, rx_iconst, rx_bipush, rx_sipush, rx_lconst, rx_iload_n, rx_iload, rx_lload_n, rx_lload, rx_aload_n, rx_aload, rx_istore_n, rx_istore, rx_lstore_n, rx_lstore, rx_astore_n, rx_astore, rx_iinc, rx_iadd, rx_isub, rx_imul, rx_iand, rx_ixor, rx_ishr, rx_idiv, rx_irem, rx_ladd, rx_lsub, rx_land, rx_lor, rx_lxor, rx_lmul, rx_ldiv, rx_lrem, rx_lushr, rx_lshl, rx_lshr, rx_lneg, rx_i2l, rx_l2i, rx_i2b, rx_lcmp, rx_dup_i, rx_dup_a, rx_pop_i, rx_pop_a, rx_if_eq, rx_if_ne, rx_if_lt, rx_if_ge, rx_if_gt, rx_if_le, rx_icmp_eq, rx_icmp_ne, rx_icmp_lt, rx_icmp_ge, rx_icmp_gt, rx_icmp_le, rx_goto, rx_tsw, rx_ireturn, rx_lreturn, rx_return_, rx_getfield, rx_putfield, rx_invokevirtual, rx_invokespecial, rx_invokestatic, rx_ldc, rx_ldc2_w, rx_iaload, rx_iastore, rx_baload, rx_bastore, Nat.reduceBEq, Nat.reduceAdd, Nat.reduceSub, Nat.reduceMul, Nat.reduceLeDiff, Nat.reduceEqDiff, Nat.reduceLT, Int.reduceLT, Int.reduceLE, Int.reduceNeg, Int.reduceToNat, Int.reduceAdd, Fin.isValue, Fin.val_zero, Fin.val_one, Fin.reduceFinMk, Fin.val_ofNat, Bool.or_true, Bool.true_or, Bool.or_false, Bool.false_or, Bool.and_true, Bool.true_and, Bool.and_false, Bool.false_and, cond_true, cond_false, ↓reduceIte, eq_self, ne_eq, not_true_eq_false, not_false_eq_true, true_and, and_true, Option.toList_some, Option.toList_none, List.cons_append, List.nil_append, Option.some.injEq, Value.int.injEq, Value.long.injEq, rx_l0, rx_l1, rx_fv0, rx_fv1, rx_fv2, rx_fv3, nI_c1, nI_c2, nI_c4, nI_c8, nI_c9, nI_c24, nI_c64, Nat.le_refl, bI_z, bI_0, bI_1, Classical.not_not, lg_cmp_ge, lg_cmp_le, lg_cmp_gt, lg_cmp_lt, lg_cmp_eq]
      rw [nI_leI (by omega) (by omega)]
      refine ⟨fun h => (oI_none fun i hi => hz i (by omega)).symm, fun h => ?_⟩
      have hk2 : k < sC w0.1 := by omega
      have next : nI k + nI 1 = nI (k + 1) := nI_add k 1
      
      have hA := t6_sA hg hk2
      simp (disch := omega) only [t6_sS hg, nm_at, rl_at hg hk2, nI_z, zer]
      refine ⟨fun h2 => (oI_some hz (Or.inl h2) hk2).symm, fun h2 => ⟨fun h3 => ?_, fun h3 => ⟨fun h4 => ?_, fun h4 => ?_⟩⟩⟩
      · refine ⟨sC w0.1 - (k + 1), _, by omega, ⟨k + 1, by omega, rfl, lt_s hz (fun q => q.elim (fun q => q h2) (fun q => h3 q.1)), rfl⟩, ?_⟩
        simp only [List.mem_cons, List.not_mem_nil, or_false, forall_eq_or_imp, forall_eq, Nat.reduceBEq, cond_true, cond_false, Option.some.injEq, Value.int.injEq, Value.long.injEq, Value.ref.injEq, true_and, and_true]
        exact next
      · subst h3
        refine ⟨sC w0.1 - (0 + 1), _, by omega, ⟨0 + 1, by omega, rfl, lt_s hz (fun q => q.elim (fun q => q h2) (fun q => q.2 h4)), rfl⟩, ?_⟩
        simp only [List.mem_cons, List.not_mem_nil, or_false, forall_eq_or_imp, forall_eq, Nat.reduceBEq, cond_true, cond_false, Option.some.injEq, Value.int.injEq, Value.long.injEq, Value.ref.injEq, true_and, and_true]
        exact next
      · subst h3
        exact (oI_some hz (Or.inr ⟨rfl, h4⟩) hk2).symm
    · simp only [pX2_badSection, eX2_badSection, fX0_sectionCount, fX0_sectionStart, fX1_isZeros, fX2_sectionIsGood, rx_n, rx_s, rx_to, rx_get, rx_f1, rx_f2, rx_two, rx_ext, rx_any, rx_hV, rx_hS, rx_hG, rx_hP, rx_hAi, rx_hAb, rx_hL, rx_hLi, rx_got, rx_pop, rx_sum, rx_len, rx_c, rx_m1, lv_args, Value.category, rx_cut_n, rx_cut_1, rx_iconst, rx_bipush, rx_sipush, rx_lconst, rx_iload_n, rx_iload, rx_lload_n, rx_lload, rx_aload_n, rx_aload, rx_istore_n, rx_istore, rx_lstore_n, rx_lstore, rx_astore_n, rx_astore, rx_iinc, rx_iadd, rx_isub, rx_imul, rx_iand, rx_ixor, rx_ishr, rx_idiv, rx_irem, rx_ladd, rx_lsub, rx_land, rx_lor, rx_lxor, rx_lmul, rx_ldiv, rx_lrem, rx_lushr, rx_lshl, rx_lshr, rx_lneg, rx_i2l, rx_l2i, rx_i2b, rx_lcmp, rx_dup_i, rx_dup_a, rx_pop_i, rx_pop_a, rx_if_eq, rx_if_ne, rx_if_lt, rx_if_ge, rx_if_gt, rx_if_le, rx_icmp_eq, rx_icmp_ne, rx_icmp_lt, rx_icmp_ge, rx_icmp_gt, rx_icmp_le, rx_goto, rx_tsw, rx_ireturn, rx_lreturn, rx_return_, rx_getfield, rx_putfield, rx_invokevirtual, rx_invokespecial, rx_invokestatic, rx_ldc, rx_ldc2_w, rx_iaload, rx_iastore, rx_baload, rx_bastore, Nat.reduceBEq, Nat.reduceAdd, Nat.reduceSub, Nat.reduceMul, Nat.reduceLeDiff, Nat.reduceEqDiff, Nat.reduceLT, Int.reduceLT, Int.reduceLE, Int.reduceNeg, Int.reduceToNat, Int.reduceAdd, Fin.isValue, Fin.val_zero, Fin.val_one, Fin.reduceFinMk, Fin.val_ofNat, Bool.or_true, Bool.true_or, Bool.or_false, Bool.false_or, Bool.and_true, Bool.true_and, Bool.and_false, Bool.false_and, cond_true, cond_false, ↓reduceIte, eq_self, ne_eq, not_true_eq_false, not_false_eq_true, true_and, and_true, Option.toList_some, Option.toList_none, List.cons_append, List.nil_append, Option.some.injEq, Value.int.injEq, Value.long.injEq, rx_l0, rx_l1, rx_fv0, rx_fv1, rx_fv2, rx_fv3, nI_c1, nI_c2, nI_c4, nI_c8, nI_c9, nI_c24, nI_c64, Nat.le_refl, bI_z, bI_0, bI_1, Classical.not_not, lg_cmp_ge, lg_cmp_le, lg_cmp_gt, lg_cmp_lt, lg_cmp_eq]
      have h1 := t6_s10 hg
      simp only [t6_sC hg]
      refine ⟨sC w.1, _, by omega, ⟨0, by omega, rfl, lt_0, rfl⟩, ?_⟩
      simp only [List.mem_cons, List.not_mem_nil, or_false, forall_eq_or_imp, forall_eq, Nat.reduceBEq, cond_true, cond_false, Option.some.injEq, Value.int.injEq, Value.long.injEq, Value.ref.injEq, true_and, and_true]
  · cases hf
