def pX4_badTables : rx_P := [(0, .iconst 0, 0), (1, .istore_n 1, 0), (2, .iload_n 1, 0), (3, .sipush 640, 0), (6, .if_icmp .ge 26, 32), (9, .aload_n 0, 0), (10, .getfield 13, 0), (13, .iload_n 1, 0), (14, .iload_n 1, 0), (15, .bipush 64, 0), (17, .if_icmp .ge 7, 24), (20, .iconst 1, 0), (21, .goto 4, 25), (24, .iconst 0, 0), (25, .bastore, 0), (26, .iinc 1 1, 0), (29, .goto (-27), 2), (32, .aload_n 0, 0), (33, .bipush 32, 0), (35, .aload_n 0, 0), (36, .invokevirtual 83, 0), (39, .bipush 56, 0), (41, .invokevirtual 89, 0), (44, .ifCond .ne 18, 62), (47, .aload_n 0, 0), (48, .bipush 40, 0), (50, .aload_n 0, 0), (51, .invokevirtual 59, 0), (54, .bipush 64, 0), (56, .invokevirtual 89, 0), (59, .ifCond .eq 17, 76), (62, .aload_n 0, 0), (63, .bipush 6, 0), (65, .iconst (-1), 0), (66, .invokevirtual 76, 0), (69, .ifCond .eq 7, 76), (72, .iconst 1, 0), (73, .goto 4, 77), (76, .iconst 0, 0), (77, .ireturn, 0)]
theorem pX4_badTables_ok : ∀ q ∈ pX4_badTables, rx_ok cX4_badTables q := rx_ok_all (by decide +kernel)
abbrev rX4_badTables : Room := { frames := 4, cells := 0, slots := 0, locals := 88 }
noncomputable def fX4_badTables : rx_F mS := fun w as => match as with
  | [] => some (True, mU (w.1, w.2.1, tk6 w.1 w.2.2.1, w.2.2.2) (q6 w.1) (nI 6) (-1), some (.int (bI (¬ q6 w.1))))
  | _ => none
noncomputable def eX4_badTables (am : Nat → Nat) : rx_E mS := rx_any [rx_hG 13 (am 0) (fun w => .ref (am 2)), rx_hBb (am 2) 640 (fun w k v => (w.1, w.2.1, upd w.2.2.1 k (vp_nar .boolean v), w.2.2.2)), rx_hV 83 0 (am 0) fX4_segmentCount, rx_hV 89 3 (am 0) fX4_badTable, rx_hV 59 0 (am 0) fX4_sectionCount, rx_hV 76 2 (am 0) fX4_breaks]
set_option maxHeartbeats 4000000 in
set_option maxRecDepth 100000 in
theorem eo_X4_badTables (l : Launch) (D : va_G) (am : Nat → Nat) (cI cZ : ClassId) (hj : mJ am) : ∀ (p : Program) (e : Env) (s : State) (m : MethodId) (args : Array Value) (below : List Frame) (meth : Method) (c : Code) (Qw : State → Prop), CallFix p m c cX4_badTables 2 s args (Cond.code yX4_badTables cX4_badTables 2 (some .boolean) :: wsA) RX4 → mK D cI cZ s → rx_Eok (fun H locs g => W p l e rX4_badTables s m args below meth c H locs 0 0 Qw g) m cX4_badTables 2 (tr_I D vwCl (mA am) s (mW am cI cZ)) (eX4_badTables am) := by
  intro p e s m args below meth c Qw S hK
  have ht : ∀ w ∈ wsA, w.before args s = true := fun w h => S.2.2.2.2 w (wsA_in h)
  exact rx_any_c (rx_hG_ok (fun w H locs pc ls rest hI hd k => va_get (D := D) (ci := 4) (C := RX4) (T := TX4) (N := 7) S.1 S.2.1 ht inX4 S.2.2.2.1 hK.1 hI.1 0 rfl rfl 3 (by decide) (ht _ wfX4_13) (fun _ h9 => h9) rfl hd k)) (rx_any_c (rx_hBb_ok (fun w H locs pc ls rest x v hI hin hd kk => va_zast S.1 S.2.1 hK.1 hI.1 (mD hj cI cZ w) hI.2 2 1 rfl rfl hin hd (fun H1 locs1 hP _ hS => kk H1 locs1 ⟨hP, hS⟩))) (rx_any_c (rx_hV_ok S ⟨Nat.zero_le _, Nat.zero_le _⟩ mK_tr hK (cwV 0 S.2.2.2.2 (wsA_V wkX4_83 wiX4_segmentCount weX4_segmentCount winiX4 wX4_segmentCount) rfl rfl rfl (by decide +kernel) ⟨by decide, by decide⟩) (ct_X4_segmentCount l D am cI cZ) (fun w H hP => va_recv hK.1 hP (rfl : vwCl[4]? = some (RX4, TX4, 7)) (rfl : (mW am cI cZ w)[0]? = some _))) (rx_any_c (rx_hV_ok S ⟨Nat.zero_le _, Nat.zero_le _⟩ mK_tr hK (cwV 3 S.2.2.2.2 (wsA_V wkX4_89 wiX4_badTable weX4_badTable winiX4 wX4_badTable) rfl rfl rfl (by decide +kernel) ⟨by decide, by decide⟩) (ct_X4_badTable l D am cI cZ hj) (fun w H hP => va_recv hK.1 hP (rfl : vwCl[4]? = some (RX4, TX4, 7)) (rfl : (mW am cI cZ w)[0]? = some _))) (rx_any_c (rx_hV_ok S ⟨Nat.zero_le _, Nat.zero_le _⟩ mK_tr hK (cwV 0 S.2.2.2.2 (wsA_V wkX4_59 wiX4_sectionCount weX4_sectionCount winiX4 wX4_sectionCount) rfl rfl rfl (by decide +kernel) ⟨by decide, by decide⟩) (ct_X4_sectionCount l D am cI cZ) (fun w H hP => va_recv hK.1 hP (rfl : vwCl[4]? = some (RX4, TX4, 7)) (rfl : (mW am cI cZ w)[0]? = some _))) (rx_any_c (rx_hV_ok S ⟨Nat.zero_le _, Nat.zero_le _⟩ mK_tr hK (cwV 2 S.2.2.2.2 (wsA_V wkX4_76 wiX4_breaks weX4_breaks winiX4 wX4_breaks) rfl rfl rfl (by decide +kernel) ⟨by decide, by decide⟩) (ct_X4_breaks l D am cI cZ hj) (fun w H hP => va_recv hK.1 hP (rfl : vwCl[4]? = some (RX4, TX4, 7)) (rfl : (mW am cI cZ w)[0]? = some _))) (rx_any_0))))))
set_option maxHeartbeats 4000000 in
set_option maxRecDepth 100000 in
theorem ct_X4_badTables (l : Launch) (D : va_G) (am : Nat → Nat) (cI cZ : ClassId) (hj : mJ am) : ctM l yX4_badTables cX4_badTables 2 (some .boolean) rX4_badTables D am cI cZ [.ref (am 0)] fX4_badTables := by
  intro w as g w1 r hf hg
  unfold fX4_badTables at hf
  split at hf
  · cases hf
    refine tr_of (rx_mc [(2, fun u w0 lv => ∃ j, j ≤ 640 ∧ u = 640 - j ∧ w0 = (w.1, w.2.1, tG w.2.2.1 j, w.2.2.2) ∧ lv = [(0, .ref (am 0)), (1, .int (nI j))])]) 400 400 100000 (by decide) rfl rfl (Nat.le_of_ble_eq_true rfl) pX4_badTables_ok (rt_z _) (eo_X4_badTables l D am cI cZ hj) ?_ ?_
    · intro pc g0 hpc u w0 lv hinv
      have hh := rx_mc_of _ hpc
      clear hpc
      simp only [List.mem_cons, List.not_mem_nil, or_false, Prod.mk.injEq] at hh
      rcases hh with ⟨rfl, rfl⟩
      · obtain ⟨j, hj2, rfl, rfl, rfl⟩ := hinv
        have c1 := gC_lt w.1
        have c2 := sC_lt w.1
        simp only [pX4_badTables, eX4_badTables, fX4_badTable, fX4_breaks, fX4_sectionCount, fX4_segmentCount, rx_n, rx_s, rx_to, rx_get, rx_f1, rx_f2, rx_two, rx_ext, rx_any, rx_hV, rx_hS, rx_hG, rx_hP, rx_hAi, rx_hAb, rx_hBb, rx_hBi, rx_hBp, rx_hL, rx_hLi, rx_got, rx_pop, rx_sum, rx_len, rx_c, rx_m1, lv_args, Value.category, rx_cut_n, rx_cut_m0, rx_cut_m1, rx_iconst, rx_bipush, rx_sipush, rx_lconst, rx_iload_n, rx_iload, rx_lload_n, rx_lload, rx_aload_n, rx_aload, rx_istore_n, rx_istore, rx_lstore_n, rx_lstore, rx_astore_n, rx_astore, rx_iinc, rx_iadd, rx_isub, rx_imul, rx_iand, rx_ixor, rx_ishr, rx_idiv, rx_irem, rx_ladd, rx_lsub, rx_land, rx_lor, rx_lxor, rx_lmul, rx_ldiv, rx_lrem, rx_lushr, rx_lshl, rx_lshr, rx_lneg, rx_i2l, rx_l2i, rx_i2b, rx_lcmp, rx_dup_i, rx_dup_a, rx_pop_i, rx_pop_a, rx_if_eq, rx_if_ne, rx_if_lt, rx_if_ge, rx_if_gt, rx_if_le, rx_icmp_eq, rx_icmp_ne, rx_icmp_lt, rx_icmp_ge, rx_icmp_gt, rx_icmp_le, rx_goto, rx_tsw, rx_ireturn, rx_lreturn, rx_return_, rx_getfield, rx_putfield, rx_invokevirtual, rx_invokespecial, rx_invokestatic, rx_ldc, rx_ldc2_w, rx_iaload, rx_iastore, rx_baload, rx_bastore, Nat.reduceBEq, Nat.reduceAdd, Nat.reduceSub, Nat.reduceMul, Nat.reduceLeDiff, Nat.reduceEqDiff, Nat.reduceLT, Int.reduceLT, Int.reduceLE, Int.reduceNeg, Int.reduceToNat, Int.reduceAdd, Fin.isValue, Fin.val_zero, Fin.val_one, Fin.reduceFinMk, Fin.val_ofNat, Bool.or_true, Bool.true_or, Bool.or_false, Bool.false_or, Bool.and_true, Bool.true_and, Bool.and_false, Bool.false_and, cond_true, cond_false, ↓reduceIte, eq_self, ne_eq, not_true_eq_false, not_false_eq_true, true_and, and_true, Option.toList_some, Option.toList_none, List.cons_append, List.nil_append, Option.some.injEq, Value.int.injEq, Value.long.injEq, rx_l0, rx_l1, rx_fv0, rx_fv1, rx_fv2, rx_fv3, nI_c1, nI_c2, nI_c4, nI_c8, nI_c9, nI_c24, nI_c64, Nat.le_refl, bI_z, bI_0, bI_1, Classical.not_not, lg_cmp_ge, lg_cmp_le, lg_cmp_gt, lg_cmp_lt, lg_cmp_eq]
        simp (disch := omega) only [nI_leI, nI_clamp]
        refine ⟨fun h => ?_, fun h => ⟨fun a => ⟨vp_in_nI (by omega) (by decide), ?_⟩, fun a => ⟨vp_in_nI (by omega) (by decide), ?_⟩⟩⟩
        · have e : j = 640 := by omega
          subst e
          refine ⟨⟨trivial, by omega, trivial, c1, trivial, by omega, by omega⟩, fun a => ⟨fun f => f.elim, fun _ => ⟨?_, q6_no1 (t := w.2.2.1) a⟩⟩, fun a => ⟨⟨trivial, by omega, trivial, c2⟩, fun b => ⟨?_, q6_yes (t := w.2.2.1) a b⟩, fun b => ⟨fun f => f.elim, fun _ => ⟨?_, q6_no2 (t := w.2.2.1) a b⟩⟩⟩⟩
          · rw [mU_no (q6_no1 (t := w.2.2.1) a)]
            unfold tk6
            rw [if_pos (show tE w.1 (tG w.2.2.1 640) 32 (gC w.1) 56 from a)]
            rfl
          · rw [mU_ok (q6_yes (t := w.2.2.1) a b)]
            unfold tk6
            rw [if_neg (show ¬ tE w.1 (tG w.2.2.1 640) 32 (gC w.1) 56 from a)]
            rfl
          · rw [mU_no (q6_no2 (t := w.2.2.1) a b)]
            unfold tk6
            rw [if_neg (show ¬ tE w.1 (tG w.2.2.1 640) 32 (gC w.1) 56 from a)]
            rfl
        · have e2 := tG_s (t := w.2.2.1) (j := j)
          rw [if_neg (by omega)] at e2
          refine ⟨640 - (j + 1), _, by omega, ⟨j + 1, by omega, rfl, ?_, rfl⟩, ?_⟩
          · rw [e2]
          · simp only [List.mem_cons, List.not_mem_nil, or_false, forall_eq_or_imp, forall_eq, Nat.reduceBEq, cond_true, cond_false, Option.some.injEq, Value.int.injEq, Value.long.injEq, Value.ref.injEq, true_and, and_true]
            exact nI_add j 1
        · have e2 := tG_s (t := w.2.2.1) (j := j)
          rw [if_pos (by omega)] at e2
          refine ⟨640 - (j + 1), _, by omega, ⟨j + 1, by omega, rfl, ?_, rfl⟩, ?_⟩
          · rw [e2]
          · simp only [List.mem_cons, List.not_mem_nil, or_false, forall_eq_or_imp, forall_eq, Nat.reduceBEq, cond_true, cond_false, Option.some.injEq, Value.int.injEq, Value.long.injEq, Value.ref.injEq, true_and, and_true]
            exact nI_add j 1
    · simp only [pX4_badTables, eX4_badTables, fX4_badTable, fX4_breaks, fX4_sectionCount, fX4_segmentCount, rx_n, rx_s, rx_to, rx_get, rx_f1, rx_f2, rx_two, rx_ext, rx_any, rx_hV, rx_hS, rx_hG, rx_hP, rx_hAi, rx_hAb, rx_hBb, rx_hBi, rx_hBp, rx_hL, rx_hLi, rx_got, rx_pop, rx_sum, rx_len, rx_c, rx_m1, lv_args, Value.category, rx_cut_n, rx_cut_m0, rx_cut_m1, rx_iconst, rx_bipush, rx_sipush, rx_lconst, rx_iload_n, rx_iload, rx_lload_n, rx_lload, rx_aload_n, rx_aload, rx_istore_n, rx_istore, rx_lstore_n, rx_lstore, rx_astore_n, rx_astore, rx_iinc, rx_iadd, rx_isub, rx_imul, rx_iand, rx_ixor, rx_ishr, rx_idiv, rx_irem, rx_ladd, rx_lsub, rx_land, rx_lor, rx_lxor, rx_lmul, rx_ldiv, rx_lrem, rx_lushr, rx_lshl, rx_lshr, rx_lneg, rx_i2l, rx_l2i, rx_i2b, rx_lcmp, rx_dup_i, rx_dup_a, rx_pop_i, rx_pop_a, rx_if_eq, rx_if_ne, rx_if_lt, rx_if_ge, rx_if_gt, rx_if_le, rx_icmp_eq, rx_icmp_ne, rx_icmp_lt, rx_icmp_ge, rx_icmp_gt, rx_icmp_le, rx_goto, rx_tsw, rx_ireturn, rx_lreturn, rx_return_, rx_getfield, rx_putfield, rx_invokevirtual, rx_invokespecial, rx_invokestatic, rx_ldc, rx_ldc2_w, rx_iaload, rx_iastore, rx_baload, rx_bastore, Nat.reduceBEq, Nat.reduceAdd, Nat.reduceSub, Nat.reduceMul, Nat.reduceLeDiff, Nat.reduceEqDiff, Nat.reduceLT, Int.reduceLT, Int.reduceLE, Int.reduceNeg, Int.reduceToNat, Int.reduceAdd, Fin.isValue, Fin.val_zero, Fin.val_one, Fin.reduceFinMk, Fin.val_ofNat, Bool.or_true, Bool.true_or, Bool.or_false, Bool.false_or, Bool.and_true, Bool.true_and, Bool.and_false, Bool.false_and, cond_true, cond_false, ↓reduceIte, eq_self, ne_eq, not_true_eq_false, not_false_eq_true, true_and, and_true, Option.toList_some, Option.toList_none, List.cons_append, List.nil_append, Option.some.injEq, Value.int.injEq, Value.long.injEq, rx_l0, rx_l1, rx_fv0, rx_fv1, rx_fv2, rx_fv3, nI_c1, nI_c2, nI_c4, nI_c8, nI_c9, nI_c24, nI_c64, Nat.le_refl, bI_z, bI_0, bI_1, Classical.not_not, lg_cmp_ge, lg_cmp_le, lg_cmp_gt, lg_cmp_lt, lg_cmp_eq]
      refine ⟨640, _, by omega, ⟨0, by omega, rfl, ?_, rfl⟩, ?_⟩
      · rw [tG_0]
      · simp only [List.mem_cons, List.not_mem_nil, or_false, forall_eq_or_imp, forall_eq, Nat.reduceBEq, cond_true, cond_false, Option.some.injEq, Value.int.injEq, Value.long.injEq, Value.ref.injEq, true_and, and_true]
  · cases hf
def pX4_badSegments : rx_P := [(0, .iconst 0, 0), (1, .istore_n 1, 0), (2, .iload_n 1, 0), (3, .aload_n 0, 0), (4, .invokevirtual 83, 0), (7, .if_icmp .ge 29, 36), (10, .aload_n 0, 0), (11, .aload_n 0, 0), (12, .iload_n 1, 0), (13, .invokevirtual 103, 0), (16, .invokevirtual 106, 0), (19, .ifCond .eq 11, 30), (22, .aload_n 0, 0), (23, .bipush 7, 0), (25, .iload_n 1, 0), (26, .invokevirtual 76, 0), (29, .ireturn, 0), (30, .iinc 1 1, 0), (33, .goto (-31), 2), (36, .iconst (-1), 0), (37, .istore_n 1, 0), (38, .iconst 0, 0), (39, .istore_n 2, 0), (40, .iload_n 2, 0), (41, .aload_n 0, 0), (42, .invokevirtual 83, 0), (45, .if_icmp .ge 57, 102), (48, .aload_n 0, 0), (49, .aload_n 0, 0), (50, .iload_n 2, 0), (51, .invokevirtual 103, 0), (54, .invokevirtual 30, 0), (57, .lconst 1, 0), (58, .lcmp, 0), (59, .ifCond .eq 6, 65), (62, .goto 34, 96), (65, .iload_n 1, 0), (66, .ifCond .lt 28, 94), (69, .aload_n 0, 0), (70, .aload_n 0, 0), (71, .iload_n 2, 0), (72, .invokevirtual 103, 0), (75, .aload_n 0, 0), (76, .iload_n 1, 0), (77, .invokevirtual 103, 0), (80, .invokevirtual 109, 0), (83, .ifCond .eq 11, 94), (86, .aload_n 0, 0), (87, .bipush 8, 0), (89, .iload_n 2, 0), (90, .invokevirtual 76, 0), (93, .ireturn, 0), (94, .iload_n 2, 0), (95, .istore_n 1, 0), (96, .iinc 2 1, 0), (99, .goto (-59), 40), (102, .iconst 0, 0), (103, .ireturn, 0)]
theorem pX4_badSegments_ok : ∀ q ∈ pX4_badSegments, rx_ok cX4_badSegments q := rx_ok_all (by decide +kernel)
abbrev rX4_badSegments : Room := { frames := 5, cells := 0, slots := 0, locals := 113 }
noncomputable def fX4_badSegments : rx_F mS := fun w as => match as with
  | [] => some (t6 w.1, mV7 w, some (.int (bI (¬ oI (q7 w.1) (gC w.1) = -1 ∨ ¬ oI (q8 w.1) (gC w.1) = -1))))
  | _ => none
noncomputable def eX4_badSegments (am : Nat → Nat) : rx_E mS := rx_any [rx_hV 83 0 (am 0) fX4_segmentCount, rx_hV 103 1 (am 0) fX4_segmentAt, rx_hV 106 1 (am 0) fX4_badSegment, rx_hV 76 2 (am 0) fX4_breaks, rx_hV 30 1 (am 0) fX4_four, rx_hV 109 2 (am 0) fX4_beginsBefore]
set_option maxHeartbeats 4000000 in
set_option maxRecDepth 100000 in
theorem eo_X4_badSegments (l : Launch) (D : va_G) (am : Nat → Nat) (cI cZ : ClassId) (hj : mJ am) : ∀ (p : Program) (e : Env) (s : State) (m : MethodId) (args : Array Value) (below : List Frame) (meth : Method) (c : Code) (Qw : State → Prop), CallFix p m c cX4_badSegments 3 s args (Cond.code yX4_badSegments cX4_badSegments 3 (some .boolean) :: wsA) RX4 → mK D cI cZ s → rx_Eok (fun H locs g => W p l e rX4_badSegments s m args below meth c H locs 0 0 Qw g) m cX4_badSegments 3 (tr_I D vwCl (mA am) s (mW am cI cZ)) (eX4_badSegments am) := by
  intro p e s m args below meth c Qw S hK
  have ht : ∀ w ∈ wsA, w.before args s = true := fun w h => S.2.2.2.2 w (wsA_in h)
  exact rx_any_c (rx_hV_ok S ⟨Nat.zero_le _, Nat.zero_le _⟩ mK_tr hK (cwV 0 S.2.2.2.2 (wsA_V wkX4_83 wiX4_segmentCount weX4_segmentCount winiX4 wX4_segmentCount) rfl rfl rfl (by decide +kernel) ⟨by decide, by decide⟩) (ct_X4_segmentCount l D am cI cZ) (fun w H hP => va_recv hK.1 hP (rfl : vwCl[4]? = some (RX4, TX4, 7)) (rfl : (mW am cI cZ w)[0]? = some _))) (rx_any_c (rx_hV_ok S ⟨Nat.zero_le _, Nat.zero_le _⟩ mK_tr hK (cwV 1 S.2.2.2.2 (wsA_V wkX4_103 wiX4_segmentAt weX4_segmentAt winiX4 wX4_segmentAt) rfl rfl rfl (by decide +kernel) ⟨by decide, by decide⟩) (ct_X4_segmentAt l D am cI cZ) (fun w H hP => va_recv hK.1 hP (rfl : vwCl[4]? = some (RX4, TX4, 7)) (rfl : (mW am cI cZ w)[0]? = some _))) (rx_any_c (rx_hV_ok S ⟨Nat.zero_le _, Nat.zero_le _⟩ mK_tr hK (cwV 1 S.2.2.2.2 (wsA_V wkX4_106 wiX4_badSegment weX4_badSegment winiX4 wX4_badSegment) rfl rfl rfl (by decide +kernel) ⟨by decide, by decide⟩) (ct_X4_badSegment l D am cI cZ) (fun w H hP => va_recv hK.1 hP (rfl : vwCl[4]? = some (RX4, TX4, 7)) (rfl : (mW am cI cZ w)[0]? = some _))) (rx_any_c (rx_hV_ok S ⟨Nat.zero_le _, Nat.zero_le _⟩ mK_tr hK (cwV 2 S.2.2.2.2 (wsA_V wkX4_76 wiX4_breaks weX4_breaks winiX4 wX4_breaks) rfl rfl rfl (by decide +kernel) ⟨by decide, by decide⟩) (ct_X4_breaks l D am cI cZ hj) (fun w H hP => va_recv hK.1 hP (rfl : vwCl[4]? = some (RX4, TX4, 7)) (rfl : (mW am cI cZ w)[0]? = some _))) (rx_any_c (rx_hV_ok S ⟨Nat.zero_le _, Nat.zero_le _⟩ mK_tr hK (cwV 1 S.2.2.2.2 (wsA_V wkX4_30 wiX4_four weX4_four winiX4 wX4_four) rfl rfl rfl (by decide +kernel) ⟨by decide, by decide⟩) (ct_X4_four l D am cI cZ) (fun w H hP => va_recv hK.1 hP (rfl : vwCl[4]? = some (RX4, TX4, 7)) (rfl : (mW am cI cZ w)[0]? = some _))) (rx_any_c (rx_hV_ok S ⟨Nat.zero_le _, Nat.zero_le _⟩ mK_tr hK (cwV 2 S.2.2.2.2 (wsA_V wkX4_109 wiX4_beginsBefore weX4_beginsBefore winiX4 wX4_beginsBefore) rfl rfl rfl (by decide +kernel) ⟨by decide, by decide⟩) (ct_X4_beginsBefore l D am cI cZ) (fun w H hP => va_recv hK.1 hP (rfl : vwCl[4]? = some (RX4, TX4, 7)) (rfl : (mW am cI cZ w)[0]? = some _))) (rx_any_0))))))
set_option maxHeartbeats 4000000 in
set_option maxRecDepth 100000 in
theorem ct_X4_badSegments (l : Launch) (D : va_G) (am : Nat → Nat) (cI cZ : ClassId) (hj : mJ am) : ctM l yX4_badSegments cX4_badSegments 3 (some .boolean) rX4_badSegments D am cI cZ [.ref (am 0)] fX4_badSegments := by
  intro w as g w1 r hf hg
  unfold fX4_badSegments at hf
  split at hf
  · cases hf
    have hc := gC_lt w.1
    have h11 := t6_g11 hg
    have hB := bn_le w.1
    have e0 : ∀ k, nI (bl w.1 32 8) + nI 56 * nI k = nI (gA w.1 k) := fun k => by unfold gA; rw [pk_mul, nI_add]
    have leaf7 : ∀ k, (∀ i, i < k → ¬ q7 w.1 i) → q7 w.1 k → k < gC w.1 → mB w (nI 7) (nI k) = mV7 w ∧ bI True = bI (¬ oI (q7 w.1) (gC w.1) = -1 ∨ ¬ oI (q8 w.1) (gC w.1) = -1) := fun k h1 h2 h3 => by
      have e := oI_some h1 h2 h3
      have n : ¬ oI (q7 w.1) (gC w.1) = -1 := by rw [e]; exact nI_nm1 (by omega)
      refine ⟨?_, bI_iff ⟨fun _ => Or.inl n, fun _ => trivial⟩⟩
      unfold mV7
      rw [if_pos n, e]
    refine tr_of (rx_mc [(2, fun u w0 lv => w0 = w ∧ ∃ k, k ≤ gC w.1 ∧ u = 100 + (gC w.1 - k) ∧ (∀ i, i < k → ¬ q7 w.1 i) ∧ lv = [(0, .ref (am 0)), (1, .int (nI k))]), (40, fun u w0 lv => w0 = w ∧ (∀ i, i < gC w.1 → ¬ q7 w.1 i) ∧ ∃ k, k ≤ gC w.1 ∧ u = gC w.1 - k ∧ (∀ i, i < k → ¬ q8 w.1 i) ∧ ∃ z, lY w.1 k z ∧ lv = [(0, .ref (am 0)), (1, .int z), (2, .int (nI k))])]) 400 400 100000 (by decide) rfl rfl (Nat.le_of_ble_eq_true rfl) pX4_badSegments_ok (rt_z _) (eo_X4_badSegments l D am cI cZ hj) ?_ ?_
    · intro pc g0 hpc u w0 lv hinv
      have hh := rx_mc_of _ hpc
      clear hpc
      simp only [List.mem_cons, List.not_mem_nil, or_false, Prod.mk.injEq] at hh
      rcases hh with ⟨rfl, rfl⟩ | ⟨rfl, rfl⟩
      · obtain ⟨rfl, k, hk, rfl, hz, rfl⟩ := hinv
        simp only [pX4_badSegments, eX4_badSegments, fX4_badSegment, fX4_beginsBefore, fX4_breaks, fX4_four, fX4_segmentAt, fX4_segmentCount, rx_n, rx_s, rx_to, rx_get, rx_f1, rx_f2, rx_two, rx_ext, rx_any, rx_hV, rx_hS, rx_hG, rx_hP, rx_hAi, rx_hAb, rx_hBb, rx_hBi, rx_hBp, rx_hL, rx_hLi, rx_got, rx_pop, rx_sum, rx_len, rx_c, rx_m1, lv_args, Value.category, rx_cut_n, rx_cut_m0, rx_cut_m1, rx_iconst, rx_bipush, rx_sipush, rx_lconst, rx_iload_n, rx_iload, rx_lload_n, rx_lload, rx_aload_n, rx_aload, rx_istore_n, rx_istore, rx_lstore_n, rx_lstore, rx_astore_n, rx_astore, rx_iinc, rx_iadd, rx_isub, rx_imul, rx_iand, rx_ixor, rx_ishr, rx_idiv, rx_irem, rx_ladd, rx_lsub, rx_land, rx_lor, rx_lxor, rx_lmul, rx_ldiv, rx_lrem, rx_lushr, rx_lshl, rx_lshr, rx_lneg, rx_i2l, rx_l2i, rx_i2b, rx_lcmp, rx_dup_i, rx_dup_a, rx_pop_i, rx_pop_a, rx_if_eq, rx_if_ne, rx_if_lt, rx_if_ge, rx_if_gt, rx_if_le, rx_icmp_eq, rx_icmp_ne, rx_icmp_lt, rx_icmp_ge, rx_icmp_gt, rx_icmp_le, rx_goto, rx_tsw, rx_ireturn, rx_lreturn, rx_return_, rx_getfield, rx_putfield, rx_invokevirtual, rx_invokespecial, rx_invokestatic, rx_ldc, rx_ldc2_w, rx_iaload, rx_iastore, rx_baload, rx_bastore, Nat.reduceBEq, Nat.reduceAdd, Nat.reduceSub, Nat.reduceMul, Nat.reduceLeDiff, Nat.reduceEqDiff, Nat.reduceLT, Int.reduceLT, Int.reduceLE, Int.reduceNeg, Int.reduceToNat, Int.reduceAdd, Fin.isValue, Fin.val_zero, Fin.val_one, Fin.reduceFinMk, Fin.val_ofNat, Bool.or_true, Bool.true_or, Bool.or_false, Bool.false_or, Bool.and_true, Bool.true_and, Bool.and_false, Bool.false_and, cond_true, cond_false, ↓reduceIte, eq_self, ne_eq, not_true_eq_false, not_false_eq_true, true_and, and_true, Option.toList_some, Option.toList_none, List.cons_append, List.nil_append, Option.some.injEq, Value.int.injEq, Value.long.injEq, rx_l0, rx_l1, rx_fv0, rx_fv1, rx_fv2, rx_fv3, nI_c1, nI_c2, nI_c4, nI_c8, nI_c9, nI_c24, nI_c64, Nat.le_refl, bI_z, bI_0, bI_1, Classical.not_not, lg_cmp_ge, lg_cmp_le, lg_cmp_gt, lg_cmp_lt, lg_cmp_eq]
        simp only [e0]
        simp (disch := omega) only [nI_leI]
        refine ⟨fun h => ?_, fun h => ?_⟩
        · refine ⟨gC w0.1, _, by omega, ⟨fun i hi => hz i (by omega), 0, by omega, rfl, lt_0, -1, Or.inl ⟨rfl, lt_0⟩, rfl⟩, ?_⟩
          simp only [List.mem_cons, List.not_mem_nil, or_false, forall_eq_or_imp, forall_eq, Nat.reduceBEq, cond_true, cond_false, Option.some.injEq, Value.int.injEq, Value.long.injEq, Value.ref.injEq, true_and, and_true]
        · have hk2 : k < gC w0.1 := by omega
          have hA := t6_gA hg hk2
          simp (disch := omega) only [nI_clamp]
          refine ⟨vp_in_nI (by omega) (by decide), fun a => ?_, fun a => leaf7 k hz a hk2⟩
          refine ⟨100 + (gC w0.1 - (k + 1)), _, by omega, ⟨k + 1, by omega, rfl, lt_s hz (fun q => q a), rfl⟩, ?_⟩
          simp only [List.mem_cons, List.not_mem_nil, or_false, forall_eq_or_imp, forall_eq, Nat.reduceBEq, cond_true, cond_false, Option.some.injEq, Value.int.injEq, Value.long.injEq, Value.ref.injEq, true_and, and_true]
          exact nI_add k 1
      · obtain ⟨rfl, h7, k, hk, rfl, hz, z, hZ, rfl⟩ := hinv
        have n7 : oI (q7 w0.1) (gC w0.1) = -1 := oI_none h7
        have q4 := bl_q4 w0.1 (gA w0.1 k)
        simp only [pX4_badSegments, eX4_badSegments, fX4_badSegment, fX4_beginsBefore, fX4_breaks, fX4_four, fX4_segmentAt, fX4_segmentCount, rx_n, rx_s, rx_to, rx_get, rx_f1, rx_f2, rx_two, rx_ext, rx_any, rx_hV, rx_hS, rx_hG, rx_hP, rx_hAi, rx_hAb, rx_hBb, rx_hBi, rx_hBp, rx_hL, rx_hLi, rx_got, rx_pop, rx_sum, rx_len, rx_c, rx_m1, lv_args, Value.category, rx_cut_n, rx_cut_m0, rx_cut_m1, rx_iconst, rx_bipush, rx_sipush, rx_lconst, rx_iload_n, rx_iload, rx_lload_n, rx_lload, rx_aload_n, rx_aload, rx_istore_n, rx_istore, rx_lstore_n, rx_lstore, rx_astore_n, rx_astore, rx_iinc, rx_iadd, rx_isub, rx_imul, rx_iand, rx_ixor, rx_ishr, rx_idiv, rx_irem, rx_ladd, rx_lsub, rx_land, rx_lor, rx_lxor, rx_lmul, rx_ldiv, rx_lrem, rx_lushr, rx_lshl, rx_lshr, rx_lneg, rx_i2l, rx_l2i, rx_i2b, rx_lcmp, rx_dup_i, rx_dup_a, rx_pop_i, rx_pop_a, rx_if_eq, rx_if_ne, rx_if_lt, rx_if_ge, rx_if_gt, rx_if_le, rx_icmp_eq, rx_icmp_ne, rx_icmp_lt, rx_icmp_ge, rx_icmp_gt, rx_icmp_le, rx_goto, rx_tsw, rx_ireturn, rx_lreturn, rx_return_, rx_getfield, rx_putfield, rx_invokevirtual, rx_invokespecial, rx_invokestatic, rx_ldc, rx_ldc2_w, rx_iaload, rx_iastore, rx_baload, rx_bastore, Nat.reduceBEq, Nat.reduceAdd, Nat.reduceSub, Nat.reduceMul, Nat.reduceLeDiff, Nat.reduceEqDiff, Nat.reduceLT, Int.reduceLT, Int.reduceLE, Int.reduceNeg, Int.reduceToNat, Int.reduceAdd, Fin.isValue, Fin.val_zero, Fin.val_one, Fin.reduceFinMk, Fin.val_ofNat, Bool.or_true, Bool.true_or, Bool.or_false, Bool.false_or, Bool.and_true, Bool.true_and, Bool.and_false, Bool.false_and, cond_true, cond_false, ↓reduceIte, eq_self, ne_eq, not_true_eq_false, not_false_eq_true, true_and, and_true, Option.toList_some, Option.toList_none, List.cons_append, List.nil_append, Option.some.injEq, Value.int.injEq, Value.long.injEq, rx_l0, rx_l1, rx_fv0, rx_fv1, rx_fv2, rx_fv3, nI_c1, nI_c2, nI_c4, nI_c8, nI_c9, nI_c24, nI_c64, Nat.le_refl, bI_z, bI_0, bI_1, Classical.not_not, lg_cmp_ge, lg_cmp_le, lg_cmp_gt, lg_cmp_lt, lg_cmp_eq]
        simp only [e0]
        simp (disch := omega) only [nI_leI]
        refine ⟨fun h => ?_, fun h => ?_⟩
        · have n8 : oI (q8 w0.1) (gC w0.1) = -1 := oI_none (fun i hi => hz i (by omega))
          refine ⟨?_, fun q => q.elim (fun z => z n7) (fun z => z n8)⟩
          unfold mV7
          rw [if_neg (fun q => q n7), if_neg (fun q => q n8)]
        have hk2 : k < gC w0.1 := by omega
        have hA := t6_gA hg hk2
        have next : nI k + nI 1 = nI (k + 1) := nI_add k 1
        simp (disch := omega) only [nI_clamp, pk_lEQ]
        refine ⟨vp_in_nI (by omega) (by decide), fun a => ⟨fun b => ?_, fun b => ?_⟩, fun a => ?_⟩
        · refine ⟨gC w0.1 - (k + 1), _, by omega, ⟨h7, k + 1, by omega, rfl, lt_s hz ?_, nI k, lY_new a, rfl⟩, ?_⟩
          · rcases hZ with ⟨e1, e2⟩ | ⟨j, e1, e2, e3, e4⟩
            · exact fun q => by obtain ⟨_, j, hj, hl, _⟩ := q; exact e2 j hj hl
            · rw [e2] at b
              exact absurd b (nI_pos (by omega))
          · simp only [List.mem_cons, List.not_mem_nil, or_false, forall_eq_or_imp, forall_eq, Nat.reduceBEq, cond_true, cond_false, Option.some.injEq, Value.int.injEq, Value.long.injEq, Value.ref.injEq, true_and, and_true]
            exact next
        · rcases hZ with ⟨e1, e2⟩ | ⟨j, e1, e2, e3, e4⟩
          · exact absurd (by rw [e1]; decide) b
          · have hJ := t6_gA hg (show j < gC w0.1 by omega)
            subst e2
            simp only [e0]
            simp (disch := omega) only [nI_clamp]
            refine ⟨⟨vp_in_nI (by omega) (by decide), vp_in_nI (by omega) (by decide)⟩, fun c => ?_, fun c => ?_⟩
            · refine ⟨gC w0.1 - (k + 1), _, by omega, ⟨h7, k + 1, by omega, rfl, lt_s hz ?_, nI k, lY_new a, rfl⟩, ?_⟩
              · intro q
                obtain ⟨_, j', hj', hl, hm, hq⟩ := q
                have e5 : j' = j := by
                  by_cases a1 : j' < j
                  · exact absurd e3 (hm j a1 e1)
                  · by_cases a2 : j < j'
                    · exact absurd hl (e4 j' a2 hj')
                    · omega
                rw [e5] at hq
                exact c hq
              · simp only [List.mem_cons, List.not_mem_nil, or_false, forall_eq_or_imp, forall_eq, Nat.reduceBEq, cond_true, cond_false, Option.some.injEq, Value.int.injEq, Value.long.injEq, Value.ref.injEq, true_and, and_true]
                exact next
            · have e := oI_some hz (show q8 w0.1 k from ⟨a, j, e1, e3, e4, c⟩) hk2
              have n : ¬ oI (q8 w0.1) (gC w0.1) = -1 := by rw [e]; exact nI_nm1 (by omega)
              refine ⟨?_, bI_iff ⟨fun _ => Or.inr n, fun _ => trivial⟩⟩
              unfold mV7
              rw [if_neg (fun q => q n7), if_pos n, e]
        · refine ⟨gC w0.1 - (k + 1), _, by omega, ⟨h7, k + 1, by omega, rfl, lt_s hz (fun q => a q.1), z, lY_skip hZ a, rfl⟩, ?_⟩
          simp only [List.mem_cons, List.not_mem_nil, or_false, forall_eq_or_imp, forall_eq, Nat.reduceBEq, cond_true, cond_false, Option.some.injEq, Value.int.injEq, Value.long.injEq, Value.ref.injEq, true_and, and_true]
          exact next
    · simp only [pX4_badSegments, eX4_badSegments, fX4_badSegment, fX4_beginsBefore, fX4_breaks, fX4_four, fX4_segmentAt, fX4_segmentCount, rx_n, rx_s, rx_to, rx_get, rx_f1, rx_f2, rx_two, rx_ext, rx_any, rx_hV, rx_hS, rx_hG, rx_hP, rx_hAi, rx_hAb, rx_hBb, rx_hBi, rx_hBp, rx_hL, rx_hLi, rx_got, rx_pop, rx_sum, rx_len, rx_c, rx_m1, lv_args, Value.category, rx_cut_n, rx_cut_m0, rx_cut_m1, rx_iconst, rx_bipush, rx_sipush, rx_lconst, rx_iload_n, rx_iload, rx_lload_n, rx_lload, rx_aload_n, rx_aload, rx_istore_n, rx_istore, rx_lstore_n, rx_lstore, rx_astore_n, rx_astore, rx_iinc, rx_iadd, rx_isub, rx_imul, rx_iand, rx_ixor, rx_ishr, rx_idiv, rx_irem, rx_ladd, rx_lsub, rx_land, rx_lor, rx_lxor, rx_lmul, rx_ldiv, rx_lrem, rx_lushr, rx_lshl, rx_lshr, rx_lneg, rx_i2l, rx_l2i, rx_i2b, rx_lcmp, rx_dup_i, rx_dup_a, rx_pop_i, rx_pop_a, rx_if_eq, rx_if_ne, rx_if_lt, rx_if_ge, rx_if_gt, rx_if_le, rx_icmp_eq, rx_icmp_ne, rx_icmp_lt, rx_icmp_ge, rx_icmp_gt, rx_icmp_le, rx_goto, rx_tsw, rx_ireturn, rx_lreturn, rx_return_, rx_getfield, rx_putfield, rx_invokevirtual, rx_invokespecial, rx_invokestatic, rx_ldc, rx_ldc2_w, rx_iaload, rx_iastore, rx_baload, rx_bastore, Nat.reduceBEq, Nat.reduceAdd, Nat.reduceSub, Nat.reduceMul, Nat.reduceLeDiff, Nat.reduceEqDiff, Nat.reduceLT, Int.reduceLT, Int.reduceLE, Int.reduceNeg, Int.reduceToNat, Int.reduceAdd, Fin.isValue, Fin.val_zero, Fin.val_one, Fin.reduceFinMk, Fin.val_ofNat, Bool.or_true, Bool.true_or, Bool.or_false, Bool.false_or, Bool.and_true, Bool.true_and, Bool.and_false, Bool.false_and, cond_true, cond_false, ↓reduceIte, eq_self, ne_eq, not_true_eq_false, not_false_eq_true, true_and, and_true, Option.toList_some, Option.toList_none, List.cons_append, List.nil_append, Option.some.injEq, Value.int.injEq, Value.long.injEq, rx_l0, rx_l1, rx_fv0, rx_fv1, rx_fv2, rx_fv3, nI_c1, nI_c2, nI_c4, nI_c8, nI_c9, nI_c24, nI_c64, Nat.le_refl, bI_z, bI_0, bI_1, Classical.not_not, lg_cmp_ge, lg_cmp_le, lg_cmp_gt, lg_cmp_lt, lg_cmp_eq]
      refine ⟨100 + gC w.1, _, by omega, ⟨0, by omega, rfl, lt_0, rfl⟩, ?_⟩
      simp only [List.mem_cons, List.not_mem_nil, or_false, forall_eq_or_imp, forall_eq, Nat.reduceBEq, cond_true, cond_false, Option.some.injEq, Value.int.injEq, Value.long.injEq, Value.ref.injEq, true_and, and_true]
  · cases hf
