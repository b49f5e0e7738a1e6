def pX4_badSection : rx_P := [(0, .aload_n 0, 0), (1, .iload_n 1, 0), (2, .invokevirtual 50, 0), (5, .istore_n 2, 0), (6, .iload_n 1, 0), (7, .ifCond .ne 13, 20), (10, .aload_n 0, 0), (11, .iload_n 2, 0), (12, .bipush 64, 0), (14, .invokevirtual 112, 0), (17, .ifCond .eq 29, 46), (20, .aload_n 0, 0), (21, .iload_n 2, 0), (22, .iconst 4, 0), (23, .iadd, 0), (24, .invokevirtual 30, 0), (27, .ldc2_w 115, 0), (30, .lcmp, 0), (31, .ifCond .gt 15, 46), (34, .aload_n 0, 0), (35, .iload_n 2, 0), (36, .bipush 48, 0), (38, .iadd, 0), (39, .invokevirtual 40, 0), (42, .iconst 1, 0), (43, .if_icmp .le 5, 48), (46, .iconst 1, 0), (47, .ireturn, 0), (48, .aload_n 0, 0), (49, .iload_n 1, 0), (50, .invokevirtual 55, 0), (53, .ifCond .eq 21, 74), (56, .aload_n 0, 0), (57, .iload_n 2, 0), (58, .bipush 24, 0), (60, .iadd, 0), (61, .iload_n 2, 0), (62, .bipush 32, 0), (64, .iadd, 0), (65, .invokevirtual 93, 0), (68, .ifCond .ne 24, 92), (71, .goto 19, 90), (74, .aload_n 0, 0), (75, .iload_n 2, 0), (76, .bipush 24, 0), (78, .iadd, 0), (79, .aload_n 0, 0), (80, .getfield 43, 0), (83, .i2l, 0), (84, .invokevirtual 46, 0), (87, .ifCond .ne 5, 92), (90, .iconst 1, 0), (91, .ireturn, 0), (92, .aload_n 0, 0), (93, .iload_n 2, 0), (94, .bipush 48, 0), (96, .iadd, 0), (97, .invokevirtual 40, 0), (100, .ifCond .ne 5, 105), (103, .iconst 0, 0), (104, .ireturn, 0), (105, .iconst 0, 0), (106, .istore_n 3, 0), (107, .iload_n 3, 0), (108, .bipush 64, 0), (110, .if_icmp .ge 63, 173), (113, .aload_n 0, 0), (114, .getfield 7, 0), (117, .iload_n 2, 0), (118, .bipush 48, 0), (120, .iadd, 0), (121, .iload_n 3, 0), (122, .bipush 8, 0), (124, .idiv, 0), (125, .iadd, 0), (126, .iaload, 0), (127, .iload_n 3, 0), (128, .bipush 8, 0), (130, .irem, 0), (131, .ishr, 0), (132, .iconst 1, 0), (133, .iand, 0), (134, .iconst 1, 0), (135, .if_icmp .ne 5, 140), (138, .iconst 0, 0), (139, .ireturn, 0), (140, .aload_n 0, 0), (141, .getfield 7, 0), (144, .iload_n 2, 0), (145, .bipush 16, 0), (147, .iadd, 0), (148, .iload_n 3, 0), (149, .bipush 8, 0), (151, .idiv, 0), (152, .iadd, 0), (153, .iaload, 0), (154, .iload_n 3, 0), (155, .bipush 8, 0), (157, .irem, 0), (158, .ishr, 0), (159, .iconst 1, 0), (160, .iand, 0), (161, .iconst 1, 0), (162, .if_icmp .ne 5, 167), (165, .iconst 1, 0), (166, .ireturn, 0), (167, .iinc 3 1, 0), (170, .goto (-63), 107), (173, .iconst 0, 0), (174, .ireturn, 0)]
theorem pX4_badSection_ok : ∀ q ∈ pX4_badSection, rx_ok cX4_badSection q := rx_ok_all (by decide +kernel)
abbrev rX4_badSection : Room := { frames := 4, cells := 0, slots := 0, locals := 87 }
noncomputable def fX4_badSection : rx_F mS := fun w as => match as with
  | [.int k] => some (t6 w.1 ∧ nI k.toNatClampNeg = k ∧ k.toNatClampNeg < sC w.1, w, some (.int (bI (q9 w.1 k.toNatClampNeg))))
  | _ => none
noncomputable def eX4_badSection (am : Nat → Nat) : rx_E mS := rx_any [rx_hV 50 1 (am 0) fX4_sectionAt, rx_hV 112 2 (am 0) fX4_zeros, rx_hV 30 1 (am 0) fX4_four, rx_hL 115 (lN 11), rx_hV 40 1 (am 0) fX4_ones, rx_hV 55 1 (am 0) fX4_hasBytes, rx_hV 93 2 (am 0) fX4_hasRoom, rx_hG 43 (am 0) (fun w => .int (nI (bn w.1))), rx_hV 46 2 (am 0) fX4_atMost, rx_hG 7 (am 0) (fun w => .ref (am 1)), rx_hAi (am 1) 640 (fun w k => nI (bg w.1 k))]
set_option maxHeartbeats 4000000 in
set_option maxRecDepth 100000 in
theorem eo_X4_badSection (l : Launch) (D : va_G) (am : Nat → Nat) (cI cZ : ClassId) : ∀ (p : Program) (e : Env) (s : State) (m : MethodId) (args : Array Value) (below : List Frame) (meth : Method) (c : Code) (Qw : State → Prop), CallFix p m c cX4_badSection 4 s args (Cond.code yX4_badSection cX4_badSection 4 (some .boolean) :: wsA) RX4 → mK D cI cZ s → rx_Eok (fun H locs g => W p l e rX4_badSection s m args below meth c H locs 0 0 Qw g) m cX4_badSection 4 (tr_I D vwCl (mA am) s (mW am cI cZ)) (eX4_badSection am) := by
  intro p e s m args below meth c Qw S hK
  have ht : ∀ w ∈ wsA, w.before args s = true := fun w h => S.2.2.2.2 w (wsA_in h)
  exact rx_any_c (rx_hV_ok S ⟨Nat.zero_le _, Nat.zero_le _⟩ mK_tr hK (cwV 1 S.2.2.2.2 (wsA_V wkX4_50 wiX4_sectionAt weX4_sectionAt winiX4 wX4_sectionAt) rfl rfl rfl (by decide +kernel) ⟨by decide, by decide⟩) (ct_X4_sectionAt l D am cI cZ) (fun w H hP => va_recv hK.1 hP (rfl : vwCl[4]? = some (RX4, TX4, 7)) (rfl : (mW am cI cZ w)[0]? = some _))) (rx_any_c (rx_hV_ok S ⟨Nat.zero_le _, Nat.zero_le _⟩ mK_tr hK (cwV 2 S.2.2.2.2 (wsA_V wkX4_112 wiX4_zeros weX4_zeros winiX4 wX4_zeros) rfl rfl rfl (by decide +kernel) ⟨by decide, by decide⟩) (ct_X4_zeros l D am cI cZ) (fun w H hP => va_recv hK.1 hP (rfl : vwCl[4]? = some (RX4, TX4, 7)) (rfl : (mW am cI cZ w)[0]? = some _))) (rx_any_c (rx_hV_ok S ⟨Nat.zero_le _, Nat.zero_le _⟩ mK_tr hK (cwV 1 S.2.2.2.2 (wsA_V wkX4_30 wiX4_four weX4_four winiX4 wX4_four) rfl rfl rfl (by decide +kernel) ⟨by decide, by decide⟩) (ct_X4_four l D am cI cZ) (fun w H hP => va_recv hK.1 hP (rfl : vwCl[4]? = some (RX4, TX4, 7)) (rfl : (mW am cI cZ w)[0]? = some _))) (rx_any_c (rx_hL_ok S (ht _ wcX4_115)) (rx_any_c (rx_hV_ok S ⟨Nat.zero_le _, Nat.zero_le _⟩ mK_tr hK (cwV 1 S.2.2.2.2 (wsA_V wkX4_40 wiX4_ones weX4_ones winiX4 wX4_ones) rfl rfl rfl (by decide +kernel) ⟨by decide, by decide⟩) (ct_X4_ones l D am cI cZ) (fun w H hP => va_recv hK.1 hP (rfl : vwCl[4]? = some (RX4, TX4, 7)) (rfl : (mW am cI cZ w)[0]? = some _))) (rx_any_c (rx_hV_ok S ⟨Nat.zero_le _, Nat.zero_le _⟩ mK_tr hK (cwV 1 S.2.2.2.2 (wsA_V wkX4_55 wiX4_hasBytes weX4_hasBytes winiX4 wX4_hasBytes) rfl rfl rfl (by decide +kernel) ⟨by decide, by decide⟩) (ct_X4_hasBytes l D am cI cZ) (fun w H hP => va_recv hK.1 hP (rfl : vwCl[4]? = some (RX4, TX4, 7)) (rfl : (mW am cI cZ w)[0]? = some _))) (rx_any_c (rx_hV_ok S ⟨Nat.zero_le _, Nat.zero_le _⟩ mK_tr hK (cwV 2 S.2.2.2.2 (wsA_V wkX4_93 wiX4_hasRoom weX4_hasRoom winiX4 wX4_hasRoom) rfl rfl rfl (by decide +kernel) ⟨by decide, by decide⟩) (ct_X4_hasRoom l D am cI cZ) (fun w H hP => va_recv hK.1 hP (rfl : vwCl[4]? = some (RX4, TX4, 7)) (rfl : (mW am cI cZ w)[0]? = some _))) (rx_any_c (rx_hG_ok (fun w H locs pc ls rest hI hd k => va_get (D := D) (ci := 4) (C := RX4) (T := TX4) (N := 7) S.1 S.2.1 ht inX4 S.2.2.2.1 hK.1 hI.1 0 rfl rfl 1 (by decide) (ht _ wfX4_43) (fun _ h9 => h9) rfl hd k)) (rx_any_c (rx_hV_ok S ⟨Nat.zero_le _, Nat.zero_le _⟩ mK_tr hK (cwV 2 S.2.2.2.2 (wsA_V wkX4_46 wiX4_atMost weX4_atMost winiX4 wX4_atMost) rfl rfl rfl (by decide +kernel) ⟨by decide, by decide⟩) (ct_X4_atMost l D am cI cZ) (fun w H hP => va_recv hK.1 hP (rfl : vwCl[4]? = some (RX4, TX4, 7)) (rfl : (mW am cI cZ w)[0]? = some _))) (rx_any_c (rx_hG_ok (fun w H locs pc ls rest hI hd k => va_get (D := D) (ci := 4) (C := RX4) (T := TX4) (N := 7) S.1 S.2.1 ht inX4 S.2.2.2.1 hK.1 hI.1 0 rfl rfl 2 (by decide) (ht _ wfX4_7) (fun _ h9 => h9) rfl hd k)) (rx_any_c (rx_hAi_ok (fun w H locs pc ls rest x hI hin hd k => va_iald S.1 S.2.1 hK.1 hI.1 1 0 rfl rfl hin hd k)) (rx_any_0)))))))))))
set_option maxHeartbeats 4000000 in
set_option maxRecDepth 100000 in
theorem ct_X4_badSection (l : Launch) (D : va_G) (am : Nat → Nat) (cI cZ : ClassId) : ctM l yX4_badSection cX4_badSection 4 (some .boolean) rX4_badSection D am cI cZ [.ref (am 0)] fX4_badSection := by
  intro w as g w1 r hf hg
  unfold fX4_badSection at hf
  split at hf
  · next k =>
    cases hf
    obtain ⟨h6, hk, hl⟩ := hg
    generalize k.toNatClampNeg = K at hk hl ⊢
    subst hk
    have hB := bn_le w.1
    have hA := t6_sA h6 hl
    have hc := sC_lt w.1
    have e0 : nI (bl w.1 40 8) + nI 64 * nI K = nI (sA w.1 K) := by unfold sA; rw [pk_mul, nI_add]
    refine tr_of (rx_mc [(20, fun u w0 lv => w0 = w ∧ u = 300 ∧ (K = 0 → ∀ i, i < 64 → bg w.1 (sA w.1 0 + i) = 0) ∧ lv = [(0, .ref (am 0)), (1, .int (nI K)), (2, .int (nI (sA w.1 K)))]), (92, fun u w0 lv => w0 = w ∧ u = 200 ∧ (K = 0 → ∀ i, i < 64 → bg w.1 (sA w.1 0 + i) = 0) ∧ kd w.1 K ≤ 11 ∧ pw (bl w.1 (sA w.1 K + 48) 8) ∧ rP w.1 K + rL w.1 K ≤ bn w.1 ∧ lv = [(0, .ref (am 0)), (1, .int (nI K)), (2, .int (nI (sA w.1 K)))]), (107, fun u w0 lv => w0 = w ∧ (K = 0 → ∀ i, i < 64 → bg w.1 (sA w.1 0 + i) = 0) ∧ kd w.1 K ≤ 11 ∧ pw (bl w.1 (sA w.1 K + 48) 8) ∧ rP w.1 K + rL w.1 K ≤ bn w.1 ∧ ¬ bl w.1 (sA w.1 K + 48) 8 = 0 ∧ ∃ j, j ≤ 64 ∧ u = 64 - j ∧ (∀ k, k < j → ¬ bit w.1 (sA w.1 K + 48) k = 1 ∧ ¬ bit w.1 (sA w.1 K + 16) k = 1) ∧ lv = [(0, .ref (am 0)), (1, .int (nI K)), (2, .int (nI (sA w.1 K))), (3, .int (nI j))])]) 400 400 100000 (by decide) rfl rfl (Nat.le_of_ble_eq_true rfl) pX4_badSection_ok (rt_z _) (eo_X4_badSection l D am cI cZ) ?_ ?_
    · intro pc g0 hpc u w0 lv hinv
      have hh := rx_mc_of _ hpc
      clear hpc
      simp only [List.mem_cons, List.not_mem_nil, or_false, Prod.mk.injEq] at hh
      rcases hh with ⟨rfl, rfl⟩ | ⟨rfl, rfl⟩ | ⟨rfl, rfl⟩
      · obtain ⟨rfl, rfl, hz, rfl⟩ := hinv
        have h4 : kd w0.1 K < 4294967296 := bl_q4 w0.1 _
        have p1 := pcn_le w0.1 (sA w0.1 K + 48) 64
        simp only [pX4_badSection, eX4_badSection, fX4_atMost, fX4_four, fX4_hasBytes, fX4_hasRoom, fX4_ones, fX4_sectionAt, fX4_zeros, rx_n, rx_s, rx_to, rx_get, rx_f1, rx_f2, rx_two, rx_ext, rx_any, rx_hV, rx_hS, rx_hG, rx_hP, rx_hAi, rx_hAb, rx_hBb, rx_hBi, rx_hBp, rx_hL, rx_hLi, rx_got, rx_pop, rx_sum, rx_len, rx_c, rx_m1, lv_args, Value.category, rx_cut_n, rx_cut_m0, rx_cut_m1, rx_iconst, rx_bipush, rx_sipush, rx_lconst, rx_iload_n, rx_iload, rx_lload_n, rx_lload, rx_aload_n, rx_aload, rx_istore_n, rx_istore, rx_lstore_n, rx_lstore, rx_astore_n, rx_astore, rx_iinc, rx_iadd, rx_isub, rx_imul, rx_iand, rx_ixor, rx_ishr, rx_idiv, rx_irem, rx_ladd, rx_lsub, rx_land, rx_lor, rx_lxor, rx_lmul, rx_ldiv, rx_lrem, rx_lushr, rx_lshl, rx_lshr, rx_lneg, rx_i2l, rx_l2i, rx_i2b, rx_lcmp, rx_dup_i, rx_dup_a, rx_pop_i, rx_pop_a, rx_if_eq, rx_if_ne, rx_if_lt, rx_if_ge, rx_if_gt, rx_if_le, rx_icmp_eq, rx_icmp_ne, rx_icmp_lt, rx_icmp_ge, rx_icmp_gt, rx_icmp_le, rx_goto, rx_tsw, rx_ireturn, rx_lreturn, rx_return_, rx_getfield, rx_putfield, rx_invokevirtual, rx_invokespecial, rx_invokestatic, rx_ldc, rx_ldc2_w, rx_iaload, rx_iastore, rx_baload, rx_bastore, Nat.reduceBEq, Nat.reduceAdd, Nat.reduceSub, Nat.reduceMul, Nat.reduceLeDiff, Nat.reduceEqDiff, Nat.reduceLT, Int.reduceLT, Int.reduceLE, Int.reduceNeg, Int.reduceToNat, Int.reduceAdd, Fin.isValue, Fin.val_zero, Fin.val_one, Fin.reduceFinMk, Fin.val_ofNat, Bool.or_true, Bool.true_or, Bool.or_false, Bool.false_or, Bool.and_true, Bool.true_and, Bool.and_false, Bool.false_and, cond_true, cond_false, ↓reduceIte, eq_self, ne_eq, not_true_eq_false, not_false_eq_true, true_and, and_true, Option.toList_some, Option.toList_none, List.cons_append, List.nil_append, Option.some.injEq, Value.int.injEq, Value.long.injEq, rx_l0, rx_l1, rx_fv0, rx_fv1, rx_fv2, rx_fv3, nI_c1, nI_c2, nI_c4, nI_c8, nI_c9, nI_c24, nI_c64, Nat.le_refl, bI_z, bI_0, bI_1, Classical.not_not, lg_cmp_ge, lg_cmp_le, lg_cmp_gt, lg_cmp_lt, lg_cmp_eq]
        simp (disch := omega) only [nI_add, nI_clamp, uN_bn, bn_l, nI_leI, pcn_1]
        rw [show bl w0.1 (sA w0.1 K + 4) 4 = kd w0.1 K from rfl, show bl w0.1 (sA w0.1 K + 24) 8 = rP w0.1 K from rfl]
        simp (disch := omega) only [pk_lLT]
        have nb : ¬ (kd w0.1 K ≤ 11 ∧ pw (bl w0.1 (sA w0.1 K + 48) 8) ∧ rP w0.1 K + rL w0.1 K ≤ bn w0.1) → q9 w0.1 K := fun q => Or.inl (fun z => q ⟨z.1, z.2.1, z.2.2.1⟩)
        refine ⟨vp_in_nI (by omega) (by decide), fun a => nb (fun q => by omega), fun a => ⟨vp_in_nI (by omega) (by decide), fun b => ?_, fun b => nb (fun q => b q.2.1)⟩⟩
        refine ⟨⟨h6, trivial, hl⟩, fun c => ?_, fun c => ?_⟩
        · have e : rL w0.1 K = 0 := if_pos (by omega)
          refine ⟨⟨vp_in_nI (by omega) (by decide), by omega⟩, fun d => ?_, fun d => nb (fun q => d (by omega))⟩
          refine ⟨200, _, by omega, ⟨rfl, hz, by omega, b, by omega, rfl⟩, ?_⟩
          simp only [List.mem_cons, List.not_mem_nil, or_false, forall_eq_or_imp, forall_eq, Nat.reduceBEq, cond_true, cond_false, Option.some.injEq, Value.int.injEq, Value.long.injEq, Value.ref.injEq, true_and, and_true]
        · have e : rL w0.1 K = bl w0.1 (sA w0.1 K + 32) 8 := if_neg (by omega)
          refine ⟨⟨vp_in_nI (by omega) (by decide), vp_in_nI (by omega) (by decide)⟩, fun d => ?_, fun d => nb (fun q => d (by omega))⟩
          refine ⟨200, _, by omega, ⟨rfl, hz, by omega, b, by omega, rfl⟩, ?_⟩
          simp only [List.mem_cons, List.not_mem_nil, or_false, forall_eq_or_imp, forall_eq, Nat.reduceBEq, cond_true, cond_false, Option.some.injEq, Value.int.injEq, Value.long.injEq, Value.ref.injEq, true_and, and_true]
      · obtain ⟨rfl, rfl, hz, h1, h2, h3, rfl⟩ := hinv
        have p1 := pcn_le w0.1 (sA w0.1 K + 48) 64
        simp only [pX4_badSection, eX4_badSection, fX4_atMost, fX4_four, fX4_hasBytes, fX4_hasRoom, fX4_ones, fX4_sectionAt, fX4_zeros, rx_n, rx_s, rx_to, rx_get, rx_f1, rx_f2, rx_two, rx_ext, rx_any, rx_hV, rx_hS, rx_hG, rx_hP, rx_hAi, rx_hAb, rx_hBb, rx_hBi, rx_hBp, rx_hL, rx_hLi, rx_got, rx_pop, rx_sum, rx_len, rx_c, rx_m1, lv_args, Value.category, rx_cut_n, rx_cut_m0, rx_cut_m1, rx_iconst, rx_bipush, rx_sipush, rx_lconst, rx_iload_n, rx_iload, rx_lload_n, rx_lload, rx_aload_n, rx_aload, rx_istore_n, rx_istore, rx_lstore_n, rx_lstore, rx_astore_n, rx_astore, rx_iinc, rx_iadd, rx_isub, rx_imul, rx_iand, rx_ixor, rx_ishr, rx_idiv, rx_irem, rx_ladd, rx_lsub, rx_land, rx_lor, rx_lxor, rx_lmul, rx_ldiv, rx_lrem, rx_lushr, rx_lshl, rx_lshr, rx_lneg, rx_i2l, rx_l2i, rx_i2b, rx_lcmp, rx_dup_i, rx_dup_a, rx_pop_i, rx_pop_a, rx_if_eq, rx_if_ne, rx_if_lt, rx_if_ge, rx_if_gt, rx_if_le, rx_icmp_eq, rx_icmp_ne, rx_icmp_lt, rx_icmp_ge, rx_icmp_gt, rx_icmp_le, rx_goto, rx_tsw, rx_ireturn, rx_lreturn, rx_return_, rx_getfield, rx_putfield, rx_invokevirtual, rx_invokespecial, rx_invokestatic, rx_ldc, rx_ldc2_w, rx_iaload, rx_iastore, rx_baload, rx_bastore, Nat.reduceBEq, Nat.reduceAdd, Nat.reduceSub, Nat.reduceMul, Nat.reduceLeDiff, Nat.reduceEqDiff, Nat.reduceLT, Int.reduceLT, Int.reduceLE, Int.reduceNeg, Int.reduceToNat, Int.reduceAdd, Fin.isValue, Fin.val_zero, Fin.val_one, Fin.reduceFinMk, Fin.val_ofNat, Bool.or_true, Bool.true_or, Bool.or_false, Bool.false_or, Bool.and_true, Bool.true_and, Bool.and_false, Bool.false_and, cond_true, cond_false, ↓reduceIte, eq_self, ne_eq, not_true_eq_false, not_false_eq_true, true_and, and_true, Option.toList_some, Option.toList_none, List.cons_append, List.nil_append, Option.some.injEq, Value.int.injEq, Value.long.injEq, rx_l0, rx_l1, rx_fv0, rx_fv1, rx_fv2, rx_fv3, nI_c1, nI_c2, nI_c4, nI_c8, nI_c9, nI_c24, nI_c64, Nat.le_refl, bI_z, bI_0, bI_1, Classical.not_not, lg_cmp_ge, lg_cmp_le, lg_cmp_gt, lg_cmp_lt, lg_cmp_eq]
        simp (disch := omega) only [nI_add, nI_clamp, nI_z, pcn_0]
        refine ⟨vp_in_nI (by omega) (by decide), fun a => ?_, fun a => ?_⟩
        · refine ⟨64, _, by omega, ⟨hz, h1, h2, h3, a, 0, by omega, rfl, lt_0, rfl⟩, ?_⟩
          simp only [List.mem_cons, List.not_mem_nil, or_false, forall_eq_or_imp, forall_eq, Nat.reduceBEq, cond_true, cond_false, Option.some.injEq, Value.int.injEq, Value.long.injEq, Value.ref.injEq, true_and, and_true]
        · rintro (q | q)
          · exact q ⟨h1, h2, h3, Or.inl a⟩
          · exact q.2 (hz q.1)
      · obtain ⟨rfl, hz, h1, h2, h3, h0, j, hj, rfl, hy, rfl⟩ := hinv
        obtain ⟨m, hm⟩ := h2.resolve_left h0
        have hm64 : m < 64 := by
          have h8 := bl_q8 w0.1 (sA w0.1 K + 48)
          rw [hm] at h8
          exact (Nat.pow_lt_pow_iff_right (a := 2) (by decide)).mp (show 2 ^ m < 2 ^ 64 from h8)
        have hbit : ∀ k, k < 64 → (bit w0.1 (sA w0.1 K + 48) k = 1 ↔ k = m) := fun k hk => by rw [bit_eq _ _ _ hk, hm, pow_bit]
        have hlow : (∀ k, k < m → ¬ bit w0.1 (sA w0.1 K + 16) k = 1) ↔ bl w0.1 (sA w0.1 K + 16) 8 % bl w0.1 (sA w0.1 K + 48) 8 = 0 := by
          have e := low_eq (bl w0.1 (sA w0.1 K + 16) 8) 0 m
          rw [Nat.zero_mod] at e
          rw [hm, ← e]
          refine ⟨fun q k hk => ?_, fun q k hk => ?_⟩
          · have a1 := q k hk
            have a2 := bit_01 w0.1 (sA w0.1 K + 16) k
            rw [bit_eq _ _ _ (by omega)] at a1 a2
            rw [Nat.zero_div]
            omega
          · have a1 := q k hk
            rw [Nat.zero_div] at a1
            rw [bit_eq _ _ _ (by omega)]
            omega
        simp only [pX4_badSection, eX4_badSection, fX4_atMost, fX4_four, fX4_hasBytes, fX4_hasRoom, fX4_ones, fX4_sectionAt, fX4_zeros, rx_n, rx_s, rx_to, rx_get, rx_f1, rx_f2, rx_two, rx_ext, rx_any, rx_hV, rx_hS, rx_hG, rx_hP, rx_hAi, rx_hAb, rx_hBb, rx_hBi, rx_hBp, rx_hL, rx_hLi, rx_got, rx_pop, rx_sum, rx_len, rx_c, rx_m1, lv_args, Value.category, rx_cut_n, rx_cut_m0, rx_cut_m1, rx_iconst, rx_bipush, rx_sipush, rx_lconst, rx_iload_n, rx_iload, rx_lload_n, rx_lload, rx_aload_n, rx_aload, rx_istore_n, rx_istore, rx_lstore_n, rx_lstore, rx_astore_n, rx_astore, rx_iinc, rx_iadd, rx_isub, rx_imul, rx_iand, rx_ixor, rx_ishr, rx_idiv, rx_irem, rx_ladd, rx_lsub, rx_land, rx_lor, rx_lxor, rx_lmul, rx_ldiv, rx_lrem, rx_lushr, rx_lshl, rx_lshr, rx_lneg, rx_i2l, rx_l2i, rx_i2b, rx_lcmp, rx_dup_i, rx_dup_a, rx_pop_i, rx_pop_a, rx_if_eq, rx_if_ne, rx_if_lt, rx_if_ge, rx_if_gt, rx_if_le, rx_icmp_eq, rx_icmp_ne, rx_icmp_lt, rx_icmp_ge, rx_icmp_gt, rx_icmp_le, rx_goto, rx_tsw, rx_ireturn, rx_lreturn, rx_return_, rx_getfield, rx_putfield, rx_invokevirtual, rx_invokespecial, rx_invokestatic, rx_ldc, rx_ldc2_w, rx_iaload, rx_iastore, rx_baload, rx_bastore, Nat.reduceBEq, Nat.reduceAdd, Nat.reduceSub, Nat.reduceMul, Nat.reduceLeDiff, Nat.reduceEqDiff, Nat.reduceLT, Int.reduceLT, Int.reduceLE, Int.reduceNeg, Int.reduceToNat, Int.reduceAdd, Fin.isValue, Fin.val_zero, Fin.val_one, Fin.reduceFinMk, Fin.val_ofNat, Bool.or_true, Bool.true_or, Bool.or_false, Bool.false_or, Bool.and_true, Bool.true_and, Bool.and_false, Bool.false_and, cond_true, cond_false, ↓reduceIte, eq_self, ne_eq, not_true_eq_false, not_false_eq_true, true_and, and_true, Option.toList_some, Option.toList_none, List.cons_append, List.nil_append, Option.some.injEq, Value.int.injEq, Value.long.injEq, rx_l0, rx_l1, rx_fv0, rx_fv1, rx_fv2, rx_fv3, nI_c1, nI_c2, nI_c4, nI_c8, nI_c9, nI_c24, nI_c64, Nat.le_refl, bI_z, bI_0, bI_1, Classical.not_not, lg_cmp_ge, lg_cmp_le, lg_cmp_gt, lg_cmp_lt, lg_cmp_eq]
        rw [nI_leI (by omega) (by omega)]
        refine ⟨fun h => ?_, fun h => ?_⟩
        · exact absurd ((hbit m hm64).mpr rfl) (hy m (by omega)).1
        have b1 := bit_01 w0.1 (sA w0.1 K + 48) j
        have b2 := bit_01 w0.1 (sA w0.1 K + 16) j
        simp (disch := omega) only [pk_div, rem_8, nI_add, nI_clamp, bit_v]
        simp (disch := omega) only [nI_eq]
        refine ⟨by decide, vp_in_nI (by omega) (by decide), by decide, fun h2 => ⟨by decide, vp_in_nI (by omega) (by decide), by decide, fun h3' => ?_, fun h3' => ?_⟩, fun h2' => ?_⟩
        · refine ⟨64 - (j + 1), _, by omega, ⟨hz, h1, Or.inr ⟨m, hm⟩, h3, h0, j + 1, by omega, rfl, lt_s hy ⟨h2, h3'⟩, rfl⟩, ?_⟩
          simp only [List.mem_cons, List.not_mem_nil, or_false, forall_eq_or_imp, forall_eq, Nat.reduceBEq, cond_true, cond_false, Option.some.injEq, Value.int.injEq, Value.long.injEq, Value.ref.injEq, true_and, and_true]
        · refine Or.inl fun q => ?_
          rcases q.2.2.2 with q | q
          · exact h0 q
          · have hjm : j < m := by
              by_cases c1 : j < m
              · exact c1
              · by_cases c2 : j = m
                · exact absurd ((hbit j (by omega)).mpr c2) h2
                · exact absurd ((hbit m hm64).mpr rfl) (hy m (by omega)).1
            exact hlow.mpr q j hjm h3'
        · have e := (hbit j (by omega)).mp h2'
          subst e
          rintro (q | q)
          · exact q ⟨h1, Or.inr ⟨_, hm⟩, h3, Or.inr (hlow.mp fun k hk => (hy k hk).2)⟩
          · exact q.2 (hz q.1)
    · simp only [pX4_badSection, eX4_badSection, fX4_atMost, fX4_four, fX4_hasBytes, fX4_hasRoom, fX4_ones, fX4_sectionAt, fX4_zeros, rx_n, rx_s, rx_to, rx_get, rx_f1, rx_f2, rx_two, rx_ext, rx_any, rx_hV, rx_hS, rx_hG, rx_hP, rx_hAi, rx_hAb, rx_hBb, rx_hBi, rx_hBp, rx_hL, rx_hLi, rx_got, rx_pop, rx_sum, rx_len, rx_c, rx_m1, lv_args, Value.category, rx_cut_n, rx_cut_m0, rx_cut_m1, rx_iconst, rx_bipush, rx_sipush, rx_lconst, rx_iload_n, rx_iload, rx_lload_n, rx_lload, rx_aload_n, rx_aload, rx_istore_n, rx_istore, rx_lstore_n, rx_lstore, rx_astore_n, rx_astore, rx_iinc, rx_iadd, rx_isub, rx_imul, rx_iand, rx_ixor, rx_ishr, rx_idiv, rx_irem, rx_ladd, rx_lsub, rx_land, rx_lor, rx_lxor, rx_lmul, rx_ldiv, rx_lrem, rx_lushr, rx_lshl, rx_lshr, rx_lneg, rx_i2l, rx_l2i, rx_i2b, rx_lcmp, rx_dup_i, rx_dup_a, rx_pop_i, rx_pop_a, rx_if_eq, rx_if_ne, rx_if_lt, rx_if_ge, rx_if_gt, rx_if_le, rx_icmp_eq, rx_icmp_ne, rx_icmp_lt, rx_icmp_ge, rx_icmp_gt, rx_icmp_le, rx_goto, rx_tsw, rx_ireturn, rx_lreturn, rx_return_, rx_getfield, rx_putfield, rx_invokevirtual, rx_invokespecial, rx_invokestatic, rx_ldc, rx_ldc2_w, rx_iaload, rx_iastore, rx_baload, rx_bastore, Nat.reduceBEq, Nat.reduceAdd, Nat.reduceSub, Nat.reduceMul, Nat.reduceLeDiff, Nat.reduceEqDiff, Nat.reduceLT, Int.reduceLT, Int.reduceLE, Int.reduceNeg, Int.reduceToNat, Int.reduceAdd, Fin.isValue, Fin.val_zero, Fin.val_one, Fin.reduceFinMk, Fin.val_ofNat, Bool.or_true, Bool.true_or, Bool.or_false, Bool.false_or, Bool.and_true, Bool.true_and, Bool.and_false, Bool.false_and, cond_true, cond_false, ↓reduceIte, eq_self, ne_eq, not_true_eq_false, not_false_eq_true, true_and, and_true, Option.toList_some, Option.toList_none, List.cons_append, List.nil_append, Option.some.injEq, Value.int.injEq, Value.long.injEq, rx_l0, rx_l1, rx_fv0, rx_fv1, rx_fv2, rx_fv3, nI_c1, nI_c2, nI_c4, nI_c8, nI_c9, nI_c24, nI_c64, Nat.le_refl, bI_z, bI_0, bI_1, Classical.not_not, lg_cmp_ge, lg_cmp_le, lg_cmp_gt, lg_cmp_lt, lg_cmp_eq]
      simp only [e0]
      simp (disch := omega) only [nI_z, nI_clamp]
      refine ⟨fun a => ?_, fun a => ⟨⟨trivial, by omega⟩, fun b => ?_, fun b => ?_⟩⟩
      · refine ⟨300, _, by omega, ⟨rfl, fun q => absurd q a, rfl⟩, ?_⟩
        simp only [List.mem_cons, List.not_mem_nil, or_false, forall_eq_or_imp, forall_eq, Nat.reduceBEq, cond_true, cond_false, Option.some.injEq, Value.int.injEq, Value.long.injEq, Value.ref.injEq, true_and, and_true]
      · subst a
        exact Or.inr ⟨rfl, b⟩
      · subst a
        refine ⟨300, _, by omega, ⟨rfl, fun _ => b, rfl⟩, ?_⟩
        simp only [List.mem_cons, List.not_mem_nil, or_false, forall_eq_or_imp, forall_eq, Nat.reduceBEq, cond_true, cond_false, Option.some.injEq, Value.int.injEq, Value.long.injEq, Value.ref.injEq, true_and, and_true]
  · cases hf
