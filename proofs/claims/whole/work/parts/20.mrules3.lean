def pX4_badSymbol : rx_P := [(0, .aload_n 0, 0), (1, .iload_n 1, 0), (2, .iload_n 2, 0), (3, .invokevirtual 124, 0), (6, .istore_n 3, 0), (7, .aload_n 0, 0), (8, .iload_n 3, 0), (9, .bipush 6, 0), (11, .iadd, 0), (12, .invokevirtual 24, 0), (15, .istore 4, 0), (17, .aload_n 0, 0), (18, .iload_n 3, 0), (19, .invokevirtual 30, 0), (22, .aload_n 0, 0), (23, .aload_n 0, 0), (24, .iload_n 1, 0), (25, .invokevirtual 127, 0), (28, .invokevirtual 67, 0), (31, .i2l, 0), (32, .lcmp, 0), (33, .ifCond .ge 26, 59), (36, .iload 4, 0), (38, .aload_n 0, 0), (39, .invokevirtual 59, 0), (42, .if_icmp .lt 19, 61), (45, .iload 4, 0), (47, .ldc 130, 0), (49, .if_icmp .eq 12, 61), (52, .iload 4, 0), (54, .ldc 131, 0), (56, .if_icmp .eq 5, 61), (59, .iconst 1, 0), (60, .ireturn, 0), (61, .aload_n 0, 0), (62, .getfield 7, 0), (65, .iload_n 3, 0), (66, .iconst 4, 0), (67, .iadd, 0), (68, .iaload, 0), (69, .bipush 16, 0), (71, .if_icmp .ge 7, 78), (74, .iconst 1, 0), (75, .goto 4, 79), (78, .iconst 0, 0), (79, .istore 5, 0), (81, .iload 5, 0), (83, .iload_n 2, 0), (84, .i2l, 0), (85, .aload_n 0, 0), (86, .aload_n 0, 0), (87, .iload_n 1, 0), (88, .invokevirtual 50, 0), (91, .bipush 44, 0), (93, .iadd, 0), (94, .invokevirtual 30, 0), (97, .lcmp, 0), (98, .ifCond .ge 7, 105), (101, .iconst 1, 0), (102, .goto 4, 106), (105, .iconst 0, 0), (106, .if_icmp .ne 17, 123), (109, .iload_n 2, 0), (110, .ifCond .ne 17, 127), (113, .aload_n 0, 0), (114, .iload_n 3, 0), (115, .bipush 24, 0), (117, .invokevirtual 112, 0), (120, .ifCond .ne 7, 127), (123, .iconst 1, 0), (124, .goto 4, 128), (127, .iconst 0, 0), (128, .ireturn, 0)]
theorem pX4_badSymbol_ok : ∀ q ∈ pX4_badSymbol, rx_ok cX4_badSymbol q := rx_ok_all (by decide +kernel)
abbrev rX4_badSymbol : Room := { frames := 5, cells := 0, slots := 0, locals := 106 }
noncomputable def fX4_badSymbol : rx_F mS := fun w as => match as with
  | [.int k, .int i] => some (t12 w.1 ∧ nI k.toNatClampNeg = k ∧ k.toNatClampNeg < sC w.1 ∧ kd w.1 k.toNatClampNeg = 2 ∧ nI i.toNatClampNeg = i ∧ i.toNatClampNeg < rL w.1 k.toNatClampNeg / 24, w, some (.int (bI (yB w.1 k.toNatClampNeg i.toNatClampNeg))))
  | _ => none
noncomputable def eX4_badSymbol (am : Nat → Nat) : rx_E mS := rx_any [rx_hV 124 2 (am 0) fX4_symbolAt, rx_hV 24 1 (am 0) fX4_two, rx_hV 30 1 (am 0) fX4_four, rx_hV 127 1 (am 0) fX4_linkOf, rx_hV 67 1 (am 0) fX4_lengthOf, rx_hV 59 0 (am 0) fX4_sectionCount, rx_hLi 130 (nI 65521), rx_hLi 131 (nI 65522), rx_hG 7 (am 0) (fun w => .ref (am 1)), rx_hAi (am 1) 640 (fun w k => nI (bg w.1 k)), rx_hV 50 1 (am 0) fX4_sectionAt, rx_hV 112 2 (am 0) fX4_zeros]
set_option maxHeartbeats 4000000 in
set_option maxRecDepth 100000 in
theorem eo_X4_badSymbol (l : Launch) (D : va_G) (am : Nat → Nat) (cI cZ : ClassId) : ∀ (p : Program) (e : Env) (s : State) (m : MethodId) (args : Array Value) (below : List Frame) (meth : Method) (c : Code) (Qw : State → Prop), CallFix p m c cX4_badSymbol 6 s args (Cond.code yX4_badSymbol cX4_badSymbol 6 (some .boolean) :: wsA) RX4 → mK D cI cZ s → rx_Eok (fun H locs g => W p l e rX4_badSymbol s m args below meth c H locs 0 0 Qw g) m cX4_badSymbol 6 (tr_I D vwCl (mA am) s (mW am cI cZ)) (eX4_badSymbol am) := by
  intro p e s m args below meth c Qw S hK
  have ht : ∀ w ∈ wsA, w.before args s = true := fun w h => S.2.2.2.2 w (wsA_in h)
  exact rx_any_c (rx_hV_ok S ⟨Nat.zero_le _, Nat.zero_le _⟩ mK_tr hK (cwV 2 S.2.2.2.2 (wsA_V wkX4_124 wiX4_symbolAt weX4_symbolAt winiX4 wX4_symbolAt) rfl rfl rfl (by decide +kernel) ⟨by decide, by decide⟩) (ct_X4_symbolAt l D am cI cZ) (fun w H hP => va_recv hK.1 hP (rfl : vwCl[4]? = some (RX4, TX4, 7)) (rfl : (mW am cI cZ w)[0]? = some _))) (rx_any_c (rx_hV_ok S ⟨Nat.zero_le _, Nat.zero_le _⟩ mK_tr hK (cwV 1 S.2.2.2.2 (wsA_V wkX4_24 wiX4_two weX4_two winiX4 wX4_two) rfl rfl rfl (by decide +kernel) ⟨by decide, by decide⟩) (ct_X4_two l D am cI cZ) (fun w H hP => va_recv hK.1 hP (rfl : vwCl[4]? = some (RX4, TX4, 7)) (rfl : (mW am cI cZ w)[0]? = some _))) (rx_any_c (rx_hV_ok S ⟨Nat.zero_le _, Nat.zero_le _⟩ mK_tr hK (cwV 1 S.2.2.2.2 (wsA_V wkX4_30 wiX4_four weX4_four winiX4 wX4_four) rfl rfl rfl (by decide +kernel) ⟨by decide, by decide⟩) (ct_X4_four l D am cI cZ) (fun w H hP => va_recv hK.1 hP (rfl : vwCl[4]? = some (RX4, TX4, 7)) (rfl : (mW am cI cZ w)[0]? = some _))) (rx_any_c (rx_hV_ok S ⟨Nat.zero_le _, Nat.zero_le _⟩ mK_tr hK (cwV 1 S.2.2.2.2 (wsA_V wkX4_127 wiX4_linkOf weX4_linkOf winiX4 wX4_linkOf) rfl rfl rfl (by decide +kernel) ⟨by decide, by decide⟩) (ct_X4_linkOf l D am cI cZ) (fun w H hP => va_recv hK.1 hP (rfl : vwCl[4]? = some (RX4, TX4, 7)) (rfl : (mW am cI cZ w)[0]? = some _))) (rx_any_c (rx_hV_ok S ⟨Nat.zero_le _, Nat.zero_le _⟩ mK_tr hK (cwV 1 S.2.2.2.2 (wsA_V wkX4_67 wiX4_lengthOf weX4_lengthOf winiX4 wX4_lengthOf) rfl rfl rfl (by decide +kernel) ⟨by decide, by decide⟩) (ct_X4_lengthOf l D am cI cZ) (fun w H hP => va_recv hK.1 hP (rfl : vwCl[4]? = some (RX4, TX4, 7)) (rfl : (mW am cI cZ w)[0]? = some _))) (rx_any_c (rx_hV_ok S ⟨Nat.zero_le _, Nat.zero_le _⟩ mK_tr hK (cwV 0 S.2.2.2.2 (wsA_V wkX4_59 wiX4_sectionCount weX4_sectionCount winiX4 wX4_sectionCount) rfl rfl rfl (by decide +kernel) ⟨by decide, by decide⟩) (ct_X4_sectionCount l D am cI cZ) (fun w H hP => va_recv hK.1 hP (rfl : vwCl[4]? = some (RX4, TX4, 7)) (rfl : (mW am cI cZ w)[0]? = some _))) (rx_any_c (rx_hLi_ok S (ht _ wcX4_130)) (rx_any_c (rx_hLi_ok S (ht _ wcX4_131)) (rx_any_c (rx_hG_ok (fun w H locs pc ls rest hI hd k => va_get (D := D) (ci := 4) (C := RX4) (T := TX4) (N := 7) S.1 S.2.1 ht inX4 S.2.2.2.1 hK.1 hI.1 0 rfl rfl 2 (by decide) (ht _ wfX4_7) (fun _ h9 => h9) rfl hd k)) (rx_any_c (rx_hAi_ok (fun w H locs pc ls rest x hI hin hd k => va_iald S.1 S.2.1 hK.1 hI.1 1 0 rfl rfl hin hd k)) (rx_any_c (rx_hV_ok S ⟨Nat.zero_le _, Nat.zero_le _⟩ mK_tr hK (cwV 1 S.2.2.2.2 (wsA_V wkX4_50 wiX4_sectionAt weX4_sectionAt winiX4 wX4_sectionAt) rfl rfl rfl (by decide +kernel) ⟨by decide, by decide⟩) (ct_X4_sectionAt l D am cI cZ) (fun w H hP => va_recv hK.1 hP (rfl : vwCl[4]? = some (RX4, TX4, 7)) (rfl : (mW am cI cZ w)[0]? = some _))) (rx_any_c (rx_hV_ok S ⟨Nat.zero_le _, Nat.zero_le _⟩ mK_tr hK (cwV 2 S.2.2.2.2 (wsA_V wkX4_112 wiX4_zeros weX4_zeros winiX4 wX4_zeros) rfl rfl rfl (by decide +kernel) ⟨by decide, by decide⟩) (ct_X4_zeros l D am cI cZ) (fun w H hP => va_recv hK.1 hP (rfl : vwCl[4]? = some (RX4, TX4, 7)) (rfl : (mW am cI cZ w)[0]? = some _))) (rx_any_0))))))))))))
set_option maxHeartbeats 4000000 in
set_option maxRecDepth 100000 in
theorem ct_X4_badSymbol (l : Launch) (D : va_G) (am : Nat → Nat) (cI cZ : ClassId) : ctM l yX4_badSymbol cX4_badSymbol 6 (some .boolean) rX4_badSymbol D am cI cZ [.ref (am 0)] fX4_badSymbol := by
  intro w as g w1 r hf hg
  unfold fX4_badSymbol at hf
  split at hf
  · next k i =>
    cases hf
    obtain ⟨h12, hk, hl, hkd, hi, hil⟩ := hg
    generalize k.toNatClampNeg = K at hk hl hkd hil ⊢
    generalize i.toNatClampNeg = J at hi hil ⊢
    subst hk
    subst hi
    have h6 := h12.1.1
    have hB := bn_le w.1
    have hA := t6_sA h6 hl
    have hc := sC_lt w.1
    have hR := t9_room h12.1 hl
    have hL := (t12_of h12 hl hkd).2.2.1
    have hL1 : lK w.1 K < sC w.1 := hL.1
    have hR2 := t9_room h12.1 hL.1
    have hY : yA w.1 K J + 24 ≤ bn w.1 := by unfold yA; omega
    have e0 : nI (bl w.1 40 8) + nI 64 * nI K = nI (sA w.1 K) := by unfold sA; rw [pk_mul, nI_add]
    have e1 : nI (rP w.1 K) + nI 24 * nI J = nI (yA w.1 K J) := by unfold yA; rw [pk_mul, nI_add]
    have g1 := bl_q4 w.1 (yA w.1 K J)
    have g2 := bl_q2 w.1 (yA w.1 K J + 6)
    have g3 := bg_lt w.1 (yA w.1 K J + 4)
    have g4 := bl_q4 w.1 (sA w.1 K + 44)
    refine tr_of (rx_mc [(61, fun u w0 lv => w0 = w ∧ u = 1 ∧ bl w.1 (yA w.1 K J) 4 < rL w.1 (lK w.1 K) ∧ (bl w.1 (yA w.1 K J + 6) 2 < sC w.1 ∨ bl w.1 (yA w.1 K J + 6) 2 = 65521 ∨ bl w.1 (yA w.1 K J + 6) 2 = 65522) ∧ lv = [(0, .ref (am 0)), (1, .int (nI K)), (2, .int (nI J)), (3, .int (nI (yA w.1 K J)))])]) 400 400 100000 (by decide) rfl rfl (Nat.le_of_ble_eq_true rfl) pX4_badSymbol_ok (rt_z _) (eo_X4_badSymbol l D am cI cZ) ?_ ?_
    · intro pc g0 hpc u w0 lv hinv
      have hh := rx_mc_of _ hpc
      clear hpc
      simp only [List.mem_cons, List.not_mem_nil, or_false, Prod.mk.injEq] at hh
      rcases hh with ⟨rfl, rfl⟩
      · obtain ⟨rfl, rfl, k1, k2, rfl⟩ := hinv
        simp only [pX4_badSymbol, eX4_badSymbol, fX4_four, fX4_lengthOf, fX4_linkOf, fX4_sectionAt, fX4_sectionCount, fX4_symbolAt, fX4_two, fX4_zeros, rx_n, rx_s, rx_to, rx_get, rx_f1, rx_f2, rx_two, rx_ext, rx_any, rx_hV, rx_hS, rx_hG, rx_hP, rx_hAi, rx_hAb, rx_hBb, rx_hBi, rx_hBp, rx_hL, rx_hLi, rx_got, rx_pop, rx_sum, rx_len, rx_c, rx_m1, lv_args, Value.category, rx_cut_n, rx_cut_m0, rx_cut_m1, rx_iconst, rx_bipush, rx_sipush, rx_lconst, rx_iload_n, rx_iload, rx_lload_n, rx_lload, rx_aload_n, rx_aload, rx_istore_n, rx_istore, rx_lstore_n, rx_lstore, rx_astore_n, rx_astore, rx_iinc, rx_iadd, rx_isub, rx_imul, rx_iand, rx_ixor, rx_ishr, rx_idiv, rx_irem, rx_ladd, rx_lsub, rx_land, rx_lor, rx_lxor, rx_lmul, rx_ldiv, rx_lrem, rx_lushr, rx_lshl, rx_lshr, rx_lneg, rx_i2l, rx_l2i, rx_i2b, rx_lcmp, rx_dup_i, rx_dup_a, rx_pop_i, rx_pop_a, rx_if_eq, rx_if_ne, rx_if_lt, rx_if_ge, rx_if_gt, rx_if_le, rx_icmp_eq, rx_icmp_ne, rx_icmp_lt, rx_icmp_ge, rx_icmp_gt, rx_icmp_le, rx_goto, rx_tsw, rx_ireturn, rx_lreturn, rx_return_, rx_getfield, rx_putfield, rx_invokevirtual, rx_invokespecial, rx_invokestatic, rx_ldc, rx_ldc2_w, rx_iaload, rx_iastore, rx_baload, rx_bastore, Nat.reduceBEq, Nat.reduceAdd, Nat.reduceSub, Nat.reduceMul, Nat.reduceLeDiff, Nat.reduceEqDiff, Nat.reduceLT, Int.reduceLT, Int.reduceLE, Int.reduceNeg, Int.reduceToNat, Int.reduceAdd, Fin.isValue, Fin.val_zero, Fin.val_one, Fin.reduceFinMk, Fin.val_ofNat, Bool.or_true, Bool.true_or, Bool.or_false, Bool.false_or, Bool.and_true, Bool.true_and, Bool.and_false, Bool.false_and, cond_true, cond_false, ↓reduceIte, eq_self, ne_eq, not_true_eq_false, not_false_eq_true, true_and, and_true, Option.toList_some, Option.toList_none, List.cons_append, List.nil_append, Option.some.injEq, Value.int.injEq, Value.long.injEq, rx_l0, rx_l1, rx_fv0, rx_fv1, rx_fv2, rx_fv3, nI_c1, nI_c2, nI_c4, nI_c8, nI_c9, nI_c24, nI_c64, Nat.le_refl, bI_z, bI_0, bI_1, Classical.not_not, lg_cmp_ge, lg_cmp_le, lg_cmp_gt, lg_cmp_lt, lg_cmp_eq]
        simp (disch := omega) only [e0, nI_add, nI_clamp, nI_leI, nI_l, pk_lLE, pk_lLT, nI_z, rx_i01, rx_i10, not_false_eq_true, not_true_eq_false, false_implies, true_implies, true_and, and_true]
        have b1 : bg w0.1 (yA w0.1 K J + 4) / 16 = 0 ↔ bg w0.1 (yA w0.1 K J + 4) < 16 := by omega
        unfold yB yOK
        rw [b1]
        have fin : (bg w0.1 (yA w0.1 K J + 4) < 16 ↔ J < bl w0.1 (sA w0.1 K + 44) 4) → J = 0 → (yA w0.1 K J = rP w0.1 K) := fun _ c => by rw [c]; unfold yA; omega
        refine ⟨vp_in_nI (by omega) (by decide), fun a => ⟨vp_in_nI (by omega) (by decide), fun b => ⟨fun c => ?_, fun c => ?_⟩, fun b => ?_⟩, fun a => ⟨vp_in_nI (by omega) (by decide), fun b => ?_, fun b => ⟨fun c => ?_, fun c => ?_⟩⟩⟩
        · rintro (q | q)
          · exact q ⟨⟨fun z => by omega, fun z => by omega⟩, k2, k1⟩
          · exact c q.1
        · have e3 := fin ⟨fun z => by omega, fun z => by omega⟩ c
          refine ⟨by omega, fun d => ?_, fun d => Or.inr ⟨c, fun z => d (fun i hi => by rw [e3]; exact z i hi)⟩⟩
          rintro (q | q)
          · exact q ⟨⟨fun z => by omega, fun z => by omega⟩, k2, k1⟩
          · exact q.2 (fun i hi => by rw [← e3]; exact d i hi)
        · exact Or.inl (fun q => absurd (q.1.mpr (by omega)) (by omega))
        · exact Or.inl (fun q => absurd (q.1.mp (by omega)) (by omega))
        · rintro (q | q)
          · exact q ⟨⟨fun z => by omega, fun z => by omega⟩, k2, k1⟩
          · exact c q.1
        · have e3 := fin ⟨fun z => by omega, fun z => by omega⟩ c
          refine ⟨by omega, fun d => ?_, fun d => Or.inr ⟨c, fun z => d (fun i hi => by rw [e3]; exact z i hi)⟩⟩
          rintro (q | q)
          · exact q ⟨⟨fun z => by omega, fun z => by omega⟩, k2, k1⟩
          · exact q.2 (fun i hi => by rw [← e3]; exact d i hi)
    · simp only [pX4_badSymbol, eX4_badSymbol, fX4_four, fX4_lengthOf, fX4_linkOf, fX4_sectionAt, fX4_sectionCount, fX4_symbolAt, fX4_two, fX4_zeros, rx_n, rx_s, rx_to, rx_get, rx_f1, rx_f2, rx_two, rx_ext, rx_any, rx_hV, rx_hS, rx_hG, rx_hP, rx_hAi, rx_hAb, rx_hBb, rx_hBi, rx_hBp, rx_hL, rx_hLi, rx_got, rx_pop, rx_sum, rx_len, rx_c, rx_m1, lv_args, Value.category, rx_cut_n, rx_cut_m0, rx_cut_m1, rx_iconst, rx_bipush, rx_sipush, rx_lconst, rx_iload_n, rx_iload, rx_lload_n, rx_lload, rx_aload_n, rx_aload, rx_istore_n, rx_istore, rx_lstore_n, rx_lstore, rx_astore_n, rx_astore, rx_iinc, rx_iadd, rx_isub, rx_imul, rx_iand, rx_ixor, rx_ishr, rx_idiv, rx_irem, rx_ladd, rx_lsub, rx_land, rx_lor, rx_lxor, rx_lmul, rx_ldiv, rx_lrem, rx_lushr, rx_lshl, rx_lshr, rx_lneg, rx_i2l, rx_l2i, rx_i2b, rx_lcmp, rx_dup_i, rx_dup_a, rx_pop_i, rx_pop_a, rx_if_eq, rx_if_ne, rx_if_lt, rx_if_ge, rx_if_gt, rx_if_le, rx_icmp_eq, rx_icmp_ne, rx_icmp_lt, rx_icmp_ge, rx_icmp_gt, rx_icmp_le, rx_goto, rx_tsw, rx_ireturn, rx_lreturn, rx_return_, rx_getfield, rx_putfield, rx_invokevirtual, rx_invokespecial, rx_invokestatic, rx_ldc, rx_ldc2_w, rx_iaload, rx_iastore, rx_baload, rx_bastore, Nat.reduceBEq, Nat.reduceAdd, Nat.reduceSub, Nat.reduceMul, Nat.reduceLeDiff, Nat.reduceEqDiff, Nat.reduceLT, Int.reduceLT, Int.reduceLE, Int.reduceNeg, Int.reduceToNat, Int.reduceAdd, Fin.isValue, Fin.val_zero, Fin.val_one, Fin.reduceFinMk, Fin.val_ofNat, Bool.or_true, Bool.true_or, Bool.or_false, Bool.false_or, Bool.and_true, Bool.true_and, Bool.and_false, Bool.false_and, cond_true, cond_false, ↓reduceIte, eq_self, ne_eq, not_true_eq_false, not_false_eq_true, true_and, and_true, Option.toList_some, Option.toList_none, List.cons_append, List.nil_append, Option.some.injEq, Value.int.injEq, Value.long.injEq, rx_l0, rx_l1, rx_fv0, rx_fv1, rx_fv2, rx_fv3, nI_c1, nI_c2, nI_c4, nI_c8, nI_c9, nI_c24, nI_c64, Nat.le_refl, bI_z, bI_0, bI_1, Classical.not_not, lg_cmp_ge, lg_cmp_le, lg_cmp_gt, lg_cmp_lt, lg_cmp_eq]
      simp (disch := omega) only [nI_clamp]
      simp only [e1]
      simp (disch := omega) only [nI_add, nI_clamp, nI_l, pk_lLE, nI_ltI, nI_eq]
      have bad : ¬ yOK w.1 K J → yB w.1 K J := Or.inl
      refine ⟨⟨h6, trivial, hl⟩, vp_in_nI (by omega) (by decide), vp_in_nI (by omega) (by decide), ⟨h6, trivial, hl⟩, ⟨h6, trivial, hL.1⟩, fun a => bad (fun q => by have := q.2.2; omega), fun a => ⟨fun b => ?_, fun b => ⟨fun c => ?_, fun c => ⟨fun d => ?_, fun d => ?_⟩⟩⟩⟩
      · refine ⟨1, _, by omega, ⟨rfl, by omega, Or.inl b, rfl⟩, ?_⟩
        simp only [List.mem_cons, List.not_mem_nil, or_false, forall_eq_or_imp, forall_eq, Nat.reduceBEq, cond_true, cond_false, Option.some.injEq, Value.int.injEq, Value.long.injEq, Value.ref.injEq, true_and, and_true]
      · refine ⟨1, _, by omega, ⟨rfl, by omega, Or.inr (Or.inl c), rfl⟩, ?_⟩
        simp only [List.mem_cons, List.not_mem_nil, or_false, forall_eq_or_imp, forall_eq, Nat.reduceBEq, cond_true, cond_false, Option.some.injEq, Value.int.injEq, Value.long.injEq, Value.ref.injEq, true_and, and_true]
      all_goals first
        | exact bad (fun q => by have := q.2.1; omega)
        | (refine ⟨1, _, by omega, ⟨rfl, by omega, Or.inr (Or.inr (by omega)), rfl⟩, ?_⟩
           simp only [List.mem_cons, List.not_mem_nil, or_false, forall_eq_or_imp, forall_eq, Nat.reduceBEq, cond_true, cond_false, Option.some.injEq, Value.int.injEq, Value.long.injEq, Value.ref.injEq, true_and, and_true])
  · cases hf
def pX4_lying : rx_P := [(0, .iconst 0, 0), (1, .istore 6, 0), (3, .iload 6, 0), (5, .aload_n 0, 0), (6, .invokevirtual 83, 0), (9, .if_icmp .ge 154, 163), (12, .aload_n 0, 0), (13, .iload 6, 0), (15, .invokevirtual 103, 0), (18, .istore 7, 0), (20, .aload_n 0, 0), (21, .iload 7, 0), (23, .invokevirtual 30, 0), (26, .lconst 1, 0), (27, .lcmp, 0), (28, .ifCond .ne 27, 55), (31, .iload 5, 0), (33, .ifCond .eq 18, 51), (36, .aload_n 0, 0), (37, .getfield 7, 0), (40, .iload 7, 0), (42, .iconst 4, 0), (43, .iadd, 0), (44, .iaload, 0), (45, .iconst 2, 0), (46, .irem, 0), (47, .iconst 1, 0), (48, .if_icmp .ne 7, 55), (51, .iconst 1, 0), (52, .goto 4, 56), (55, .iconst 0, 0), (56, .istore 8, 0), (58, .aload_n 0, 0), (59, .iload 7, 0), (61, .bipush 16, 0), (63, .iadd, 0), (64, .invokevirtual 30, 0), (67, .aload_n 0, 0), (68, .iload 7, 0), (70, .bipush 40, 0), (72, .iadd, 0), (73, .invokevirtual 30, 0), (76, .ladd, 0), (77, .lstore 9, 0), (79, .aload_n 0, 0), (80, .iload 7, 0), (82, .bipush 20, 0), (84, .iadd, 0), (85, .invokevirtual 30, 0), (88, .aload_n 0, 0), (89, .iload 7, 0), (91, .bipush 44, 0), (93, .iadd, 0), (94, .invokevirtual 30, 0), (97, .ladd, 0), (98, .lload 9, 0), (100, .ldc2_w 34, 0), (103, .ldiv, 0), (104, .ladd, 0), (105, .lstore 11, 0), (107, .iload 8, 0), (109, .ifCond .eq 48, 157), (112, .lload_n 1, 0), (113, .lload_n 3, 0), (114, .aload_n 0, 0), (115, .iload 7, 0), (117, .bipush 20, 0), (119, .iadd, 0), (120, .invokevirtual 30, 0), (123, .aload_n 0, 0), (124, .iload 7, 0), (126, .bipush 16, 0), (128, .iadd, 0), (129, .invokevirtual 30, 0), (132, .invokestatic 36, 0), (135, .ifCond .lt 22, 157), (138, .lload_n 1, 0), (139, .lload_n 3, 0), (140, .lload 11, 0), (142, .lload 9, 0), (144, .ldc2_w 34, 0), (147, .lrem, 0), (148, .invokestatic 36, 0), (151, .ifCond .ge 6, 157), (154, .iload 6, 0), (156, .ireturn, 0), (157, .iinc 6 1, 0), (160, .goto (-157), 3), (163, .iconst (-1), 0), (164, .ireturn, 0)]
theorem pX4_lying_ok : ∀ q ∈ pX4_lying, rx_ok cX4_lying q := rx_ok_all (by decide +kernel)
abbrev rX4_lying : Room := { frames := 3, cells := 0, slots := 0, locals := 63 }
noncomputable def fX4_lying : rx_F mS := fun w as => match as with
  | [.long x, .long y, .int z] => some (t6 w.1 ∧ uN x < 4294967296 ∧ uN y < 4294967296, w, some (.int (oI (fun k => gL w.1 k ∧ (z = 0 ∨ bl w.1 (gA w.1 k + 4) 4 % 2 = 1) ∧ gI w.1 (uN x * 4294967296 + uN y) k) (gC w.1))))
  | _ => none
noncomputable def eX4_lying (am : Nat → Nat) : rx_E mS := rx_any [rx_hV 83 0 (am 0) fX4_segmentCount, rx_hV 103 1 (am 0) fX4_segmentAt, rx_hV 30 1 (am 0) fX4_four, rx_hG 7 (am 0) (fun w => .ref (am 1)), rx_hAi (am 1) 640 (fun w k => nI (bg w.1 k)), rx_hL 34 (lN 4294967296), rx_hS 36 4 fX4_compare]
set_option maxHeartbeats 4000000 in
set_option maxRecDepth 100000 in
theorem eo_X4_lying (l : Launch) (D : va_G) (am : Nat → Nat) (cI cZ : ClassId) : ∀ (p : Program) (e : Env) (s : State) (m : MethodId) (args : Array Value) (below : List Frame) (meth : Method) (c : Code) (Qw : State → Prop), CallFix p m c cX4_lying 13 s args (Cond.code yX4_lying cX4_lying 13 (some .int) :: wsA) RX4 → mK D cI cZ s → rx_Eok (fun H locs g => W p l e rX4_lying s m args below meth c H locs 0 0 Qw g) m cX4_lying 13 (tr_I D vwCl (mA am) s (mW am cI cZ)) (eX4_lying am) := by
  intro p e s m args below meth c Qw S hK
  have ht : ∀ w ∈ wsA, w.before args s = true := fun w h => S.2.2.2.2 w (wsA_in h)
  exact rx_any_c (rx_hV_ok S ⟨Nat.zero_le _, Nat.zero_le _⟩ mK_tr hK (cwV 0 S.2.2.2.2 (wsA_V wkX4_83 wiX4_segmentCount weX4_segmentCount winiX4 wX4_segmentCount) rfl rfl rfl (by decide +kernel) ⟨by decide, by decide⟩) (ct_X4_segmentCount l D am cI cZ) (fun w H hP => va_recv hK.1 hP (rfl : vwCl[4]? = some (RX4, TX4, 7)) (rfl : (mW am cI cZ w)[0]? = some _))) (rx_any_c (rx_hV_ok S ⟨Nat.zero_le _, Nat.zero_le _⟩ mK_tr hK (cwV 1 S.2.2.2.2 (wsA_V wkX4_103 wiX4_segmentAt weX4_segmentAt winiX4 wX4_segmentAt) rfl rfl rfl (by decide +kernel) ⟨by decide, by decide⟩) (ct_X4_segmentAt l D am cI cZ) (fun w H hP => va_recv hK.1 hP (rfl : vwCl[4]? = some (RX4, TX4, 7)) (rfl : (mW am cI cZ w)[0]? = some _))) (rx_any_c (rx_hV_ok S ⟨Nat.zero_le _, Nat.zero_le _⟩ mK_tr hK (cwV 1 S.2.2.2.2 (wsA_V wkX4_30 wiX4_four weX4_four winiX4 wX4_four) rfl rfl rfl (by decide +kernel) ⟨by decide, by decide⟩) (ct_X4_four l D am cI cZ) (fun w H hP => va_recv hK.1 hP (rfl : vwCl[4]? = some (RX4, TX4, 7)) (rfl : (mW am cI cZ w)[0]? = some _))) (rx_any_c (rx_hG_ok (fun w H locs pc ls rest hI hd k => va_get (D := D) (ci := 4) (C := RX4) (T := TX4) (N := 7) S.1 S.2.1 ht inX4 S.2.2.2.1 hK.1 hI.1 0 rfl rfl 2 (by decide) (ht _ wfX4_7) (fun _ h9 => h9) rfl hd k)) (rx_any_c (rx_hAi_ok (fun w H locs pc ls rest x hI hin hd k => va_iald S.1 S.2.1 hK.1 hI.1 1 0 rfl rfl hin hd k)) (rx_any_c (rx_hL_ok S (ht _ wcX4_34)) (rx_any_c (rx_hS_ok S ⟨Nat.zero_le _, Nat.zero_le _⟩ mK_tr hK (va_cwS 4 S.2.2.2.2 (wsA_S wkX4_36 wsX4_compare winiX4 wX4_compare) rfl rfl rfl (by decide +kernel) ⟨by decide, by decide⟩) (ct_X4_compare l D am cI cZ)) (rx_any_0)))))))
set_option maxHeartbeats 4000000 in
set_option maxRecDepth 100000 in
theorem ct_X4_lying (l : Launch) (D : va_G) (am : Nat → Nat) (cI cZ : ClassId) : ctM l yX4_lying cX4_lying 13 (some .int) rX4_lying D am cI cZ [.ref (am 0)] fX4_lying := by
  intro w as g w1 r hf hg
  unfold fX4_lying at hf
  split at hf
  · next x y z =>
    cases hf
    obtain ⟨h6, hx, hy⟩ := hg
    obtain ⟨X, hX, ex⟩ := uN_ex x
    obtain ⟨Y, hY, ey⟩ := uN_ex y
    rw [← hX] at hx
    rw [← hY] at hy
    rw [← hX, ← hY, ex, ey]
    have hc := gC_lt w.1
    have hB := bn_le w.1
    have e0 : ∀ k, nI (bl w.1 32 8) + nI 56 * nI k = nI (gA w.1 k) := fun k => by unfold gA; rw [pk_mul, nI_add]
    obtain ⟨P, hP⟩ : ∃ P : Nat → Prop, P = fun k => gL w.1 k ∧ (z = 0 ∨ bl w.1 (gA w.1 k + 4) 4 % 2 = 1) ∧ gI w.1 (X * 4294967296 + Y) k := ⟨_, rfl⟩
    rw [← hP]
    have hPk : ∀ k, P k ↔ (gL w.1 k ∧ (z = 0 ∨ bl w.1 (gA w.1 k + 4) 4 % 2 = 1) ∧ gI w.1 (X * 4294967296 + Y) k) := fun k => by rw [hP]
    refine tr_of (rx_mc [(3, fun u w0 lv => w0 = w ∧ ∃ k, k ≤ gC w.1 ∧ u = 2 * (gC w.1 - k) ∧ (∀ i, i < k → ¬ P i) ∧ lv = [(0, .ref (am 0)), (1, .long (lN X)), (3, .long (lN Y)), (5, .int z), (6, .int (nI k))]), (58, fun u w0 lv => w0 = w ∧ ∃ k, k < gC w.1 ∧ u = 2 * (gC w.1 - k) - 1 ∧ (∀ i, i < k → ¬ P i) ∧ lv = [(0, .ref (am 0)), (1, .long (lN X)), (3, .long (lN Y)), (5, .int z), (6, .int (nI k)), (7, .int (nI (gA w.1 k))), (8, .int (bI (gL w.1 k ∧ (z = 0 ∨ bl w.1 (gA w.1 k + 4) 4 % 2 = 1))))])]) 400 400 100000 (by decide) rfl rfl (Nat.le_of_ble_eq_true rfl) pX4_lying_ok (rt_i _) (eo_X4_lying l D am cI cZ) ?_ ?_
    · intro pc g0 hpc u w0 lv hinv
      have hh := rx_mc_of _ hpc
      clear hpc
      simp only [List.mem_cons, List.not_mem_nil, or_false, Prod.mk.injEq] at hh
      rcases hh with ⟨rfl, rfl⟩ | ⟨rfl, rfl⟩
      · obtain ⟨rfl, k, hk, rfl, hz, rfl⟩ := hinv
        simp only [pX4_lying, eX4_lying, fX4_compare, fX4_four, fX4_segmentAt, fX4_segmentCount, rx_n, rx_s, rx_to, rx_get, rx_f1, rx_f2, rx_two, rx_ext, rx_any, rx_hV, rx_hS, rx_hG, rx_hP, rx_hAi, rx_hAb, rx_hBb, rx_hBi, rx_hBp, rx_hL, rx_hLi, rx_got, rx_pop, rx_sum, rx_len, rx_c, rx_m1, lv_args, Value.category, rx_cut_n, rx_cut_m0, rx_cut_m1, rx_iconst, rx_bipush, rx_sipush, rx_lconst, rx_iload_n, rx_iload, rx_lload_n, rx_lload, rx_aload_n, rx_aload, rx_istore_n, rx_istore, rx_lstore_n, rx_lstore, rx_astore_n, rx_astore, rx_iinc, rx_iadd, rx_isub, rx_imul, rx_iand, rx_ixor, rx_ishr, rx_idiv, rx_irem, rx_ladd, rx_lsub, rx_land, rx_lor, rx_lxor, rx_lmul, rx_ldiv, rx_lrem, rx_lushr, rx_lshl, rx_lshr, rx_lneg, rx_i2l, rx_l2i, rx_i2b, rx_lcmp, rx_dup_i, rx_dup_a, rx_pop_i, rx_pop_a, rx_if_eq, rx_if_ne, rx_if_lt, rx_if_ge, rx_if_gt, rx_if_le, rx_icmp_eq, rx_icmp_ne, rx_icmp_lt, rx_icmp_ge, rx_icmp_gt, rx_icmp_le, rx_goto, rx_tsw, rx_ireturn, rx_lreturn, rx_return_, rx_getfield, rx_putfield, rx_invokevirtual, rx_invokespecial, rx_invokestatic, rx_ldc, rx_ldc2_w, rx_iaload, rx_iastore, rx_baload, rx_bastore, Nat.reduceBEq, Nat.reduceAdd, Nat.reduceSub, Nat.reduceMul, Nat.reduceLeDiff, Nat.reduceEqDiff, Nat.reduceLT, Int.reduceLT, Int.reduceLE, Int.reduceNeg, Int.reduceToNat, Int.reduceAdd, Fin.isValue, Fin.val_zero, Fin.val_one, Fin.reduceFinMk, Fin.val_ofNat, Bool.or_true, Bool.true_or, Bool.or_false, Bool.false_or, Bool.and_true, Bool.true_and, Bool.and_false, Bool.false_and, cond_true, cond_false, ↓reduceIte, eq_self, ne_eq, not_true_eq_false, not_false_eq_true, true_and, and_true, Option.toList_some, Option.toList_none, List.cons_append, List.nil_append, Option.some.injEq, Value.int.injEq, Value.long.injEq, rx_l0, rx_l1, rx_fv0, rx_fv1, rx_fv2, rx_fv3, nI_c1, nI_c2, nI_c4, nI_c8, nI_c9, nI_c24, nI_c64, Nat.le_refl, bI_z, bI_0, bI_1, Classical.not_not, lg_cmp_ge, lg_cmp_le, lg_cmp_gt, lg_cmp_lt, lg_cmp_eq]
        rw [nI_leI (by omega) (by omega)]
        refine ⟨fun h => (oI_none fun i hi => hz i (by omega)).symm, fun h => ?_⟩
        have hk2 : k < gC w0.1 := by omega
        have hA := t6_gA h6 hk2
        have q4 := bl_q4 w0.1 (gA w0.1 k)
        have q5 := bg_lt w0.1 (gA w0.1 k + 4)
        have q6 := bl4_odd w0.1 (gA w0.1 k + 4)
        simp only [e0]
        simp (disch := omega) only [nI_add, nI_clamp, pk_lEQ, pk_rem, nI_eq]
        refine ⟨vp_in_nI (by omega) (by decide), fun a => ?_, fun a => ⟨fun b => ?_, fun b => ⟨vp_in_nI (by omega) (by decide), by decide, fun c => ?_, fun c => ?_⟩⟩⟩
        all_goals refine ⟨2 * (gC w0.1 - k) - 1, _, by omega, ⟨k, hk2, rfl, hz, rfl⟩, ?_⟩
        all_goals simp only [List.mem_cons, List.not_mem_nil, or_false, forall_eq_or_imp, forall_eq, Nat.reduceBEq, cond_true, cond_false, Option.some.injEq, Value.int.injEq, Value.long.injEq, Value.ref.injEq, true_and, and_true]
        · exact bI_0.mpr (fun q => a q.1)
        · exact bI_1.mpr ⟨a, Or.inl b⟩
        · exact bI_0.mpr (fun q => q.2.elim b (fun q => by omega))
        · exact bI_1.mpr ⟨a, Or.inr (by omega)⟩
      · obtain ⟨rfl, k, hk2, rfl, hz, rfl⟩ := hinv
        have hA := t6_gA h6 hk2
        have next : nI k + nI 1 = nI (k + 1) := nI_add k 1
        have h1 := bl_q4 w0.1 (gA w0.1 k + 16)
        have h2 := bl_q4 w0.1 (gA w0.1 k + 20)
        have h3 := bl_q4 w0.1 (gA w0.1 k + 40)
        have h4 := bl_q4 w0.1 (gA w0.1 k + 44)
        have k1 : bl w0.1 (gA w0.1 k + 16) 8 = bl w0.1 (gA w0.1 k + 16) 4 + 4294967296 * bl w0.1 (gA w0.1 k + 20) 4 := bl_8 w0.1 _
        have k2 : bl w0.1 (gA w0.1 k + 40) 8 = bl w0.1 (gA w0.1 k + 40) 4 + 4294967296 * bl w0.1 (gA w0.1 k + 44) 4 := bl_8 w0.1 _
        simp only [pX4_lying, eX4_lying, fX4_compare, fX4_four, fX4_segmentAt, fX4_segmentCount, rx_n, rx_s, rx_to, rx_get, rx_f1, rx_f2, rx_two, rx_ext, rx_any, rx_hV, rx_hS, rx_hG, rx_hP, rx_hAi, rx_hAb, rx_hBb, rx_hBi, rx_hBp, rx_hL, rx_hLi, rx_got, rx_pop, rx_sum, rx_len, rx_c, rx_m1, lv_args, Value.category, rx_cut_n, rx_cut_m0, rx_cut_m1, rx_iconst, rx_bipush, rx_sipush, rx_lconst, rx_iload_n, rx_iload, rx_lload_n, rx_lload, rx_aload_n, rx_aload, rx_istore_n, rx_istore, rx_lstore_n, rx_lstore, rx_astore_n, rx_astore, rx_iinc, rx_iadd, rx_isub, rx_imul, rx_iand, rx_ixor, rx_ishr, rx_idiv, rx_irem, rx_ladd, rx_lsub, rx_land, rx_lor, rx_lxor, rx_lmul, rx_ldiv, rx_lrem, rx_lushr, rx_lshl, rx_lshr, rx_lneg, rx_i2l, rx_l2i, rx_i2b, rx_lcmp, rx_dup_i, rx_dup_a, rx_pop_i, rx_pop_a, rx_if_eq, rx_if_ne, rx_if_lt, rx_if_ge, rx_if_gt, rx_if_le, rx_icmp_eq, rx_icmp_ne, rx_icmp_lt, rx_icmp_ge, rx_icmp_gt, rx_icmp_le, rx_goto, rx_tsw, rx_ireturn, rx_lreturn, rx_return_, rx_getfield, rx_putfield, rx_invokevirtual, rx_invokespecial, rx_invokestatic, rx_ldc, rx_ldc2_w, rx_iaload, rx_iastore, rx_baload, rx_bastore, Nat.reduceBEq, Nat.reduceAdd, Nat.reduceSub, Nat.reduceMul, Nat.reduceLeDiff, Nat.reduceEqDiff, Nat.reduceLT, Int.reduceLT, Int.reduceLE, Int.reduceNeg, Int.reduceToNat, Int.reduceAdd, Fin.isValue, Fin.val_zero, Fin.val_one, Fin.reduceFinMk, Fin.val_ofNat, Bool.or_true, Bool.true_or, Bool.or_false, Bool.false_or, Bool.and_true, Bool.true_and, Bool.and_false, Bool.false_and, cond_true, cond_false, ↓reduceIte, eq_self, ne_eq, not_true_eq_false, not_false_eq_true, true_and, and_true, Option.toList_some, Option.toList_none, List.cons_append, List.nil_append, Option.some.injEq, Value.int.injEq, Value.long.injEq, rx_l0, rx_l1, rx_fv0, rx_fv1, rx_fv2, rx_fv3, nI_c1, nI_c2, nI_c4, nI_c8, nI_c9, nI_c24, nI_c64, Nat.le_refl, bI_z, bI_0, bI_1, Classical.not_not, lg_cmp_ge, lg_cmp_le, lg_cmp_gt, lg_cmp_lt, lg_cmp_eq]
        simp (disch := omega) only [nI_add, nI_clamp, lN_add, pk_lDiv, lRem2, uN_lN, c3_lt, c3_ge]
        have go : ¬ P k → ∀ i, i < k + 1 → ¬ P i := fun q => lt_s hz q
        refine ⟨vp_in_nI (by omega) (by decide), vp_in_nI (by omega) (by decide), vp_in_nI (by omega) (by decide), vp_in_nI (by omega) (by decide), by decide, fun a => ?_, fun a => ⟨vp_in_nI (by omega) (by decide), vp_in_nI (by omega) (by decide), ⟨by omega, by omega, by omega, by omega⟩, fun b => ?_, fun b => ⟨by decide, ⟨by omega, by omega, by omega, by omega⟩, fun c => ?_, fun c => ?_⟩⟩⟩
        · refine ⟨2 * (gC w0.1 - (k + 1)), _, by omega, ⟨k + 1, by omega, rfl, go (fun q => a ⟨((hPk k).mp q).1, ((hPk k).mp q).2.1⟩), rfl⟩, ?_⟩
          simp only [List.mem_cons, List.not_mem_nil, or_false, forall_eq_or_imp, forall_eq, Nat.reduceBEq, cond_true, cond_false, Option.some.injEq, Value.int.injEq, Value.long.injEq, Value.ref.injEq, true_and, and_true]
        · refine ⟨2 * (gC w0.1 - (k + 1)), _, by omega, ⟨k + 1, by omega, rfl, go (fun q => by have := ((hPk k).mp q).2.2.1; omega), rfl⟩, ?_⟩
          simp only [List.mem_cons, List.not_mem_nil, or_false, forall_eq_or_imp, forall_eq, Nat.reduceBEq, cond_true, cond_false, Option.some.injEq, Value.int.injEq, Value.long.injEq, Value.ref.injEq, true_and, and_true]
        · refine ⟨2 * (gC w0.1 - (k + 1)), _, by omega, ⟨k + 1, by omega, rfl, go (fun q => by have := ((hPk k).mp q).2.2.2; omega), rfl⟩, ?_⟩
          simp only [List.mem_cons, List.not_mem_nil, or_false, forall_eq_or_imp, forall_eq, Nat.reduceBEq, cond_true, cond_false, Option.some.injEq, Value.int.injEq, Value.long.injEq, Value.ref.injEq, true_and, and_true]
        · exact (oI_some hz ((hPk k).mpr ⟨a.1, a.2, by unfold gI; omega⟩) hk2).symm
    · simp only [pX4_lying, eX4_lying, fX4_compare, fX4_four, fX4_segmentAt, fX4_segmentCount, rx_n, rx_s, rx_to, rx_get, rx_f1, rx_f2, rx_two, rx_ext, rx_any, rx_hV, rx_hS, rx_hG, rx_hP, rx_hAi, rx_hAb, rx_hBb, rx_hBi, rx_hBp, rx_hL, rx_hLi, rx_got, rx_pop, rx_sum, rx_len, rx_c, rx_m1, lv_args, Value.category, rx_cut_n, rx_cut_m0, rx_cut_m1, rx_iconst, rx_bipush, rx_sipush, rx_lconst, rx_iload_n, rx_iload, rx_lload_n, rx_lload, rx_aload_n, rx_aload, rx_istore_n, rx_istore, rx_lstore_n, rx_lstore, rx_astore_n, rx_astore, rx_iinc, rx_iadd, rx_isub, rx_imul, rx_iand, rx_ixor, rx_ishr, rx_idiv, rx_irem, rx_ladd, rx_lsub, rx_land, rx_lor, rx_lxor, rx_lmul, rx_ldiv, rx_lrem, rx_lushr, rx_lshl, rx_lshr, rx_lneg, rx_i2l, rx_l2i, rx_i2b, rx_lcmp, rx_dup_i, rx_dup_a, rx_pop_i, rx_pop_a, rx_if_eq, rx_if_ne, rx_if_lt, rx_if_ge, rx_if_gt, rx_if_le, rx_icmp_eq, rx_icmp_ne, rx_icmp_lt, rx_icmp_ge, rx_icmp_gt, rx_icmp_le, rx_goto, rx_tsw, rx_ireturn, rx_lreturn, rx_return_, rx_getfield, rx_putfield, rx_invokevirtual, rx_invokespecial, rx_invokestatic, rx_ldc, rx_ldc2_w, rx_iaload, rx_iastore, rx_baload, rx_bastore, Nat.reduceBEq, Nat.reduceAdd, Nat.reduceSub, Nat.reduceMul, Nat.reduceLeDiff, Nat.reduceEqDiff, Nat.reduceLT, Int.reduceLT, Int.reduceLE, Int.reduceNeg, Int.reduceToNat, Int.reduceAdd, Fin.isValue, Fin.val_zero, Fin.val_one, Fin.reduceFinMk, Fin.val_ofNat, Bool.or_true, Bool.true_or, Bool.or_false, Bool.false_or, Bool.and_true, Bool.true_and, Bool.and_false, Bool.false_and, cond_true, cond_false, ↓reduceIte, eq_self, ne_eq, not_true_eq_false, not_false_eq_true, true_and, and_true, Option.toList_some, Option.toList_none, List.cons_append, List.nil_append, Option.some.injEq, Value.int.injEq, Value.long.injEq, rx_l0, rx_l1, rx_fv0, rx_fv1, rx_fv2, rx_fv3, nI_c1, nI_c2, nI_c4, nI_c8, nI_c9, nI_c24, nI_c64, Nat.le_refl, bI_z, bI_0, bI_1, Classical.not_not, lg_cmp_ge, lg_cmp_le, lg_cmp_gt, lg_cmp_lt, lg_cmp_eq]
      have h1 := t6_g11 h6
      refine ⟨2 * gC w.1, _, by omega, ⟨0, by omega, rfl, lt_0, rfl⟩, ?_⟩
      simp only [List.mem_cons, List.not_mem_nil, or_false, forall_eq_or_imp, forall_eq, Nat.reduceBEq, cond_true, cond_false, Option.some.injEq, Value.int.injEq, Value.long.injEq, Value.ref.injEq, true_and, and_true]
  · cases hf
