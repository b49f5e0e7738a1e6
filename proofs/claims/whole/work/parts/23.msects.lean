def pX4_badSections : rx_P := [(0, .iconst 0, 0), (1, .istore_n 1, 0), (2, .iload_n 1, 0), (3, .aload_n 0, 0), (4, .invokevirtual 59, 0), (7, .if_icmp .ge 25, 32), (10, .aload_n 0, 0), (11, .iload_n 1, 0), (12, .invokevirtual 117, 0), (15, .ifCond .eq 11, 26), (18, .aload_n 0, 0), (19, .bipush 9, 0), (21, .iload_n 1, 0), (22, .invokevirtual 76, 0), (25, .ireturn, 0), (26, .iinc 1 1, 0), (29, .goto (-27), 2), (32, .iconst 0, 0), (33, .istore_n 1, 0), (34, .iload_n 1, 0), (35, .aload_n 0, 0), (36, .invokevirtual 59, 0), (39, .if_icmp .ge 34, 73), (42, .aload_n 0, 0), (43, .aload_n 0, 0), (44, .iload_n 1, 0), (45, .invokevirtual 70, 0), (48, .aload_n 0, 0), (49, .iload_n 1, 0), (50, .invokevirtual 67, 0), (53, .invokevirtual 86, 0), (56, .ifCond .eq 11, 67), (59, .aload_n 0, 0), (60, .bipush 10, 0), (62, .iload_n 1, 0), (63, .invokevirtual 76, 0), (66, .ireturn, 0), (67, .iinc 1 1, 0), (70, .goto (-36), 34), (73, .iconst 0, 0), (74, .ireturn, 0)]
theorem pX4_badSections_ok : ∀ q ∈ pX4_badSections, rx_ok cX4_badSections q := rx_ok_all (by decide +kernel)
abbrev rX4_badSections : Room := { frames := 5, cells := 0, slots := 0, locals := 110 }
noncomputable def fX4_badSections : rx_F mS := fun w as => match as with
  | [] => some (t6 w.1 ∧ tkP w.1 w.2.2.1, mV9 w, some (.int (bI (¬ oI (q9 w.1) (sC w.1) = -1 ∨ ¬ oI (q10 w.1) (sC w.1) = -1))))
  | _ => none
noncomputable def eX4_badSections (am : Nat → Nat) : rx_E mS := rx_any [rx_hV 59 0 (am 0) fX4_sectionCount, rx_hV 117 1 (am 0) fX4_badSection, rx_hV 76 2 (am 0) fX4_breaks, rx_hV 70 1 (am 0) fX4_placeOf, rx_hV 67 1 (am 0) fX4_lengthOf, rx_hV 86 2 (am 0) fX4_marked]
set_option maxHeartbeats 4000000 in
set_option maxRecDepth 100000 in
theorem eo_X4_badSections (l : Launch) (D : va_G) (am : Nat → Nat) (cI cZ : ClassId) (hj : mJ am) : ∀ (p : Program) (e : Env) (s : State) (m : MethodId) (args : Array Value) (below : List Frame) (meth : Method) (c : Code) (Qw : State → Prop), CallFix p m c cX4_badSections 2 s args (Cond.code yX4_badSections cX4_badSections 2 (some .boolean) :: wsA) RX4 → mK D cI cZ s → rx_Eok (fun H locs g => W p l e rX4_badSections s m args below meth c H locs 0 0 Qw g) m cX4_badSections 2 (tr_I D vwCl (mA am) s (mW am cI cZ)) (eX4_badSections am) := by
  intro p e s m args below meth c Qw S hK
  have ht : ∀ w ∈ wsA, w.before args s = true := fun w h => S.2.2.2.2 w (wsA_in h)
  exact rx_any_c (rx_hV_ok S ⟨Nat.zero_le _, Nat.zero_le _⟩ mK_tr hK (cwV 0 S.2.2.2.2 (wsA_V wkX4_59 wiX4_sectionCount weX4_sectionCount winiX4 wX4_sectionCount) rfl rfl rfl (by decide +kernel) ⟨by decide, by decide⟩) (ct_X4_sectionCount l D am cI cZ) (fun w H hP => va_recv hK.1 hP (rfl : vwCl[4]? = some (RX4, TX4, 7)) (rfl : (mW am cI cZ w)[0]? = some _))) (rx_any_c (rx_hV_ok S ⟨Nat.zero_le _, Nat.zero_le _⟩ mK_tr hK (cwV 1 S.2.2.2.2 (wsA_V wkX4_117 wiX4_badSection weX4_badSection winiX4 wX4_badSection) rfl rfl rfl (by decide +kernel) ⟨by decide, by decide⟩) (ct_X4_badSection l D am cI cZ) (fun w H hP => va_recv hK.1 hP (rfl : vwCl[4]? = some (RX4, TX4, 7)) (rfl : (mW am cI cZ w)[0]? = some _))) (rx_any_c (rx_hV_ok S ⟨Nat.zero_le _, Nat.zero_le _⟩ mK_tr hK (cwV 2 S.2.2.2.2 (wsA_V wkX4_76 wiX4_breaks weX4_breaks winiX4 wX4_breaks) rfl rfl rfl (by decide +kernel) ⟨by decide, by decide⟩) (ct_X4_breaks l D am cI cZ hj) (fun w H hP => va_recv hK.1 hP (rfl : vwCl[4]? = some (RX4, TX4, 7)) (rfl : (mW am cI cZ w)[0]? = some _))) (rx_any_c (rx_hV_ok S ⟨Nat.zero_le _, Nat.zero_le _⟩ mK_tr hK (cwV 1 S.2.2.2.2 (wsA_V wkX4_70 wiX4_placeOf weX4_placeOf winiX4 wX4_placeOf) rfl rfl rfl (by decide +kernel) ⟨by decide, by decide⟩) (ct_X4_placeOf l D am cI cZ) (fun w H hP => va_recv hK.1 hP (rfl : vwCl[4]? = some (RX4, TX4, 7)) (rfl : (mW am cI cZ w)[0]? = some _))) (rx_any_c (rx_hV_ok S ⟨Nat.zero_le _, Nat.zero_le _⟩ mK_tr hK (cwV 1 S.2.2.2.2 (wsA_V wkX4_67 wiX4_lengthOf weX4_lengthOf winiX4 wX4_lengthOf) rfl rfl rfl (by decide +kernel) ⟨by decide, by decide⟩) (ct_X4_lengthOf l D am cI cZ) (fun w H hP => va_recv hK.1 hP (rfl : vwCl[4]? = some (RX4, TX4, 7)) (rfl : (mW am cI cZ w)[0]? = some _))) (rx_any_c (rx_hV_ok S ⟨Nat.zero_le _, Nat.zero_le _⟩ mK_tr hK (cwV 2 S.2.2.2.2 (wsA_V wkX4_86 wiX4_marked weX4_marked winiX4 wX4_marked) rfl rfl rfl (by decide +kernel) ⟨by decide, by decide⟩) (ct_X4_marked l D am cI cZ hj) (fun w H hP => va_recv hK.1 hP (rfl : vwCl[4]? = some (RX4, TX4, 7)) (rfl : (mW am cI cZ w)[0]? = some _))) (rx_any_0))))))
set_option maxHeartbeats 4000000 in
set_option maxRecDepth 100000 in
theorem ct_X4_badSections (l : Launch) (D : va_G) (am : Nat → Nat) (cI cZ : ClassId) (hj : mJ am) : ctM l yX4_badSections cX4_badSections 2 (some .boolean) rX4_badSections D am cI cZ [.ref (am 0)] fX4_badSections := by
  intro w as g w1 r hf hg
  unfold fX4_badSections at hf
  split at hf
  · cases hf
    obtain ⟨hg, hP⟩ := hg
    have hc := sC_lt w.1
    have h10 := t6_s10 hg
    have hB := bn_le w.1
    refine tr_of (rx_mc [(2, fun u w0 lv => w0 = w ∧ ∃ k, k ≤ sC w.1 ∧ u = 100 + (sC w.1 - k) ∧ (∀ i, i < k → ¬ q9 w.1 i) ∧ lv = [(0, .ref (am 0)), (1, .int (nI k))]), (34, fun u w0 lv => (∀ i, i < sC w.1 → ¬ q9 w.1 i) ∧ ∃ k, k ≤ sC w.1 ∧ u = sC w.1 - k ∧ w0 = (w.1, w.2.1, tkS w.1 w.2.2.1 k, w.2.2.2) ∧ (∀ i, i < k → ¬ q10 w.1 i) ∧ lv = [(0, .ref (am 0)), (1, .int (nI k))])]) 400 400 100000 (by decide) rfl rfl (Nat.le_of_ble_eq_true rfl) pX4_badSections_ok (rt_z _) (eo_X4_badSections l D am cI cZ hj) ?_ ?_
    · intro pc g0 hpc u w0 lv hinv
      have hh := rx_mc_of _ hpc
      clear hpc
      simp only [List.mem_cons, List.not_mem_nil, or_false, Prod.mk.injEq] at hh
      rcases hh with ⟨rfl, rfl⟩ | ⟨rfl, rfl⟩
      · obtain ⟨rfl, k, hk, rfl, hz, rfl⟩ := hinv
        simp only [pX4_badSections, eX4_badSections, fX4_badSection, fX4_breaks, fX4_lengthOf, fX4_marked, fX4_placeOf, fX4_sectionCount, rx_n, rx_s, rx_to, rx_get, rx_f1, rx_f2, rx_two, rx_ext, rx_any, rx_hV, rx_hS, rx_hG, rx_hP, rx_hAi, rx_hAb, rx_hBb, rx_hBi, rx_hBp, rx_hL, rx_hLi, rx_got, rx_pop, rx_sum, rx_len, rx_c, rx_m1, lv_args, Value.category, rx_cut_n, rx_cut_m0, rx_cut_m1, rx_iconst, rx_bipush, rx_sipush, rx_lconst, rx_iload_n, rx_iload, rx_lload_n, rx_lload, rx_aload_n, rx_aload, rx_istore_n, rx_istore, rx_lstore_n, rx_lstore, rx_astore_n, rx_astore, rx_iinc, rx_iadd, rx_isub, rx_imul, rx_iand, rx_ixor, rx_ishr, rx_idiv, rx_irem, rx_ladd, rx_lsub, rx_land, rx_lor, rx_lxor, rx_lmul, rx_ldiv, rx_lrem, rx_lushr, rx_lshl, rx_lshr, rx_lneg, rx_i2l, rx_l2i, rx_i2b, rx_lcmp, rx_dup_i, rx_dup_a, rx_pop_i, rx_pop_a, rx_if_eq, rx_if_ne, rx_if_lt, rx_if_ge, rx_if_gt, rx_if_le, rx_icmp_eq, rx_icmp_ne, rx_icmp_lt, rx_icmp_ge, rx_icmp_gt, rx_icmp_le, rx_goto, rx_tsw, rx_ireturn, rx_lreturn, rx_return_, rx_getfield, rx_putfield, rx_invokevirtual, rx_invokespecial, rx_invokestatic, rx_ldc, rx_ldc2_w, rx_iaload, rx_iastore, rx_baload, rx_bastore, Nat.reduceBEq, Nat.reduceAdd, Nat.reduceSub, Nat.reduceMul, Nat.reduceLeDiff, Nat.reduceEqDiff, Nat.reduceLT, Int.reduceLT, Int.reduceLE, Int.reduceNeg, Int.reduceToNat, Int.reduceAdd, Fin.isValue, Fin.val_zero, Fin.val_one, Fin.reduceFinMk, Fin.val_ofNat, Bool.or_true, Bool.true_or, Bool.or_false, Bool.false_or, Bool.and_true, Bool.true_and, Bool.and_false, Bool.false_and, cond_true, cond_false, ↓reduceIte, eq_self, ne_eq, not_true_eq_false, not_false_eq_true, true_and, and_true, Option.toList_some, Option.toList_none, List.cons_append, List.nil_append, Option.some.injEq, Value.int.injEq, Value.long.injEq, rx_l0, rx_l1, rx_fv0, rx_fv1, rx_fv2, rx_fv3, nI_c1, nI_c2, nI_c4, nI_c8, nI_c9, nI_c24, nI_c64, Nat.le_refl, bI_z, bI_0, bI_1, Classical.not_not, lg_cmp_ge, lg_cmp_le, lg_cmp_gt, lg_cmp_lt, lg_cmp_eq]
        simp (disch := omega) only [nI_leI, nI_clamp]
        refine ⟨fun h => ?_, fun h => ⟨⟨hg, trivial, by omega⟩, fun a => ?_, fun a => ?_⟩⟩
        · refine ⟨sC w0.1, _, by omega, ⟨fun i hi => hz i (by omega), 0, by omega, rfl, rfl, lt_0, rfl⟩, ?_⟩
          simp only [List.mem_cons, List.not_mem_nil, or_false, forall_eq_or_imp, forall_eq, Nat.reduceBEq, cond_true, cond_false, Option.some.injEq, Value.int.injEq, Value.long.injEq, Value.ref.injEq, true_and, and_true]
        · refine ⟨100 + (sC w0.1 - (k + 1)), _, by omega, ⟨k + 1, by omega, rfl, lt_s hz a, rfl⟩, ?_⟩
          simp only [List.mem_cons, List.not_mem_nil, or_false, forall_eq_or_imp, forall_eq, Nat.reduceBEq, cond_true, cond_false, Option.some.injEq, Value.int.injEq, Value.long.injEq, Value.ref.injEq, true_and, and_true]
          exact nI_add k 1
        · have e := oI_some hz a (show k < sC w0.1 by omega)
          have n : ¬ oI (q9 w0.1) (sC w0.1) = -1 := by rw [e]; exact nI_nm1 (by omega)
          refine ⟨?_, bI_iff ⟨fun _ => Or.inl n, fun _ => trivial⟩⟩
          unfold mV9
          rw [if_pos n, e]
      · obtain ⟨h9, k, hk, rfl, rfl, hz, rfl⟩ := hinv
        have n9 : oI (q9 w.1) (sC w.1) = -1 := oI_none h9
        have t9' : t9 w.1 := ⟨hg, h9⟩
        simp only [pX4_badSections, eX4_badSections, fX4_badSection, fX4_breaks, fX4_lengthOf, fX4_marked, fX4_placeOf, fX4_sectionCount, rx_n, rx_s, rx_to, rx_get, rx_f1, rx_f2, rx_two, rx_ext, rx_any, rx_hV, rx_hS, rx_hG, rx_hP, rx_hAi, rx_hAb, rx_hBb, rx_hBi, rx_hBp, rx_hL, rx_hLi, rx_got, rx_pop, rx_sum, rx_len, rx_c, rx_m1, lv_args, Value.category, rx_cut_n, rx_cut_m0, rx_cut_m1, rx_iconst, rx_bipush, rx_sipush, rx_lconst, rx_iload_n, rx_iload, rx_lload_n, rx_lload, rx_aload_n, rx_aload, rx_istore_n, rx_istore, rx_lstore_n, rx_lstore, rx_astore_n, rx_astore, rx_iinc, rx_iadd, rx_isub, rx_imul, rx_iand, rx_ixor, rx_ishr, rx_idiv, rx_irem, rx_ladd, rx_lsub, rx_land, rx_lor, rx_lxor, rx_lmul, rx_ldiv, rx_lrem, rx_lushr, rx_lshl, rx_lshr, rx_lneg, rx_i2l, rx_l2i, rx_i2b, rx_lcmp, rx_dup_i, rx_dup_a, rx_pop_i, rx_pop_a, rx_if_eq, rx_if_ne, rx_if_lt, rx_if_ge, rx_if_gt, rx_if_le, rx_icmp_eq, rx_icmp_ne, rx_icmp_lt, rx_icmp_ge, rx_icmp_gt, rx_icmp_le, rx_goto, rx_tsw, rx_ireturn, rx_lreturn, rx_return_, rx_getfield, rx_putfield, rx_invokevirtual, rx_invokespecial, rx_invokestatic, rx_ldc, rx_ldc2_w, rx_iaload, rx_iastore, rx_baload, rx_bastore, Nat.reduceBEq, Nat.reduceAdd, Nat.reduceSub, Nat.reduceMul, Nat.reduceLeDiff, Nat.reduceEqDiff, Nat.reduceLT, Int.reduceLT, Int.reduceLE, Int.reduceNeg, Int.reduceToNat, Int.reduceAdd, Fin.isValue, Fin.val_zero, Fin.val_one, Fin.reduceFinMk, Fin.val_ofNat, Bool.or_true, Bool.true_or, Bool.or_false, Bool.false_or, Bool.and_true, Bool.true_and, Bool.and_false, Bool.false_and, cond_true, cond_false, ↓reduceIte, eq_self, ne_eq, not_true_eq_false, not_false_eq_true, true_and, and_true, Option.toList_some, Option.toList_none, List.cons_append, List.nil_append, Option.some.injEq, Value.int.injEq, Value.long.injEq, rx_l0, rx_l1, rx_fv0, rx_fv1, rx_fv2, rx_fv3, nI_c1, nI_c2, nI_c4, nI_c8, nI_c9, nI_c24, nI_c64, Nat.le_refl, bI_z, bI_0, bI_1, Classical.not_not, lg_cmp_ge, lg_cmp_le, lg_cmp_gt, lg_cmp_lt, lg_cmp_eq]
        simp (disch := omega) only [nI_leI, nI_clamp]
        refine ⟨fun h => ?_, fun h => ?_⟩
        · have n10 : oI (q10 w.1) (sC w.1) = -1 := oI_none (fun i hi => hz i (by omega))
          have ek : k = sC w.1 := by omega
          have ef : fi (q10 w.1) (sC w.1) = sC w.1 := fi_eq (fun i hi => hz i (by omega)) (fun q => by omega) (Nat.le_refl _)
          refine ⟨?_, fun q => q.elim (fun z => z n9) (fun z => z n10)⟩
          unfold mV9
          rw [if_neg (fun q => q n9), if_neg (fun q => q n10), ek]
        have hk2 : k < sC w.1 := by omega
        have hR := t9_room t9' hk2
        simp (disch := omega) only [nI_clamp]
        have em := tkS_m t9' hP hk2
        refine ⟨⟨hg, trivial, hk2⟩, ⟨hg, trivial, hk2⟩, ⟨trivial, trivial, by omega⟩, fun a => ?_, fun a => ?_⟩
        · refine ⟨sC w.1 - (k + 1), _, by omega, ⟨h9, k + 1, by omega, rfl, rfl, lt_s hz (fun q => a (em.mpr q)), rfl⟩, ?_⟩
          simp only [List.mem_cons, List.not_mem_nil, or_false, forall_eq_or_imp, forall_eq, Nat.reduceBEq, cond_true, cond_false, Option.some.injEq, Value.int.injEq, Value.long.injEq, Value.ref.injEq, true_and, and_true]
          exact nI_add k 1
        · have q := em.mp a
          have e := oI_some hz q hk2
          have n : ¬ oI (q10 w.1) (sC w.1) = -1 := by rw [e]; exact nI_nm1 (by omega)
          have ef : fi (q10 w.1) (sC w.1) = k := fi_eq hz (fun _ => q) hk
          refine ⟨?_, bI_iff ⟨fun _ => Or.inr n, fun _ => trivial⟩⟩
          unfold mV9
          rw [if_neg (fun q => q n9), if_pos n, e, ef]
          rfl
    · simp only [pX4_badSections, eX4_badSections, fX4_badSection, fX4_breaks, fX4_lengthOf, fX4_marked, fX4_placeOf, fX4_sectionCount, rx_n, rx_s, rx_to, rx_get, rx_f1, rx_f2, rx_two, rx_ext, rx_any, rx_hV, rx_hS, rx_hG, rx_hP, rx_hAi, rx_hAb, rx_hBb, rx_hBi, rx_hBp, rx_hL, rx_hLi, rx_got, rx_pop, rx_sum, rx_len, rx_c, rx_m1, lv_args, Value.category, rx_cut_n, rx_cut_m0, rx_cut_m1, rx_iconst, rx_bipush, rx_sipush, rx_lconst, rx_iload_n, rx_iload, rx_lload_n, rx_lload, rx_aload_n, rx_aload, rx_istore_n, rx_istore, rx_lstore_n, rx_lstore, rx_astore_n, rx_astore, rx_iinc, rx_iadd, rx_isub, rx_imul, rx_iand, rx_ixor, rx_ishr, rx_idiv, rx_irem, rx_ladd, rx_lsub, rx_land, rx_lor, rx_lxor, rx_lmul, rx_ldiv, rx_lrem, rx_lushr, rx_lshl, rx_lshr, rx_lneg, rx_i2l, rx_l2i, rx_i2b, rx_lcmp, rx_dup_i, rx_dup_a, rx_pop_i, rx_pop_a, rx_if_eq, rx_if_ne, rx_if_lt, rx_if_ge, rx_if_gt, rx_if_le, rx_icmp_eq, rx_icmp_ne, rx_icmp_lt, rx_icmp_ge, rx_icmp_gt, rx_icmp_le, rx_goto, rx_tsw, rx_ireturn, rx_lreturn, rx_return_, rx_getfield, rx_putfield, rx_invokevirtual, rx_invokespecial, rx_invokestatic, rx_ldc, rx_ldc2_w, rx_iaload, rx_iastore, rx_baload, rx_bastore, Nat.reduceBEq, Nat.reduceAdd, Nat.reduceSub, Nat.reduceMul, Nat.reduceLeDiff, Nat.reduceEqDiff, Nat.reduceLT, Int.reduceLT, Int.reduceLE, Int.reduceNeg, Int.reduceToNat, Int.reduceAdd, Fin.isValue, Fin.val_zero, Fin.val_one, Fin.reduceFinMk, Fin.val_ofNat, Bool.or_true, Bool.true_or, Bool.or_false, Bool.false_or, Bool.and_true, Bool.true_and, Bool.and_false, Bool.false_and, cond_true, cond_false, ↓reduceIte, eq_self, ne_eq, not_true_eq_false, not_false_eq_true, true_and, and_true, Option.toList_some, Option.toList_none, List.cons_append, List.nil_append, Option.some.injEq, Value.int.injEq, Value.long.injEq, rx_l0, rx_l1, rx_fv0, rx_fv1, rx_fv2, rx_fv3, nI_c1, nI_c2, nI_c4, nI_c8, nI_c9, nI_c24, nI_c64, Nat.le_refl, bI_z, bI_0, bI_1, Classical.not_not, lg_cmp_ge, lg_cmp_le, lg_cmp_gt, lg_cmp_lt, lg_cmp_eq]
      refine ⟨100 + sC w.1, _, by omega, ⟨0, by omega, rfl, lt_0, rfl⟩, ?_⟩
      simp only [List.mem_cons, List.not_mem_nil, or_false, forall_eq_or_imp, forall_eq, Nat.reduceBEq, cond_true, cond_false, Option.some.injEq, Value.int.injEq, Value.long.injEq, Value.ref.injEq, true_and, and_true]
  · cases hf
