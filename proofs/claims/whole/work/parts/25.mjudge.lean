def pX4_judge : rx_P := [(0, .aload_n 0, 0), (1, .iconst 0, 0), (2, .putfield 21, 0), (5, .aload_n 0, 0), (6, .iconst 1, 0), (7, .putfield 140, 0), (10, .aload_n 0, 0), (11, .invokevirtual 144, 0), (14, .ifCond .ne 38, 52), (17, .aload_n 0, 0), (18, .invokevirtual 148, 0), (21, .ifCond .ne 31, 52), (24, .aload_n 0, 0), (25, .invokevirtual 151, 0), (28, .ifCond .ne 24, 52), (31, .aload_n 0, 0), (32, .invokevirtual 154, 0), (35, .ifCond .ne 17, 52), (38, .aload_n 0, 0), (39, .invokevirtual 157, 0), (42, .ifCond .ne 10, 52), (45, .aload_n 0, 0), (46, .invokevirtual 160, 0), (49, .ifCond .eq 7, 56), (52, .iconst 1, 0), (53, .goto 4, 57), (56, .iconst 0, 0), (57, .istore_n 1, 0), (58, .iload_n 1, 0), (59, .ifCond .ne 41, 100), (62, .aload_n 0, 0), (63, .bipush 16, 0), (65, .invokevirtual 24, 0), (68, .iconst 2, 0), (69, .if_icmp .ne 31, 100), (72, .aload_n 0, 0), (73, .aload_n 0, 0), (74, .bipush 28, 0), (76, .invokevirtual 30, 0), (79, .aload_n 0, 0), (80, .bipush 24, 0), (82, .invokevirtual 30, 0), (85, .iconst 1, 0), (86, .invokevirtual 163, 0), (89, .ifCond .ge 11, 100), (92, .aload_n 0, 0), (93, .bipush 14, 0), (95, .iconst (-1), 0), (96, .invokevirtual 76, 0), (99, .istore_n 1, 0), (100, .iload_n 1, 0), (101, .ifCond .ne 10, 111), (104, .aload_n 0, 0), (105, .iconst 0, 0), (106, .iconst (-1), 0), (107, .invokevirtual 76, 0), (110, .istore_n 1, 0), (111, .aload_n 0, 0), (112, .getfield 73, 0), (115, .ireturn, 0)]
theorem pX4_judge_ok : ∀ q ∈ pX4_judge, rx_ok cX4_judge q := rx_ok_all (by decide +kernel)
abbrev rX4_judge : Room := { frames := 7, cells := 0, slots := 0, locals := 153 }
noncomputable def fX4_judge : rx_F mS := fun w as => match as with
  | [] => some (True, mF w (tJ w.1 w.2.2.1) (vD w.1).1 (vD w.1).2, some (.int (vD w.1).1))
  | _ => none
noncomputable def eX4_judge (am : Nat → Nat) : rx_E mS := rx_any [rx_hP 21 (am 0) (fun w v => match v with | .int z => some (True, (w.1, z, w.2.2)) | _ => none), rx_hP 140 (am 0) (fun w v => match v with | .int z => some (narrow .boolean (.int z) = .int z ∧ fits .boolean (.int z) = true, (w.1, w.2.1, w.2.2.1, z, w.2.2.2.2)) | _ => none), rx_hV 144 0 (am 0) fX4_badHead, rx_hV 148 0 (am 0) fX4_badTables, rx_hV 151 0 (am 0) fX4_badSegments, rx_hV 154 0 (am 0) fX4_badSections, rx_hV 157 0 (am 0) fX4_badTexts, rx_hV 160 0 (am 0) fX4_badSymbols, rx_hV 24 1 (am 0) fX4_two, rx_hV 30 1 (am 0) fX4_four, rx_hV 163 3 (am 0) fX4_lying, rx_hV 76 2 (am 0) fX4_breaks, rx_hG 73 (am 0) (fun w => .int w.2.2.2.2.1)]
set_option maxHeartbeats 4000000 in
set_option maxRecDepth 100000 in
theorem eo_X4_judge (l : Launch) (D : va_G) (am : Nat → Nat) (cI cZ : ClassId) (hj : mJ am) : ∀ (p : Program) (e : Env) (s : State) (m : MethodId) (args : Array Value) (below : List Frame) (meth : Method) (c : Code) (Qw : State → Prop), CallFix p m c cX4_judge 2 s args (Cond.code yX4_judge cX4_judge 2 (some .int) :: wsA) RX4 → mK D cI cZ s → rx_Eok (fun H locs g => W p l e rX4_judge s m args below meth c H locs 0 0 Qw g) m cX4_judge 2 (tr_I D vwCl (mA am) s (mW am cI cZ)) (eX4_judge am) := by
  intro p e s m args below meth c Qw S hK
  have ht : ∀ w ∈ wsA, w.before args s = true := fun w h => S.2.2.2.2 w (wsA_in h)
  exact rx_any_c (rx_hP_ok (fun w v g w1 H locs pc ls rest hfv hg hI hd kk => by
    cases v with
    | int z =>
      cases hfv
      exact va_put (D := D) (ci := 4) (ty := .int) (C := RX4) (T := TX4) (N := 7) S.1 S.2.1 ht inX4 tyX4 tyX4_ok nmX4 S.2.2.2.1 hK.1 hI.1 (mD hj cI cZ w) hI.2 0 rfl rfl 0 (by decide) (ht _ wfX4_21) (fun _ h9 => h9) rfl (by decide +kernel) rfl rfl (Nat.le_of_ble_eq_true rfl) hd (fun H1 locs1 hP _ hS => kk H1 locs1 ⟨hP, hS⟩)
    | _ => cases hfv)) (rx_any_c (rx_hP_ok (fun w v g w1 H locs pc ls rest hfv hg hI hd kk => by
    cases v with
    | int z =>
      cases hfv
      exact va_put (D := D) (ci := 4) (ty := .boolean) (C := RX4) (T := TX4) (N := 7) S.1 S.2.1 ht inX4 tyX4 tyX4_ok nmX4 S.2.2.2.1 hK.1 hI.1 (mD hj cI cZ w) hI.2 0 rfl rfl 4 (by decide) (ht _ wfX4_140) (fun _ h9 => h9) rfl (by decide +kernel) hg.1 hg.2 (Nat.le_of_ble_eq_true rfl) hd (fun H1 locs1 hP _ hS => kk H1 locs1 ⟨hP, hS⟩)
    | _ => cases hfv)) (rx_any_c (rx_hV_ok S ⟨Nat.zero_le _, Nat.zero_le _⟩ mK_tr hK (cwV 0 S.2.2.2.2 (wsA_V wkX4_144 wiX4_badHead weX4_badHead winiX4 wX4_badHead) rfl rfl rfl (by decide +kernel) ⟨by decide, by decide⟩) (ct_X4_badHead l D am cI cZ hj) (fun w H hP => va_recv hK.1 hP (rfl : vwCl[4]? = some (RX4, TX4, 7)) (rfl : (mW am cI cZ w)[0]? = some _))) (rx_any_c (rx_hV_ok S ⟨Nat.zero_le _, Nat.zero_le _⟩ mK_tr hK (cwV 0 S.2.2.2.2 (wsA_V wkX4_148 wiX4_badTables weX4_badTables winiX4 wX4_badTables) rfl rfl rfl (by decide +kernel) ⟨by decide, by decide⟩) (ct_X4_badTables l D am cI cZ hj) (fun w H hP => va_recv hK.1 hP (rfl : vwCl[4]? = some (RX4, TX4, 7)) (rfl : (mW am cI cZ w)[0]? = some _))) (rx_any_c (rx_hV_ok S ⟨Nat.zero_le _, Nat.zero_le _⟩ mK_tr hK (cwV 0 S.2.2.2.2 (wsA_V wkX4_151 wiX4_badSegments weX4_badSegments winiX4 wX4_badSegments) rfl rfl rfl (by decide +kernel) ⟨by decide, by decide⟩) (ct_X4_badSegments l D am cI cZ hj) (fun w H hP => va_recv hK.1 hP (rfl : vwCl[4]? = some (RX4, TX4, 7)) (rfl : (mW am cI cZ w)[0]? = some _))) (rx_any_c (rx_hV_ok S ⟨Nat.zero_le _, Nat.zero_le _⟩ mK_tr hK (cwV 0 S.2.2.2.2 (wsA_V wkX4_154 wiX4_badSections weX4_badSections winiX4 wX4_badSections) rfl rfl rfl (by decide +kernel) ⟨by decide, by decide⟩) (ct_X4_badSections l D am cI cZ hj) (fun w H hP => va_recv hK.1 hP (rfl : vwCl[4]? = some (RX4, TX4, 7)) (rfl : (mW am cI cZ w)[0]? = some _))) (rx_any_c (rx_hV_ok S ⟨Nat.zero_le _, Nat.zero_le _⟩ mK_tr hK (cwV 0 S.2.2.2.2 (wsA_V wkX4_157 wiX4_badTexts weX4_badTexts winiX4 wX4_badTexts) rfl rfl rfl (by decide +kernel) ⟨by decide, by decide⟩) (ct_X4_badTexts l D am cI cZ hj) (fun w H hP => va_recv hK.1 hP (rfl : vwCl[4]? = some (RX4, TX4, 7)) (rfl : (mW am cI cZ w)[0]? = some _))) (rx_any_c (rx_hV_ok S ⟨Nat.zero_le _, Nat.zero_le _⟩ mK_tr hK (cwV 0 S.2.2.2.2 (wsA_V wkX4_160 wiX4_badSymbols weX4_badSymbols winiX4 wX4_badSymbols) rfl rfl rfl (by decide +kernel) ⟨by decide, by decide⟩) (ct_X4_badSymbols l D am cI cZ hj) (fun w H hP => va_recv hK.1 hP (rfl : vwCl[4]? = some (RX4, TX4, 7)) (rfl : (mW am cI cZ w)[0]? = some _))) (rx_any_c (rx_hV_ok S ⟨Nat.zero_le _, Nat.zero_le _⟩ mK_tr hK (cwV 1 S.2.2.2.2 (wsA_V wkX4_24 wiX4_two weX4_two winiX4 wX4_two) rfl rfl rfl (by decide +kernel) ⟨by decide, by decide⟩) (ct_X4_two l D am cI cZ) (fun w H hP => va_recv hK.1 hP (rfl : vwCl[4]? = some (RX4, TX4, 7)) (rfl : (mW am cI cZ w)[0]? = some _))) (rx_any_c (rx_hV_ok S ⟨Nat.zero_le _, Nat.zero_le _⟩ mK_tr hK (cwV 1 S.2.2.2.2 (wsA_V wkX4_30 wiX4_four weX4_four winiX4 wX4_four) rfl rfl rfl (by decide +kernel) ⟨by decide, by decide⟩) (ct_X4_four l D am cI cZ) (fun w H hP => va_recv hK.1 hP (rfl : vwCl[4]? = some (RX4, TX4, 7)) (rfl : (mW am cI cZ w)[0]? = some _))) (rx_any_c (rx_hV_ok S ⟨Nat.zero_le _, Nat.zero_le _⟩ mK_tr hK (cwV 3 S.2.2.2.2 (wsA_V wkX4_163 wiX4_lying weX4_lying winiX4 wX4_lying) rfl rfl rfl (by decide +kernel) ⟨by decide, by decide⟩) (ct_X4_lying l D am cI cZ) (fun w H hP => va_recv hK.1 hP (rfl : vwCl[4]? = some (RX4, TX4, 7)) (rfl : (mW am cI cZ w)[0]? = some _))) (rx_any_c (rx_hV_ok S ⟨Nat.zero_le _, Nat.zero_le _⟩ mK_tr hK (cwV 2 S.2.2.2.2 (wsA_V wkX4_76 wiX4_breaks weX4_breaks winiX4 wX4_breaks) rfl rfl rfl (by decide +kernel) ⟨by decide, by decide⟩) (ct_X4_breaks l D am cI cZ hj) (fun w H hP => va_recv hK.1 hP (rfl : vwCl[4]? = some (RX4, TX4, 7)) (rfl : (mW am cI cZ w)[0]? = some _))) (rx_any_c (rx_hG_ok (fun w H locs pc ls rest hI hd k => va_get (D := D) (ci := 4) (C := RX4) (T := TX4) (N := 7) S.1 S.2.1 ht inX4 S.2.2.2.1 hK.1 hI.1 0 rfl rfl 5 (by decide) (ht _ wfX4_73) (fun _ h9 => h9) rfl hd k)) (rx_any_0)))))))))))))
set_option maxHeartbeats 4000000 in
set_option maxRecDepth 100000 in
theorem ct_X4_judge (l : Launch) (D : va_G) (am : Nat → Nat) (cI cZ : ClassId) (hj : mJ am) : ctM l yX4_judge cX4_judge 2 (some .int) rX4_judge D am cI cZ [.ref (am 0)] fX4_judge := by
  intro w as g w1 r hf hg
  unfold fX4_judge at hf
  split at hf
  · cases hf
    have hB := bn_le w.1
    have hc := gC_lt w.1
    have hs := sC_lt w.1
    refine tr_of (rx_mc [(17, fun u w0 lv => u = 60 ∧ (r5 w.1 = 0) ∧ w0 = mF w (w.2.2.1) w.2.2.2.2.1 w.2.2.2.2.2 ∧ lv = [(0, .ref (am 0))]), (24, fun u w0 lv => u = 50 ∧ (r5 w.1 = 0 ∧ q6 w.1) ∧ w0 = mF w (tk6 w.1 w.2.2.1) w.2.2.2.2.1 w.2.2.2.2.2 ∧ lv = [(0, .ref (am 0))]), (31, fun u w0 lv => u = 40 ∧ (r5 w.1 = 0 ∧ q6 w.1 ∧ oI (q7 w.1) (gC w.1) = -1 ∧ oI (q8 w.1) (gC w.1) = -1) ∧ w0 = mF w (tk6 w.1 w.2.2.1) w.2.2.2.2.1 w.2.2.2.2.2 ∧ lv = [(0, .ref (am 0))]), (38, fun u w0 lv => u = 30 ∧ (r5 w.1 = 0 ∧ q6 w.1 ∧ oI (q7 w.1) (gC w.1) = -1 ∧ oI (q8 w.1) (gC w.1) = -1 ∧ oI (q9 w.1) (sC w.1) = -1 ∧ oI (q10 w.1) (sC w.1) = -1) ∧ w0 = mF w (tJ w.1 w.2.2.1) w.2.2.2.2.1 w.2.2.2.2.2 ∧ lv = [(0, .ref (am 0))]), (45, fun u w0 lv => u = 20 ∧ (r5 w.1 = 0 ∧ q6 w.1 ∧ oI (q7 w.1) (gC w.1) = -1 ∧ oI (q8 w.1) (gC w.1) = -1 ∧ oI (q9 w.1) (sC w.1) = -1 ∧ oI (q10 w.1) (sC w.1) = -1 ∧ r11 w.1 = -1) ∧ w0 = mF w (tJ w.1 w.2.2.1) w.2.2.2.2.1 w.2.2.2.2.2 ∧ lv = [(0, .ref (am 0))]), (58, fun u w0 lv => u = 1 ∧ ((w0 = mF w (tJ w.1 w.2.2.1) (vD w.1).1 (vD w.1).2 ∧ lv = [(0, .ref (am 0)), (1, .int (nI 1))]) ∨ (gd w.1 ∧ w0 = mF w (tJ w.1 w.2.2.1) w.2.2.2.2.1 w.2.2.2.2.2 ∧ lv = [(0, .ref (am 0)), (1, .int (nI 0))])))]) 400 400 100000 (by decide) rfl rfl (Nat.le_of_ble_eq_true rfl) pX4_judge_ok (rt_i _) (eo_X4_judge l D am cI cZ hj) ?_ ?_
    · intro pc g0 hpc u w0 lv hinv
      have hh := rx_mc_of _ hpc
      clear hpc
      simp only [List.mem_cons, List.not_mem_nil, or_false, Prod.mk.injEq] at hh
      rcases hh with ⟨rfl, rfl⟩ | ⟨rfl, rfl⟩ | ⟨rfl, rfl⟩ | ⟨rfl, rfl⟩ | ⟨rfl, rfl⟩ | ⟨rfl, rfl⟩
      · obtain ⟨rfl, h5, rfl, rfl⟩ := hinv
        have e0 : ¬ q6 w.1 → tJ w.1 w.2.2.1 = tk6 w.1 w.2.2.1 := fun q => by unfold tJ; rw [if_pos h5, if_neg (fun z => q z.1)]
        unfold mF
        simp only [pX4_judge, eX4_judge, fX4_badHead, fX4_badSections, fX4_badSegments, fX4_badSymbols, fX4_badTables, fX4_badTexts, fX4_breaks, fX4_four, fX4_lying, fX4_two, rx_n, rx_s, rx_to, rx_get, rx_f1, rx_f2, rx_two, rx_ext, rx_any, rx_hV, rx_hS, rx_hG, rx_hP, rx_hAi, rx_hAb, rx_hBb, rx_hBi, rx_hBp, rx_hL, rx_hLi, rx_got, rx_pop, rx_sum, rx_len, rx_c, rx_m1, lv_args, Value.category, rx_cut_n, rx_cut_m0, rx_cut_m1, rx_iconst, rx_bipush, rx_sipush, rx_lconst, rx_iload_n, rx_iload, rx_lload_n, rx_lload, rx_aload_n, rx_aload, rx_istore_n, rx_istore, rx_lstore_n, rx_lstore, rx_astore_n, rx_astore, rx_iinc, rx_iadd, rx_isub, rx_imul, rx_iand, rx_ixor, rx_ishr, rx_idiv, rx_irem, rx_ladd, rx_lsub, rx_land, rx_lor, rx_lxor, rx_lmul, rx_ldiv, rx_lrem, rx_lushr, rx_lshl, rx_lshr, rx_lneg, rx_i2l, rx_l2i, rx_i2b, rx_lcmp, rx_dup_i, rx_dup_a, rx_pop_i, rx_pop_a, rx_if_eq, rx_if_ne, rx_if_lt, rx_if_ge, rx_if_gt, rx_if_le, rx_icmp_eq, rx_icmp_ne, rx_icmp_lt, rx_icmp_ge, rx_icmp_gt, rx_icmp_le, rx_goto, rx_tsw, rx_ireturn, rx_lreturn, rx_return_, rx_getfield, rx_putfield, rx_invokevirtual, rx_invokespecial, rx_invokestatic, rx_ldc, rx_ldc2_w, rx_iaload, rx_iastore, rx_baload, rx_bastore, Nat.reduceBEq, Nat.reduceAdd, Nat.reduceSub, Nat.reduceMul, Nat.reduceLeDiff, Nat.reduceEqDiff, Nat.reduceLT, Int.reduceLT, Int.reduceLE, Int.reduceNeg, Int.reduceToNat, Int.reduceAdd, Fin.isValue, Fin.val_zero, Fin.val_one, Fin.reduceFinMk, Fin.val_ofNat, Bool.or_true, Bool.true_or, Bool.or_false, Bool.false_or, Bool.and_true, Bool.true_and, Bool.and_false, Bool.false_and, cond_true, cond_false, ↓reduceIte, eq_self, ne_eq, not_true_eq_false, not_false_eq_true, true_and, and_true, Option.toList_some, Option.toList_none, List.cons_append, List.nil_append, Option.some.injEq, Value.int.injEq, Value.long.injEq, rx_l0, rx_l1, rx_fv0, rx_fv1, rx_fv2, rx_fv3, nI_c1, nI_c2, nI_c4, nI_c8, nI_c9, nI_c24, nI_c64, Nat.le_refl, bI_z, bI_0, bI_1, Classical.not_not, lg_cmp_ge, lg_cmp_le, lg_cmp_gt, lg_cmp_lt, lg_cmp_eq]
        refine ⟨fun a => ?_, fun a => ?_⟩
        · rw [mU_no a, e0 a, vD_6 h5 a]
          refine ⟨1, _, by omega, ⟨rfl, Or.inl ⟨rfl, rfl⟩⟩, ?_⟩
          simp only [List.mem_cons, List.not_mem_nil, or_false, forall_eq_or_imp, forall_eq, Nat.reduceBEq, cond_true, cond_false, Option.some.injEq, Value.int.injEq, Value.long.injEq, Value.ref.injEq, true_and, and_true]
        · rw [mU_ok a]
          refine ⟨50, _, by omega, ⟨rfl, ⟨h5, a⟩, rfl, rfl⟩, ?_⟩
          simp only [List.mem_cons, List.not_mem_nil, or_false, forall_eq_or_imp, forall_eq, Nat.reduceBEq, cond_true, cond_false, Option.some.injEq, Value.int.injEq, Value.long.injEq, Value.ref.injEq, true_and, and_true]
      · obtain ⟨rfl, ⟨h5, h6⟩, rfl, rfl⟩ := hinv
        have t6' : t6 w.1 := rH_t6 (rH_0 h5 h6)
        have e0 : (¬ oI (q7 w.1) (gC w.1) = -1 ∨ ¬ oI (q8 w.1) (gC w.1) = -1) → tJ w.1 w.2.2.1 = tk6 w.1 w.2.2.1 := fun q => by unfold tJ; rw [if_pos h5, if_neg (fun z => q.elim (fun y => y z.2.1) (fun y => y z.2.2))]
        unfold mF
        simp only [pX4_judge, eX4_judge, fX4_badHead, fX4_badSections, fX4_badSegments, fX4_badSymbols, fX4_badTables, fX4_badTexts, fX4_breaks, fX4_four, fX4_lying, fX4_two, rx_n, rx_s, rx_to, rx_get, rx_f1, rx_f2, rx_two, rx_ext, rx_any, rx_hV, rx_hS, rx_hG, rx_hP, rx_hAi, rx_hAb, rx_hBb, rx_hBi, rx_hBp, rx_hL, rx_hLi, rx_got, rx_pop, rx_sum, rx_len, rx_c, rx_m1, lv_args, Value.category, rx_cut_n, rx_cut_m0, rx_cut_m1, rx_iconst, rx_bipush, rx_sipush, rx_lconst, rx_iload_n, rx_iload, rx_lload_n, rx_lload, rx_aload_n, rx_aload, rx_istore_n, rx_istore, rx_lstore_n, rx_lstore, rx_astore_n, rx_astore, rx_iinc, rx_iadd, rx_isub, rx_imul, rx_iand, rx_ixor, rx_ishr, rx_idiv, rx_irem, rx_ladd, rx_lsub, rx_land, rx_lor, rx_lxor, rx_lmul, rx_ldiv, rx_lrem, rx_lushr, rx_lshl, rx_lshr, rx_lneg, rx_i2l, rx_l2i, rx_i2b, rx_lcmp, rx_dup_i, rx_dup_a, rx_pop_i, rx_pop_a, rx_if_eq, rx_if_ne, rx_if_lt, rx_if_ge, rx_if_gt, rx_if_le, rx_icmp_eq, rx_icmp_ne, rx_icmp_lt, rx_icmp_ge, rx_icmp_gt, rx_icmp_le, rx_goto, rx_tsw, rx_ireturn, rx_lreturn, rx_return_, rx_getfield, rx_putfield, rx_invokevirtual, rx_invokespecial, rx_invokestatic, rx_ldc, rx_ldc2_w, rx_iaload, rx_iastore, rx_baload, rx_bastore, Nat.reduceBEq, Nat.reduceAdd, Nat.reduceSub, Nat.reduceMul, Nat.reduceLeDiff, Nat.reduceEqDiff, Nat.reduceLT, Int.reduceLT, Int.reduceLE, Int.reduceNeg, Int.reduceToNat, Int.reduceAdd, Fin.isValue, Fin.val_zero, Fin.val_one, Fin.reduceFinMk, Fin.val_ofNat, Bool.or_true, Bool.true_or, Bool.or_false, Bool.false_or, Bool.and_true, Bool.true_and, Bool.and_false, Bool.false_and, cond_true, cond_false, ↓reduceIte, eq_self, ne_eq, not_true_eq_false, not_false_eq_true, true_and, and_true, Option.toList_some, Option.toList_none, List.cons_append, List.nil_append, Option.some.injEq, Value.int.injEq, Value.long.injEq, rx_l0, rx_l1, rx_fv0, rx_fv1, rx_fv2, rx_fv3, nI_c1, nI_c2, nI_c4, nI_c8, nI_c9, nI_c24, nI_c64, Nat.le_refl, bI_z, bI_0, bI_1, Classical.not_not, lg_cmp_ge, lg_cmp_le, lg_cmp_gt, lg_cmp_lt, lg_cmp_eq]
        refine ⟨t6', fun a => ?_, fun a => ?_⟩
        · rw [e0 a]
          by_cases h7 : oI (q7 w.1) (gC w.1) = -1
          · have h8 := a.resolve_left (fun y => y h7)
            rw [vD_8 h5 h6 h7 h8]
            refine ⟨1, _, by omega, ⟨rfl, Or.inl ⟨?_, rfl⟩⟩, ?_⟩
            · unfold mV7
              dsimp only
              rw [if_neg (fun q => q h7), if_pos h8]
              rfl
            · simp only [List.mem_cons, List.not_mem_nil, or_false, forall_eq_or_imp, forall_eq, Nat.reduceBEq, cond_true, cond_false, Option.some.injEq, Value.int.injEq, Value.long.injEq, Value.ref.injEq, true_and, and_true]
          · rw [vD_7 h5 h6 h7]
            refine ⟨1, _, by omega, ⟨rfl, Or.inl ⟨?_, rfl⟩⟩, ?_⟩
            · unfold mV7
              dsimp only
              rw [if_pos h7]
              rfl
            · simp only [List.mem_cons, List.not_mem_nil, or_false, forall_eq_or_imp, forall_eq, Nat.reduceBEq, cond_true, cond_false, Option.some.injEq, Value.int.injEq, Value.long.injEq, Value.ref.injEq, true_and, and_true]
        · have h7 : oI (q7 w.1) (gC w.1) = -1 := Classical.byContradiction fun q => a (Or.inl q)
          have h8 : oI (q8 w.1) (gC w.1) = -1 := Classical.byContradiction fun q => a (Or.inr q)
          refine ⟨40, _, by omega, ⟨rfl, ⟨h5, h6, h7, h8⟩, ?_, rfl⟩, ?_⟩
          · unfold mV7
            dsimp only
            rw [if_neg (fun q => q h7), if_neg (fun q => q h8)]
          · simp only [List.mem_cons, List.not_mem_nil, or_false, forall_eq_or_imp, forall_eq, Nat.reduceBEq, cond_true, cond_false, Option.some.injEq, Value.int.injEq, Value.long.injEq, Value.ref.injEq, true_and, and_true]
      · obtain ⟨rfl, ⟨h5, h6, h7, h8⟩, rfl, rfl⟩ := hinv
        have t6' : t6 w.1 := rH_t6 (rH_0 h5 h6)
        have e0 : tJ w.1 w.2.2.1 = (mV9 (w.1, 0, tk6 w.1 w.2.2.1, 0, 0, 0)).2.2.1 := by unfold tJ; rw [if_pos h5, if_pos ⟨h6, h7, h8⟩]
        unfold mF
        simp only [pX4_judge, eX4_judge, fX4_badHead, fX4_badSections, fX4_badSegments, fX4_badSymbols, fX4_badTables, fX4_badTexts, fX4_breaks, fX4_four, fX4_lying, fX4_two, rx_n, rx_s, rx_to, rx_get, rx_f1, rx_f2, rx_two, rx_ext, rx_any, rx_hV, rx_hS, rx_hG, rx_hP, rx_hAi, rx_hAb, rx_hBb, rx_hBi, rx_hBp, rx_hL, rx_hLi, rx_got, rx_pop, rx_sum, rx_len, rx_c, rx_m1, lv_args, Value.category, rx_cut_n, rx_cut_m0, rx_cut_m1, rx_iconst, rx_bipush, rx_sipush, rx_lconst, rx_iload_n, rx_iload, rx_lload_n, rx_lload, rx_aload_n, rx_aload, rx_istore_n, rx_istore, rx_lstore_n, rx_lstore, rx_astore_n, rx_astore, rx_iinc, rx_iadd, rx_isub, rx_imul, rx_iand, rx_ixor, rx_ishr, rx_idiv, rx_irem, rx_ladd, rx_lsub, rx_land, rx_lor, rx_lxor, rx_lmul, rx_ldiv, rx_lrem, rx_lushr, rx_lshl, rx_lshr, rx_lneg, rx_i2l, rx_l2i, rx_i2b, rx_lcmp, rx_dup_i, rx_dup_a, rx_pop_i, rx_pop_a, rx_if_eq, rx_if_ne, rx_if_lt, rx_if_ge, rx_if_gt, rx_if_le, rx_icmp_eq, rx_icmp_ne, rx_icmp_lt, rx_icmp_ge, rx_icmp_gt, rx_icmp_le, rx_goto, rx_tsw, rx_ireturn, rx_lreturn, rx_return_, rx_getfield, rx_putfield, rx_invokevirtual, rx_invokespecial, rx_invokestatic, rx_ldc, rx_ldc2_w, rx_iaload, rx_iastore, rx_baload, rx_bastore, Nat.reduceBEq, Nat.reduceAdd, Nat.reduceSub, Nat.reduceMul, Nat.reduceLeDiff, Nat.reduceEqDiff, Nat.reduceLT, Int.reduceLT, Int.reduceLE, Int.reduceNeg, Int.reduceToNat, Int.reduceAdd, Fin.isValue, Fin.val_zero, Fin.val_one, Fin.reduceFinMk, Fin.val_ofNat, Bool.or_true, Bool.true_or, Bool.or_false, Bool.false_or, Bool.and_true, Bool.true_and, Bool.and_false, Bool.false_and, cond_true, cond_false, ↓reduceIte, eq_self, ne_eq, not_true_eq_false, not_false_eq_true, true_and, and_true, Option.toList_some, Option.toList_none, List.cons_append, List.nil_append, Option.some.injEq, Value.int.injEq, Value.long.injEq, rx_l0, rx_l1, rx_fv0, rx_fv1, rx_fv2, rx_fv3, nI_c1, nI_c2, nI_c4, nI_c8, nI_c9, nI_c24, nI_c64, Nat.le_refl, bI_z, bI_0, bI_1, Classical.not_not, lg_cmp_ge, lg_cmp_le, lg_cmp_gt, lg_cmp_lt, lg_cmp_eq]
        refine ⟨⟨t6', tk6_P h6⟩, fun a => ?_, fun a => ?_⟩
        · rw [e0]
          by_cases h9 : oI (q9 w.1) (sC w.1) = -1
          · have h10 := a.resolve_left (fun y => y h9)
            rw [vD_10 h5 h6 h7 h8 h9 h10]
            refine ⟨1, _, by omega, ⟨rfl, Or.inl ⟨?_, rfl⟩⟩, ?_⟩
            · unfold mV9
              dsimp only
              rw [if_neg (fun q => q h9), if_pos h10, if_neg (fun q => q h9), if_pos h10]
              rfl
            · simp only [List.mem_cons, List.not_mem_nil, or_false, forall_eq_or_imp, forall_eq, Nat.reduceBEq, cond_true, cond_false, Option.some.injEq, Value.int.injEq, Value.long.injEq, Value.ref.injEq, true_and, and_true]
          · rw [vD_9 h5 h6 h7 h8 h9]
            refine ⟨1, _, by omega, ⟨rfl, Or.inl ⟨?_, rfl⟩⟩, ?_⟩
            · unfold mV9
              dsimp only
              rw [if_pos h9, if_pos h9]
              rfl
            · simp only [List.mem_cons, List.not_mem_nil, or_false, forall_eq_or_imp, forall_eq, Nat.reduceBEq, cond_true, cond_false, Option.some.injEq, Value.int.injEq, Value.long.injEq, Value.ref.injEq, true_and, and_true]
        · have h9 : oI (q9 w.1) (sC w.1) = -1 := Classical.byContradiction fun q => a (Or.inl q)
          have h10 : oI (q10 w.1) (sC w.1) = -1 := Classical.byContradiction fun q => a (Or.inr q)
          refine ⟨30, _, by omega, ⟨rfl, ⟨h5, h6, h7, h8, h9, h10⟩, ?_, rfl⟩, ?_⟩
          · rw [e0]
            unfold mV9
            dsimp only
            rw [if_neg (fun q => q h9), if_neg (fun q => q h10), if_neg (fun q => q h9), if_neg (fun q => q h10)]
          · simp only [List.mem_cons, List.not_mem_nil, or_false, forall_eq_or_imp, forall_eq, Nat.reduceBEq, cond_true, cond_false, Option.some.injEq, Value.int.injEq, Value.long.injEq, Value.ref.injEq, true_and, and_true]
      · obtain ⟨rfl, ⟨h5, h6, h7, h8, h9, h10⟩, rfl, rfl⟩ := hinv
        have t6' : t6 w.1 := rH_t6 (rH_0 h5 h6)
        unfold mF
        simp only [pX4_judge, eX4_judge, fX4_badHead, fX4_badSections, fX4_badSegments, fX4_badSymbols, fX4_badTables, fX4_badTexts, fX4_breaks, fX4_four, fX4_lying, fX4_two, rx_n, rx_s, rx_to, rx_get, rx_f1, rx_f2, rx_two, rx_ext, rx_any, rx_hV, rx_hS, rx_hG, rx_hP, rx_hAi, rx_hAb, rx_hBb, rx_hBi, rx_hBp, rx_hL, rx_hLi, rx_got, rx_pop, rx_sum, rx_len, rx_c, rx_m1, lv_args, Value.category, rx_cut_n, rx_cut_m0, rx_cut_m1, rx_iconst, rx_bipush, rx_sipush, rx_lconst, rx_iload_n, rx_iload, rx_lload_n, rx_lload, rx_aload_n, rx_aload, rx_istore_n, rx_istore, rx_lstore_n, rx_lstore, rx_astore_n, rx_astore, rx_iinc, rx_iadd, rx_isub, rx_imul, rx_iand, rx_ixor, rx_ishr, rx_idiv, rx_irem, rx_ladd, rx_lsub, rx_land, rx_lor, rx_lxor, rx_lmul, rx_ldiv, rx_lrem, rx_lushr, rx_lshl, rx_lshr, rx_lneg, rx_i2l, rx_l2i, rx_i2b, rx_lcmp, rx_dup_i, rx_dup_a, rx_pop_i, rx_pop_a, rx_if_eq, rx_if_ne, rx_if_lt, rx_if_ge, rx_if_gt, rx_if_le, rx_icmp_eq, rx_icmp_ne, rx_icmp_lt, rx_icmp_ge, rx_icmp_gt, rx_icmp_le, rx_goto, rx_tsw, rx_ireturn, rx_lreturn, rx_return_, rx_getfield, rx_putfield, rx_invokevirtual, rx_invokespecial, rx_invokestatic, rx_ldc, rx_ldc2_w, rx_iaload, rx_iastore, rx_baload, rx_bastore, Nat.reduceBEq, Nat.reduceAdd, Nat.reduceSub, Nat.reduceMul, Nat.reduceLeDiff, Nat.reduceEqDiff, Nat.reduceLT, Int.reduceLT, Int.reduceLE, Int.reduceNeg, Int.reduceToNat, Int.reduceAdd, Fin.isValue, Fin.val_zero, Fin.val_one, Fin.reduceFinMk, Fin.val_ofNat, Bool.or_true, Bool.true_or, Bool.or_false, Bool.false_or, Bool.and_true, Bool.true_and, Bool.and_false, Bool.false_and, cond_true, cond_false, ↓reduceIte, eq_self, ne_eq, not_true_eq_false, not_false_eq_true, true_and, and_true, Option.toList_some, Option.toList_none, List.cons_append, List.nil_append, Option.some.injEq, Value.int.injEq, Value.long.injEq, rx_l0, rx_l1, rx_fv0, rx_fv1, rx_fv2, rx_fv3, nI_c1, nI_c2, nI_c4, nI_c8, nI_c9, nI_c24, nI_c64, Nat.le_refl, bI_z, bI_0, bI_1, Classical.not_not, lg_cmp_ge, lg_cmp_le, lg_cmp_gt, lg_cmp_lt, lg_cmp_eq]
        refine ⟨⟨t6', oI_m1 hs h9⟩, fun a => ?_, fun a => ?_⟩
        · rw [mU_no a, vD_11 h5 h6 h7 h8 h9 h10 a]
          refine ⟨1, _, by omega, ⟨rfl, Or.inl ⟨rfl, rfl⟩⟩, ?_⟩
          simp only [List.mem_cons, List.not_mem_nil, or_false, forall_eq_or_imp, forall_eq, Nat.reduceBEq, cond_true, cond_false, Option.some.injEq, Value.int.injEq, Value.long.injEq, Value.ref.injEq, true_and, and_true]
        · rw [mU_ok a]
          refine ⟨20, _, by omega, ⟨rfl, ⟨h5, h6, h7, h8, h9, h10, a⟩, rfl, rfl⟩, ?_⟩
          simp only [List.mem_cons, List.not_mem_nil, or_false, forall_eq_or_imp, forall_eq, Nat.reduceBEq, cond_true, cond_false, Option.some.injEq, Value.int.injEq, Value.long.injEq, Value.ref.injEq, true_and, and_true]
      · obtain ⟨rfl, ⟨h5, h6, h7, h8, h9, h10, h11⟩, rfl, rfl⟩ := hinv
        have t6' : t6 w.1 := rH_t6 (rH_0 h5 h6)
        unfold mF
        simp only [pX4_judge, eX4_judge, fX4_badHead, fX4_badSections, fX4_badSegments, fX4_badSymbols, fX4_badTables, fX4_badTexts, fX4_breaks, fX4_four, fX4_lying, fX4_two, rx_n, rx_s, rx_to, rx_get, rx_f1, rx_f2, rx_two, rx_ext, rx_any, rx_hV, rx_hS, rx_hG, rx_hP, rx_hAi, rx_hAb, rx_hBb, rx_hBi, rx_hBp, rx_hL, rx_hLi, rx_got, rx_pop, rx_sum, rx_len, rx_c, rx_m1, lv_args, Value.category, rx_cut_n, rx_cut_m0, rx_cut_m1, rx_iconst, rx_bipush, rx_sipush, rx_lconst, rx_iload_n, rx_iload, rx_lload_n, rx_lload, rx_aload_n, rx_aload, rx_istore_n, rx_istore, rx_lstore_n, rx_lstore, rx_astore_n, rx_astore, rx_iinc, rx_iadd, rx_isub, rx_imul, rx_iand, rx_ixor, rx_ishr, rx_idiv, rx_irem, rx_ladd, rx_lsub, rx_land, rx_lor, rx_lxor, rx_lmul, rx_ldiv, rx_lrem, rx_lushr, rx_lshl, rx_lshr, rx_lneg, rx_i2l, rx_l2i, rx_i2b, rx_lcmp, rx_dup_i, rx_dup_a, rx_pop_i, rx_pop_a, rx_if_eq, rx_if_ne, rx_if_lt, rx_if_ge, rx_if_gt, rx_if_le, rx_icmp_eq, rx_icmp_ne, rx_icmp_lt, rx_icmp_ge, rx_icmp_gt, rx_icmp_le, rx_goto, rx_tsw, rx_ireturn, rx_lreturn, rx_return_, rx_getfield, rx_putfield, rx_invokevirtual, rx_invokespecial, rx_invokestatic, rx_ldc, rx_ldc2_w, rx_iaload, rx_iastore, rx_baload, rx_bastore, Nat.reduceBEq, Nat.reduceAdd, Nat.reduceSub, Nat.reduceMul, Nat.reduceLeDiff, Nat.reduceEqDiff, Nat.reduceLT, Int.reduceLT, Int.reduceLE, Int.reduceNeg, Int.reduceToNat, Int.reduceAdd, Fin.isValue, Fin.val_zero, Fin.val_one, Fin.reduceFinMk, Fin.val_ofNat, Bool.or_true, Bool.true_or, Bool.or_false, Bool.false_or, Bool.and_true, Bool.true_and, Bool.and_false, Bool.false_and, cond_true, cond_false, ↓reduceIte, eq_self, ne_eq, not_true_eq_false, not_false_eq_true, true_and, and_true, Option.toList_some, Option.toList_none, List.cons_append, List.nil_append, Option.some.injEq, Value.int.injEq, Value.long.injEq, rx_l0, rx_l1, rx_fv0, rx_fv1, rx_fv2, rx_fv3, nI_c1, nI_c2, nI_c4, nI_c8, nI_c9, nI_c24, nI_c64, Nat.le_refl, bI_z, bI_0, bI_1, Classical.not_not, lg_cmp_ge, lg_cmp_le, lg_cmp_gt, lg_cmp_lt, lg_cmp_eq]
        refine ⟨⟨t6', oI_m1 hs h9⟩, fun a => ?_, fun a => ?_⟩
        · have h12 : oI (q12 w.1) (sC w.1) = -1 := Classical.byContradiction fun q => a (Or.inl q)
          have h13 : oI (q13 w.1) (sC w.1) = -1 := Classical.byContradiction fun q => a (Or.inr q)
          refine ⟨1, _, by omega, ⟨rfl, Or.inr ⟨⟨h5, h6, h7, h8, h9, h10, h11, h12, h13⟩, ?_, rfl⟩⟩, ?_⟩
          · unfold mV12
            dsimp only
            rw [if_neg (fun q => q h12), if_neg (fun q => q h13)]
          · simp only [List.mem_cons, List.not_mem_nil, or_false, forall_eq_or_imp, forall_eq, Nat.reduceBEq, cond_true, cond_false, Option.some.injEq, Value.int.injEq, Value.long.injEq, Value.ref.injEq, true_and, and_true]
        · by_cases h12 : oI (q12 w.1) (sC w.1) = -1
          · have h13 := a.resolve_left (fun y => y h12)
            rw [vD_13 h5 h6 h7 h8 h9 h10 h11 h12 h13]
            refine ⟨1, _, by omega, ⟨rfl, Or.inl ⟨?_, rfl⟩⟩, ?_⟩
            · unfold mV12
              dsimp only
              rw [if_neg (fun q => q h12), if_pos h13]
              rfl
            · simp only [List.mem_cons, List.not_mem_nil, or_false, forall_eq_or_imp, forall_eq, Nat.reduceBEq, cond_true, cond_false, Option.some.injEq, Value.int.injEq, Value.long.injEq, Value.ref.injEq, true_and, and_true]
          · rw [vD_12 h5 h6 h7 h8 h9 h10 h11 h12]
            refine ⟨1, _, by omega, ⟨rfl, Or.inl ⟨?_, rfl⟩⟩, ?_⟩
            · unfold mV12
              dsimp only
              rw [if_pos h12]
              rfl
            · simp only [List.mem_cons, List.not_mem_nil, or_false, forall_eq_or_imp, forall_eq, Nat.reduceBEq, cond_true, cond_false, Option.some.injEq, Value.int.injEq, Value.long.injEq, Value.ref.injEq, true_and, and_true]
      · obtain ⟨rfl, ⟨rfl, rfl⟩ | ⟨hgd, rfl, rfl⟩⟩ := hinv
        · unfold mF
          simp only [pX4_judge, eX4_judge, fX4_badHead, fX4_badSections, fX4_badSegments, fX4_badSymbols, fX4_badTables, fX4_badTexts, fX4_breaks, fX4_four, fX4_lying, fX4_two, rx_n, rx_s, rx_to, rx_get, rx_f1, rx_f2, rx_two, rx_ext, rx_any, rx_hV, rx_hS, rx_hG, rx_hP, rx_hAi, rx_hAb, rx_hBb, rx_hBi, rx_hBp, rx_hL, rx_hLi, rx_got, rx_pop, rx_sum, rx_len, rx_c, rx_m1, lv_args, Value.category, rx_cut_n, rx_cut_m0, rx_cut_m1, rx_iconst, rx_bipush, rx_sipush, rx_lconst, rx_iload_n, rx_iload, rx_lload_n, rx_lload, rx_aload_n, rx_aload, rx_istore_n, rx_istore, rx_lstore_n, rx_lstore, rx_astore_n, rx_astore, rx_iinc, rx_iadd, rx_isub, rx_imul, rx_iand, rx_ixor, rx_ishr, rx_idiv, rx_irem, rx_ladd, rx_lsub, rx_land, rx_lor, rx_lxor, rx_lmul, rx_ldiv, rx_lrem, rx_lushr, rx_lshl, rx_lshr, rx_lneg, rx_i2l, rx_l2i, rx_i2b, rx_lcmp, rx_dup_i, rx_dup_a, rx_pop_i, rx_pop_a, rx_if_eq, rx_if_ne, rx_if_lt, rx_if_ge, rx_if_gt, rx_if_le, rx_icmp_eq, rx_icmp_ne, rx_icmp_lt, rx_icmp_ge, rx_icmp_gt, rx_icmp_le, rx_goto, rx_tsw, rx_ireturn, rx_lreturn, rx_return_, rx_getfield, rx_putfield, rx_invokevirtual, rx_invokespecial, rx_invokestatic, rx_ldc, rx_ldc2_w, rx_iaload, rx_iastore, rx_baload, rx_bastore, Nat.reduceBEq, Nat.reduceAdd, Nat.reduceSub, Nat.reduceMul, Nat.reduceLeDiff, Nat.reduceEqDiff, Nat.reduceLT, Int.reduceLT, Int.reduceLE, Int.reduceNeg, Int.reduceToNat, Int.reduceAdd, Fin.isValue, Fin.val_zero, Fin.val_one, Fin.reduceFinMk, Fin.val_ofNat, Bool.or_true, Bool.true_or, Bool.or_false, Bool.false_or, Bool.and_true, Bool.true_and, Bool.and_false, Bool.false_and, cond_true, cond_false, ↓reduceIte, eq_self, ne_eq, not_true_eq_false, not_false_eq_true, true_and, and_true, Option.toList_some, Option.toList_none, List.cons_append, List.nil_append, Option.some.injEq, Value.int.injEq, Value.long.injEq, rx_l0, rx_l1, rx_fv0, rx_fv1, rx_fv2, rx_fv3, nI_c1, nI_c2, nI_c4, nI_c8, nI_c9, nI_c24, nI_c64, Nat.le_refl, bI_z, bI_0, bI_1, Classical.not_not, lg_cmp_ge, lg_cmp_le, lg_cmp_gt, lg_cmp_lt, lg_cmp_eq]
          exact ⟨fun _ => ⟨fun _ => trivial, fun q => absurd q (by decide)⟩, fun q => absurd q (by decide)⟩
        · have t6' : t6 w.1 := rH_t6 (rH_0 hgd.1 hgd.2.1)
          have v0 : q14 w.1 → vD w.1 = (nI 0, -1) := fun q => by rw [vD_g hgd, if_pos q]
          have v14 : ¬ q14 w.1 → vD w.1 = (nI 14, -1) := fun q => by rw [vD_g hgd, if_neg q]
          have g1 := bl_q2 w.1 16
          have g2 := bl_q4 w.1 24
          have g3 := bl_q4 w.1 28
          have g4 : bl w.1 24 8 = bl w.1 24 4 + 4294967296 * bl w.1 28 4 := bl_8 w.1 24
          have g5 : bl w.1 28 4 * 4294967296 + bl w.1 24 4 = bl w.1 24 8 := by omega
          unfold mF
          simp only [pX4_judge, eX4_judge, fX4_badHead, fX4_badSections, fX4_badSegments, fX4_badSymbols, fX4_badTables, fX4_badTexts, fX4_breaks, fX4_four, fX4_lying, fX4_two, rx_n, rx_s, rx_to, rx_get, rx_f1, rx_f2, rx_two, rx_ext, rx_any, rx_hV, rx_hS, rx_hG, rx_hP, rx_hAi, rx_hAb, rx_hBb, rx_hBi, rx_hBp, rx_hL, rx_hLi, rx_got, rx_pop, rx_sum, rx_len, rx_c, rx_m1, lv_args, Value.category, rx_cut_n, rx_cut_m0, rx_cut_m1, rx_iconst, rx_bipush, rx_sipush, rx_lconst, rx_iload_n, rx_iload, rx_lload_n, rx_lload, rx_aload_n, rx_aload, rx_istore_n, rx_istore, rx_lstore_n, rx_lstore, rx_astore_n, rx_astore, rx_iinc, rx_iadd, rx_isub, rx_imul, rx_iand, rx_ixor, rx_ishr, rx_idiv, rx_irem, rx_ladd, rx_lsub, rx_land, rx_lor, rx_lxor, rx_lmul, rx_ldiv, rx_lrem, rx_lushr, rx_lshl, rx_lshr, rx_lneg, rx_i2l, rx_l2i, rx_i2b, rx_lcmp, rx_dup_i, rx_dup_a, rx_pop_i, rx_pop_a, rx_if_eq, rx_if_ne, rx_if_lt, rx_if_ge, rx_if_gt, rx_if_le, rx_icmp_eq, rx_icmp_ne, rx_icmp_lt, rx_icmp_ge, rx_icmp_gt, rx_icmp_le, rx_goto, rx_tsw, rx_ireturn, rx_lreturn, rx_return_, rx_getfield, rx_putfield, rx_invokevirtual, rx_invokespecial, rx_invokestatic, rx_ldc, rx_ldc2_w, rx_iaload, rx_iastore, rx_baload, rx_bastore, Nat.reduceBEq, Nat.reduceAdd, Nat.reduceSub, Nat.reduceMul, Nat.reduceLeDiff, Nat.reduceEqDiff, Nat.reduceLT, Int.reduceLT, Int.reduceLE, Int.reduceNeg, Int.reduceToNat, Int.reduceAdd, Fin.isValue, Fin.val_zero, Fin.val_one, Fin.reduceFinMk, Fin.val_ofNat, Bool.or_true, Bool.true_or, Bool.or_false, Bool.false_or, Bool.and_true, Bool.true_and, Bool.and_false, Bool.false_and, cond_true, cond_false, ↓reduceIte, eq_self, ne_eq, not_true_eq_false, not_false_eq_true, true_and, and_true, Option.toList_some, Option.toList_none, List.cons_append, List.nil_append, Option.some.injEq, Value.int.injEq, Value.long.injEq, rx_l0, rx_l1, rx_fv0, rx_fv1, rx_fv2, rx_fv3, nI_c1, nI_c2, nI_c4, nI_c8, nI_c9, nI_c24, nI_c64, Nat.le_refl, bI_z, bI_0, bI_1, Classical.not_not, lg_cmp_ge, lg_cmp_le, lg_cmp_gt, lg_cmp_lt, lg_cmp_eq]
          simp (disch := omega) only [nI_clamp, uN_lN, nI_eq, rx_i1, rx_i0, oI_ge, g5, false_or]
          refine ⟨fun q => absurd trivial q, fun _ => ⟨vp_in_nI (by omega) (by decide), fun a => ⟨fun q => absurd trivial q, fun _ => ?_⟩, fun a => ⟨vp_in_nI (by omega) (by decide), vp_in_nI (by omega) (by decide), ⟨t6', g3, g2⟩, fun c => ⟨fun q => absurd trivial q, fun _ => ?_⟩, fun c => ⟨fun _ => ?_, ?_⟩⟩⟩⟩
          · rw [v0 (fun z => absurd z a)]
            exact ⟨rfl, rfl⟩
          · rw [v0 (fun _ => (oI_ex hc).mp c)]
            exact ⟨rfl, rfl⟩
          · have c := Classical.not_not.mp c
            rw [v14 (fun z => by obtain ⟨k, hk, p⟩ := z a; exact oI_m1 hc c k hk p)]
            exact ⟨rfl, rfl⟩
          · intro q
            first | exact absurd trivial q | exact q.elim
    · simp only [pX4_judge, eX4_judge, fX4_badHead, fX4_badSections, fX4_badSegments, fX4_badSymbols, fX4_badTables, fX4_badTexts, fX4_breaks, fX4_four, fX4_lying, fX4_two, rx_n, rx_s, rx_to, rx_get, rx_f1, rx_f2, rx_two, rx_ext, rx_any, rx_hV, rx_hS, rx_hG, rx_hP, rx_hAi, rx_hAb, rx_hBb, rx_hBi, rx_hBp, rx_hL, rx_hLi, rx_got, rx_pop, rx_sum, rx_len, rx_c, rx_m1, lv_args, Value.category, rx_cut_n, rx_cut_m0, rx_cut_m1, rx_iconst, rx_bipush, rx_sipush, rx_lconst, rx_iload_n, rx_iload, rx_lload_n, rx_lload, rx_aload_n, rx_aload, rx_istore_n, rx_istore, rx_lstore_n, rx_lstore, rx_astore_n, rx_astore, rx_iinc, rx_iadd, rx_isub, rx_imul, rx_iand, rx_ixor, rx_ishr, rx_idiv, rx_irem, rx_ladd, rx_lsub, rx_land, rx_lor, rx_lxor, rx_lmul, rx_ldiv, rx_lrem, rx_lushr, rx_lshl, rx_lshr, rx_lneg, rx_i2l, rx_l2i, rx_i2b, rx_lcmp, rx_dup_i, rx_dup_a, rx_pop_i, rx_pop_a, rx_if_eq, rx_if_ne, rx_if_lt, rx_if_ge, rx_if_gt, rx_if_le, rx_icmp_eq, rx_icmp_ne, rx_icmp_lt, rx_icmp_ge, rx_icmp_gt, rx_icmp_le, rx_goto, rx_tsw, rx_ireturn, rx_lreturn, rx_return_, rx_getfield, rx_putfield, rx_invokevirtual, rx_invokespecial, rx_invokestatic, rx_ldc, rx_ldc2_w, rx_iaload, rx_iastore, rx_baload, rx_bastore, Nat.reduceBEq, Nat.reduceAdd, Nat.reduceSub, Nat.reduceMul, Nat.reduceLeDiff, Nat.reduceEqDiff, Nat.reduceLT, Int.reduceLT, Int.reduceLE, Int.reduceNeg, Int.reduceToNat, Int.reduceAdd, Fin.isValue, Fin.val_zero, Fin.val_one, Fin.reduceFinMk, Fin.val_ofNat, Bool.or_true, Bool.true_or, Bool.or_false, Bool.false_or, Bool.and_true, Bool.true_and, Bool.and_false, Bool.false_and, cond_true, cond_false, ↓reduceIte, eq_self, ne_eq, not_true_eq_false, not_false_eq_true, true_and, and_true, Option.toList_some, Option.toList_none, List.cons_append, List.nil_append, Option.some.injEq, Value.int.injEq, Value.long.injEq, rx_l0, rx_l1, rx_fv0, rx_fv1, rx_fv2, rx_fv3, nI_c1, nI_c2, nI_c4, nI_c8, nI_c9, nI_c24, nI_c64, Nat.le_refl, bI_z, bI_0, bI_1, Classical.not_not, lg_cmp_ge, lg_cmp_le, lg_cmp_gt, lg_cmp_lt, lg_cmp_eq]
      refine ⟨⟨rfl, rfl⟩, fun a => ?_, fun a => ?_⟩
      · have e : tJ w.1 w.2.2.1 = w.2.2.1 := by unfold tJ; rw [if_neg a]
        rw [mU_no a, vD_5 a, e]
        refine ⟨1, _, by omega, ⟨rfl, Or.inl ⟨rfl, rfl⟩⟩, ?_⟩
        simp only [List.mem_cons, List.not_mem_nil, or_false, forall_eq_or_imp, forall_eq, Nat.reduceBEq, cond_true, cond_false, Option.some.injEq, Value.int.injEq, Value.long.injEq, Value.ref.injEq, true_and, and_true]
      · rw [mU_ok a]
        refine ⟨60, _, by omega, ⟨rfl, a, rfl, rfl⟩, ?_⟩
        simp only [List.mem_cons, List.not_mem_nil, or_false, forall_eq_or_imp, forall_eq, Nat.reduceBEq, cond_true, cond_false, Option.some.injEq, Value.int.injEq, Value.long.injEq, Value.ref.injEq, true_and, and_true]
  · cases hf
