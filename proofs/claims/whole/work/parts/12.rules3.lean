def pX2_overlapsSectionBelow : rx_P := [(0, .iconst 0, 0), (1, .istore 6, 0), (3, .iload 6, 0), (5, .iload_n 1, 0), (6, .if_icmp .ge 49, 55), (9, .aload_n 0, 0), (10, .getfield 15, 0), (13, .iload 6, 0), (15, .invokevirtual 150, 0), (18, .istore 7, 0), (20, .aload_n 0, 0), (21, .getfield 15, 0), (24, .iload 7, 0), (26, .invokevirtual 162, 0), (29, .aload_n 0, 0), (30, .getfield 15, 0), (33, .iload 7, 0), (35, .invokevirtual 165, 0), (38, .lload_n 2, 0), (39, .lload 4, 0), (41, .invokestatic 114, 0), (44, .ifCond .eq 5, 49), (47, .iconst 1, 0), (48, .ireturn, 0), (49, .iinc 6 1, 0), (52, .goto (-49), 3), (55, .iconst 0, 0), (56, .ireturn, 0)]
theorem pX2_overlapsSectionBelow_ok : ∀ q ∈ pX2_overlapsSectionBelow, rx_ok cX2_overlapsSectionBelow q := rx_ok_all (by decide +kernel)
abbrev rX2_overlapsSectionBelow : Room := { frames := 2, cells := 0, slots := 0, locals := 48 }
noncomputable def fX2_overlapsSectionBelow : rx_F cS := fun w as => match as with
  | [.int k, .long x, .long y] => some (t9 w.1 ∧ nI k.toNatClampNeg = k ∧ k.toNatClampNeg ≤ sC w.1 ∧ uN x + uN y ≤ 640, w, some (.int (bI (∃ j, j < k.toNatClampNeg ∧ ovl (rP w.1 j) (rL w.1 j) (uN x) (uN y)))))
  | _ => none
noncomputable def eX2_overlapsSectionBelow (ad : Nat → Nat) : rx_E cS := rx_any [rx_hG 15 (ad 3) (fun w => .ref (ad 2)), rx_hV 150 1 (ad 2) fX0_sectionStart, rx_hV 162 1 (ad 2) fX0_roomPlace, rx_hV 165 1 (ad 2) fX0_roomLength, rx_hS 114 4 fX2_overlap]
set_option maxHeartbeats 4000000 in
set_option maxRecDepth 100000 in
theorem eo_X2_overlapsSectionBelow (l : Launch) (D : va_G) (ad : Nat → Nat) (cB : ClassId) : ∀ (p : Program) (e : Env) (s : State) (m : MethodId) (args : Array Value) (below : List Frame) (meth : Method) (c : Code) (Qw : State → Prop), CallFix p m c cX2_overlapsSectionBelow 8 s args (Cond.code yX2_overlapsSectionBelow cX2_overlapsSectionBelow 8 (some .boolean) :: wsA) RX2 → cK D cB s → rx_Eok (fun H locs g => W p l e rX2_overlapsSectionBelow s m args below meth c H locs 0 0 Qw g) m cX2_overlapsSectionBelow 8 (tr_I D vwCl (cA ad) s (cW ad cB)) (eX2_overlapsSectionBelow ad) := by
  intro p e s m args below meth c Qw S hK
  have ht : ∀ w ∈ wsA, w.before args s = true := fun w h => S.2.2.2.2 w (wsA_in h)
  exact rx_any_c (rx_hG_ok (fun w H locs pc ls rest hI hd k => va_get (D := D) (ci := 2) (C := RX2) (T := TX2) (N := 3) S.1 S.2.1 ht inX2 S.2.2.2.1 hK.1 hI.1 3 rfl rfl 1 (by decide) (ht _ wfX2_15) (fun _ h9 => h9) rfl hd k)) (rx_any_c (rx_hV_ok S ⟨Nat.zero_le _, Nat.zero_le _⟩ cK_tr hK (cwV 1 S.2.2.2.2 (wsA_V wkX2_150 wiX0_sectionStart weX0_sectionStart winiX0 wX0_sectionStart) rfl rfl rfl (by decide +kernel) ⟨by decide, by decide⟩) (ct_X0_sectionStart l D ad cB) (fun w H hP => va_recv hK.1 hP (rfl : vwCl[0]? = some (RX0, TX0, 1)) (rfl : (cW ad cB w)[2]? = some _))) (rx_any_c (rx_hV_ok S ⟨Nat.zero_le _, Nat.zero_le _⟩ cK_tr hK (cwV 1 S.2.2.2.2 (wsA_V wkX2_162 wiX0_roomPlace weX0_roomPlace winiX0 wX0_roomPlace) rfl rfl rfl (by decide +kernel) ⟨by decide, by decide⟩) (ct_X0_roomPlace l D ad cB) (fun w H hP => va_recv hK.1 hP (rfl : vwCl[0]? = some (RX0, TX0, 1)) (rfl : (cW ad cB w)[2]? = some _))) (rx_any_c (rx_hV_ok S ⟨Nat.zero_le _, Nat.zero_le _⟩ cK_tr hK (cwV 1 S.2.2.2.2 (wsA_V wkX2_165 wiX0_roomLength weX0_roomLength winiX0 wX0_roomLength) rfl rfl rfl (by decide +kernel) ⟨by decide, by decide⟩) (ct_X0_roomLength l D ad cB) (fun w H hP => va_recv hK.1 hP (rfl : vwCl[0]? = some (RX0, TX0, 1)) (rfl : (cW ad cB w)[2]? = some _))) (rx_any_c (rx_hS_ok S ⟨Nat.zero_le _, Nat.zero_le _⟩ cK_tr hK (va_cwS 4 S.2.2.2.2 (wsA_S wkX2_114 wsX2_overlap winiX2 wX2_overlap) rfl rfl rfl (by decide +kernel) ⟨by decide, by decide⟩) (ct_X2_overlap l D ad cB)) (rx_any_0)))))
set_option maxHeartbeats 4000000 in
set_option maxRecDepth 100000 in
theorem ct_X2_overlapsSectionBelow (l : Launch) (D : va_G) (ad : Nat → Nat) (cB : ClassId) : ctC l yX2_overlapsSectionBelow cX2_overlapsSectionBelow 8 (some .boolean) rX2_overlapsSectionBelow D ad cB [.ref (ad 3)] fX2_overlapsSectionBelow := by
  intro w as g w1 r hf hg
  unfold fX2_overlapsSectionBelow at hf
  split at hf
  · next k x y =>
    cases hf
    obtain ⟨h9, hkk, hk8, hxy⟩ := hg
    generalize k.toNatClampNeg = K at hkk hk8 ⊢
    subst hkk
    refine tr_of (rx_1c 3 (fun u w0 lv => w0 = w ∧ ∃ j, j ≤ K ∧ u = K - j ∧ (∀ i, i < j → ¬ ovl (rP w.1 i) (rL w.1 i) (uN x) (uN y)) ∧ lv = [(0, .ref (ad 3)), (1, .int (nI K)), (2, .long x), (4, .long y), (6, .int (nI j))])) 200 200 10000 (by decide) rfl rfl (Nat.le_of_ble_eq_true rfl) pX2_overlapsSectionBelow_ok (rt_z _) (eo_X2_overlapsSectionBelow l D ad cB) ?_ ?_
    · intro pc g0 hpc u w0 lv hinv
      have hh := rx_1c_of hpc
      clear hpc
      obtain ⟨rfl, rfl⟩ := hh
      obtain ⟨rfl, j, hj, rfl, hz, rfl⟩ := hinv
      have hc := sC_lt w0.1
      simp only [pX2_overlapsSectionBelow, eX2_overlapsSectionBelow, fX0_roomLength, fX0_roomPlace, fX0_sectionStart, fX2_overlap, rx_n, rx_s, rx_to, rx_get, rx_f1, rx_f2, rx_two, rx_ext, rx_any, rx_hV, rx_hS, rx_hG, rx_hP, rx_hAi, rx_hAb, rx_hL, rx_hLi, rx_got, rx_pop, rx_sum, rx_len, rx_c, rx_m1, lv_args, Value.category, rx_cut_n, rx_cut_1, rx_iconst, rx_bipush, rx_sipush, rx_lconst, rx_iload_n, rx_iload, rx_lload_n, rx_lload, rx_aload_n, rx_aload, rx_istore_n, rx_istore, rx_lstore_n, rx_lstore, rx_astore_n, rx_astore, rx_iinc, rx_iadd, rx_isub, rx_imul, rx_iand, rx_ixor, rx_ishr, rx_idiv, rx_irem, rx_ladd, rx_lsub, rx_land, rx_lor, rx_lxor, rx_lmul, rx_ldiv, rx_lrem, rx_lushr, rx_lshl, rx_lshr, rx_lneg, rx_i2l, rx_l2i, rx_i2b, rx_lcmp, rx_dup_i, rx_dup_a, rx_pop_i, rx_pop_a, rx_if_eq, rx_if_ne, rx_if_lt, rx_if_ge, rx_if_gt, rx_if_le, rx_icmp_eq, rx_icmp_ne, rx_icmp_lt, rx_icmp_ge, rx_icmp_gt, rx_icmp_le, rx_goto, rx_tsw, rx_ireturn, rx_lreturn, rx_return_, rx_getfield, rx_putfield, rx_invokevirtual, rx_invokespecial, rx_invokestatic, rx_ldc, rx_ldc2_w, rx_iaload, rx_iastore, rx_baload, rx_bastore, Nat.reduceBEq, Nat.reduceAdd, Nat.reduceSub, Nat.reduceMul, Nat.reduceLeDiff, Nat.reduceEqDiff, Nat.reduceLT, Int.reduceLT, Int.reduceLE, Int.reduceNeg, Int.reduceToNat, Int.reduceAdd, Fin.isValue, Fin.val_zero, Fin.val_one, Fin.reduceFinMk, Fin.val_ofNat, Bool.or_true, Bool.true_or, Bool.or_false, Bool.false_or, Bool.and_true, Bool.true_and, Bool.and_false, Bool.false_and, cond_true, cond_false, ↓reduceIte, eq_self, ne_eq, not_true_eq_false, not_false_eq_true, true_and, and_true, Option.toList_some, Option.toList_none, List.cons_append, List.nil_append, Option.some.injEq, Value.int.injEq, Value.long.injEq, rx_l0, rx_l1, rx_fv0, rx_fv1, rx_fv2, rx_fv3, nI_c1, nI_c2, nI_c4, nI_c8, nI_c9, nI_c24, nI_c64, Nat.le_refl, bI_z, bI_0, bI_1, Classical.not_not, lg_cmp_ge, lg_cmp_le, lg_cmp_gt, lg_cmp_lt, lg_cmp_eq]
      rw [nI_leI (by omega) (by omega)]
      refine ⟨fun h => ?_, fun h => ?_⟩
      · rintro ⟨i, hi, hq⟩
        exact hz i (by omega) hq
      · have hj2 : j < sC w0.1 := by omega
        have hA := t6_sA h9.1 hj2
        have hR := t9_room h9 hj2
        have hB := bn_le w0.1
        obtain ⟨X, hX, ex⟩ := uN_ex x
        obtain ⟨Y, hY, ey⟩ := uN_ex y
        rw [← hX, ← hY] at hxy hz ⊢
        simp (disch := omega) only [t6_sS h9.1, nm_at, rl_at h9.1 hj2]
        rw [ex, ey]
        rw [show bl w0.1 (sA w0.1 j + 24) 8 = rP w0.1 j from rfl, ov_m (by omega) (by omega) (by omega) (by omega)]
        refine ⟨fun h2 => ?_, fun h2 => ⟨j, by omega, h2⟩⟩
        refine ⟨K - (j + 1), _, by omega, ⟨j + 1, by omega, rfl, lt_s hz h2, rfl⟩, ?_⟩
        simp only [List.mem_cons, List.not_mem_nil, or_false, forall_eq_or_imp, forall_eq, Nat.reduceBEq, cond_true, cond_false, Option.some.injEq, Value.int.injEq, Value.long.injEq, Value.ref.injEq, true_and, and_true]
        exact nI_add j 1
    · simp only [pX2_overlapsSectionBelow, eX2_overlapsSectionBelow, fX0_roomLength, fX0_roomPlace, fX0_sectionStart, fX2_overlap, rx_n, rx_s, rx_to, rx_get, rx_f1, rx_f2, rx_two, rx_ext, rx_any, rx_hV, rx_hS, rx_hG, rx_hP, rx_hAi, rx_hAb, rx_hL, rx_hLi, rx_got, rx_pop, rx_sum, rx_len, rx_c, rx_m1, lv_args, Value.category, rx_cut_n, rx_cut_1, rx_iconst, rx_bipush, rx_sipush, rx_lconst, rx_iload_n, rx_iload, rx_lload_n, rx_lload, rx_aload_n, rx_aload, rx_istore_n, rx_istore, rx_lstore_n, rx_lstore, rx_astore_n, rx_astore, rx_iinc, rx_iadd, rx_isub, rx_imul, rx_iand, rx_ixor, rx_ishr, rx_idiv, rx_irem, rx_ladd, rx_lsub, rx_land, rx_lor, rx_lxor, rx_lmul, rx_ldiv, rx_lrem, rx_lushr, rx_lshl, rx_lshr, rx_lneg, rx_i2l, rx_l2i, rx_i2b, rx_lcmp, rx_dup_i, rx_dup_a, rx_pop_i, rx_pop_a, rx_if_eq, rx_if_ne, rx_if_lt, rx_if_ge, rx_if_gt, rx_if_le, rx_icmp_eq, rx_icmp_ne, rx_icmp_lt, rx_icmp_ge, rx_icmp_gt, rx_icmp_le, rx_goto, rx_tsw, rx_ireturn, rx_lreturn, rx_return_, rx_getfield, rx_putfield, rx_invokevirtual, rx_invokespecial, rx_invokestatic, rx_ldc, rx_ldc2_w, rx_iaload, rx_iastore, rx_baload, rx_bastore, Nat.reduceBEq, Nat.reduceAdd, Nat.reduceSub, Nat.reduceMul, Nat.reduceLeDiff, Nat.reduceEqDiff, Nat.reduceLT, Int.reduceLT, Int.reduceLE, Int.reduceNeg, Int.reduceToNat, Int.reduceAdd, Fin.isValue, Fin.val_zero, Fin.val_one, Fin.reduceFinMk, Fin.val_ofNat, Bool.or_true, Bool.true_or, Bool.or_false, Bool.false_or, Bool.and_true, Bool.true_and, Bool.and_false, Bool.false_and, cond_true, cond_false, ↓reduceIte, eq_self, ne_eq, not_true_eq_false, not_false_eq_true, true_and, and_true, Option.toList_some, Option.toList_none, List.cons_append, List.nil_append, Option.some.injEq, Value.int.injEq, Value.long.injEq, rx_l0, rx_l1, rx_fv0, rx_fv1, rx_fv2, rx_fv3, nI_c1, nI_c2, nI_c4, nI_c8, nI_c9, nI_c24, nI_c64, Nat.le_refl, bI_z, bI_0, bI_1, Classical.not_not, lg_cmp_ge, lg_cmp_le, lg_cmp_gt, lg_cmp_lt, lg_cmp_eq]
      have h1 := t6_s10 h9.1
      refine ⟨K, _, by omega, ⟨0, by omega, rfl, lt_0, rfl⟩, ?_⟩
      simp only [List.mem_cons, List.not_mem_nil, or_false, forall_eq_or_imp, forall_eq, Nat.reduceBEq, cond_true, cond_false, Option.some.injEq, Value.int.injEq, Value.long.injEq, Value.ref.injEq, true_and, and_true]
  · cases hf
def pX2_overlappingSection : rx_P := [(0, .aload_n 0, 0), (1, .getfield 15, 0), (4, .invokevirtual 107, 0), (7, .istore_n 1, 0), (8, .iconst 0, 0), (9, .istore_n 2, 0), (10, .iload_n 2, 0), (11, .iload_n 1, 0), (12, .if_icmp .ge 63, 75), (15, .aload_n 0, 0), (16, .getfield 15, 0), (19, .iload_n 2, 0), (20, .invokevirtual 150, 0), (23, .istore_n 3, 0), (24, .aload_n 0, 0), (25, .getfield 15, 0), (28, .iload_n 3, 0), (29, .invokevirtual 162, 0), (32, .lstore 4, 0), (34, .aload_n 0, 0), (35, .getfield 15, 0), (38, .iload_n 3, 0), (39, .invokevirtual 165, 0), (42, .lstore 6, 0), (44, .aload_n 0, 0), (45, .lload 4, 0), (47, .lload 6, 0), (49, .invokevirtual 168, 0), (52, .ifCond .ne 15, 67), (55, .aload_n 0, 0), (56, .iload_n 2, 0), (57, .lload 4, 0), (59, .lload 6, 0), (61, .invokevirtual 171, 0), (64, .ifCond .eq 5, 69), (67, .iload_n 2, 0), (68, .ireturn, 0), (69, .iinc 2 1, 0), (72, .goto (-62), 10), (75, .iconst (-1), 0), (76, .ireturn, 0)]
theorem pX2_overlappingSection_ok : ∀ q ∈ pX2_overlappingSection, rx_ok cX2_overlappingSection q := rx_ok_all (by decide +kernel)
abbrev rX2_overlappingSection : Room := { frames := 3, cells := 0, slots := 0, locals := 75 }
noncomputable def fX2_overlappingSection : rx_F cS := fun w as => match as with
  | [] => some (t9 w.1, w, some (.int (oI (q10 w.1) (sC w.1))))
  | _ => none
noncomputable def eX2_overlappingSection (ad : Nat → Nat) : rx_E cS := rx_any [rx_hG 15 (ad 3) (fun w => .ref (ad 2)), rx_hV 107 0 (ad 2) fX0_sectionCount, rx_hV 150 1 (ad 2) fX0_sectionStart, rx_hV 162 1 (ad 2) fX0_roomPlace, rx_hV 165 1 (ad 2) fX0_roomLength, rx_hV 168 2 (ad 3) fX2_overlapsHeadOrTable, rx_hV 171 3 (ad 3) fX2_overlapsSectionBelow]
set_option maxHeartbeats 4000000 in
set_option maxRecDepth 100000 in
theorem eo_X2_overlappingSection (l : Launch) (D : va_G) (ad : Nat → Nat) (cB : ClassId) : ∀ (p : Program) (e : Env) (s : State) (m : MethodId) (args : Array Value) (below : List Frame) (meth : Method) (c : Code) (Qw : State → Prop), CallFix p m c cX2_overlappingSection 8 s args (Cond.code yX2_overlappingSection cX2_overlappingSection 8 (some .int) :: wsA) RX2 → cK D cB s → rx_Eok (fun H locs g => W p l e rX2_overlappingSection s m args below meth c H locs 0 0 Qw g) m cX2_overlappingSection 8 (tr_I D vwCl (cA ad) s (cW ad cB)) (eX2_overlappingSection ad) := by
  intro p e s m args below meth c Qw S hK
  have ht : ∀ w ∈ wsA, w.before args s = true := fun w h => S.2.2.2.2 w (wsA_in h)
  exact rx_any_c (rx_hG_ok (fun w H locs pc ls rest hI hd k => va_get (D := D) (ci := 2) (C := RX2) (T := TX2) (N := 3) S.1 S.2.1 ht inX2 S.2.2.2.1 hK.1 hI.1 3 rfl rfl 1 (by decide) (ht _ wfX2_15) (fun _ h9 => h9) rfl hd k)) (rx_any_c (rx_hV_ok S ⟨Nat.zero_le _, Nat.zero_le _⟩ cK_tr hK (cwV 0 S.2.2.2.2 (wsA_V wkX2_107 wiX0_sectionCount weX0_sectionCount winiX0 wX0_sectionCount) rfl rfl rfl (by decide +kernel) ⟨by decide, by decide⟩) (ct_X0_sectionCount l D ad cB) (fun w H hP => va_recv hK.1 hP (rfl : vwCl[0]? = some (RX0, TX0, 1)) (rfl : (cW ad cB w)[2]? = some _))) (rx_any_c (rx_hV_ok S ⟨Nat.zero_le _, Nat.zero_le _⟩ cK_tr hK (cwV 1 S.2.2.2.2 (wsA_V wkX2_150 wiX0_sectionStart weX0_sectionStart winiX0 wX0_sectionStart) rfl rfl rfl (by decide +kernel) ⟨by decide, by decide⟩) (ct_X0_sectionStart l D ad cB) (fun w H hP => va_recv hK.1 hP (rfl : vwCl[0]? = some (RX0, TX0, 1)) (rfl : (cW ad cB w)[2]? = some _))) (rx_any_c (rx_hV_ok S ⟨Nat.zero_le _, Nat.zero_le _⟩ cK_tr hK (cwV 1 S.2.2.2.2 (wsA_V wkX2_162 wiX0_roomPlace weX0_roomPlace winiX0 wX0_roomPlace) rfl rfl rfl (by decide +kernel) ⟨by decide, by decide⟩) (ct_X0_roomPlace l D ad cB) (fun w H hP => va_recv hK.1 hP (rfl : vwCl[0]? = some (RX0, TX0, 1)) (rfl : (cW ad cB w)[2]? = some _))) (rx_any_c (rx_hV_ok S ⟨Nat.zero_le _, Nat.zero_le _⟩ cK_tr hK (cwV 1 S.2.2.2.2 (wsA_V wkX2_165 wiX0_roomLength weX0_roomLength winiX0 wX0_roomLength) rfl rfl rfl (by decide +kernel) ⟨by decide, by decide⟩) (ct_X0_roomLength l D ad cB) (fun w H hP => va_recv hK.1 hP (rfl : vwCl[0]? = some (RX0, TX0, 1)) (rfl : (cW ad cB w)[2]? = some _))) (rx_any_c (rx_hV_ok S ⟨Nat.zero_le _, Nat.zero_le _⟩ cK_tr hK (cwV 2 S.2.2.2.2 (wsA_V wkX2_168 wiX2_overlapsHeadOrTable weX2_overlapsHeadOrTable winiX2 wX2_overlapsHeadOrTable) rfl rfl rfl (by decide +kernel) ⟨by decide, by decide⟩) (ct_X2_overlapsHeadOrTable l D ad cB) (fun w H hP => va_recv hK.1 hP (rfl : vwCl[2]? = some (RX2, TX2, 3)) (rfl : (cW ad cB w)[3]? = some _))) (rx_any_c (rx_hV_ok S ⟨Nat.zero_le _, Nat.zero_le _⟩ cK_tr hK (cwV 3 S.2.2.2.2 (wsA_V wkX2_171 wiX2_overlapsSectionBelow weX2_overlapsSectionBelow winiX2 wX2_overlapsSectionBelow) rfl rfl rfl (by decide +kernel) ⟨by decide, by decide⟩) (ct_X2_overlapsSectionBelow l D ad cB) (fun w H hP => va_recv hK.1 hP (rfl : vwCl[2]? = some (RX2, TX2, 3)) (rfl : (cW ad cB w)[3]? = some _))) (rx_any_0)))))))
set_option maxHeartbeats 4000000 in
set_option maxRecDepth 100000 in
theorem ct_X2_overlappingSection (l : Launch) (D : va_G) (ad : Nat → Nat) (cB : ClassId) : ctC l yX2_overlappingSection cX2_overlappingSection 8 (some .int) rX2_overlappingSection D ad cB [.ref (ad 3)] fX2_overlappingSection := by
  intro w as g w1 r hf hg
  unfold fX2_overlappingSection at hf
  split at hf
  · cases hf
    refine tr_of (rx_1c 10 (fun u w0 lv => w0 = w ∧ ∃ k, k ≤ sC w.1 ∧ u = sC w.1 - k ∧ (∀ i, i < k → ¬ q10 w.1 i) ∧ lv = [(0, .ref (ad 3)), (1, .int (nI (sC w.1))), (2, .int (nI k))])) 200 200 10000 (by decide) rfl rfl (Nat.le_of_ble_eq_true rfl) pX2_overlappingSection_ok (rt_i _) (eo_X2_overlappingSection l D ad cB) ?_ ?_
    · intro pc g0 hpc u w0 lv hinv
      have hh := rx_1c_of hpc
      clear hpc
      obtain ⟨rfl, rfl⟩ := hh
      obtain ⟨rfl, k, hk, rfl, hz, rfl⟩ := hinv
      have hc := sC_lt w0.1
      simp only [pX2_overlappingSection, eX2_overlappingSection, fX0_roomLength, fX0_roomPlace, fX0_sectionCount, fX0_sectionStart, fX2_overlapsHeadOrTable, fX2_overlapsSectionBelow, rx_n, rx_s, rx_to, rx_get, rx_f1, rx_f2, rx_two, rx_ext, rx_any, rx_hV, rx_hS, rx_hG, rx_hP, rx_hAi, rx_hAb, rx_hL, rx_hLi, rx_got, rx_pop, rx_sum, rx_len, rx_c, rx_m1, lv_args, Value.category, rx_cut_n, rx_cut_1, rx_iconst, rx_bipush, rx_sipush, rx_lconst, rx_iload_n, rx_iload, rx_lload_n, rx_lload, rx_aload_n, rx_aload, rx_istore_n, rx_istore, rx_lstore_n, rx_lstore, rx_astore_n, rx_astore, rx_iinc, rx_iadd, rx_isub, rx_imul, rx_iand, rx_ixor, rx_ishr, rx_idiv, rx_irem, rx_ladd, rx_lsub, rx_land, rx_lor, rx_lxor, rx_lmul, rx_ldiv, rx_lrem, rx_lushr, rx_lshl, rx_lshr, rx_lneg, rx_i2l, rx_l2i, rx_i2b, rx_lcmp, rx_dup_i, rx_dup_a, rx_pop_i, rx_pop_a, rx_if_eq, rx_if_ne, rx_if_lt, rx_if_ge, rx_if_gt, rx_if_le, rx_icmp_eq, rx_icmp_ne, rx_icmp_lt, rx_icmp_ge, rx_icmp_gt, rx_icmp_le, rx_goto, rx_tsw, rx_ireturn, rx_lreturn, rx_return_, rx_getfield, rx_putfield, rx_invokevirtual, rx_invokespecial, rx_invokestatic, rx_ldc, rx_ldc2_w, rx_iaload, rx_iastore, rx_baload, rx_bastore, Nat.reduceBEq, Nat.reduceAdd, Nat.reduceSub, Nat.reduceMul, Nat.reduceLeDiff, Nat.reduceEqDiff, Nat.reduceLT, Int.reduceLT, Int.reduceLE, Int.reduceNeg, Int.reduceToNat, Int.reduceAdd, Fin.isValue, Fin.val_zero, Fin.val_one, Fin.reduceFinMk, Fin.val_ofNat, Bool.or_true, Bool.true_or, Bool.or_false, Bool.false_or, Bool.and_true, Bool.true_and, Bool.and_false, Bool.false_and, cond_true, cond_false, ↓reduceIte, eq_self, ne_eq, not_true_eq_false, not_false_eq_true, true_and, and_true, Option.toList_some, Option.toList_none, List.cons_append, List.nil_append, Option.some.injEq, Value.int.injEq, Value.long.injEq, rx_l0, rx_l1, rx_fv0, rx_fv1, rx_fv2, rx_fv3, nI_c1, nI_c2, nI_c4, nI_c8, nI_c9, nI_c24, nI_c64, Nat.le_refl, bI_z, bI_0, bI_1, Classical.not_not, lg_cmp_ge, lg_cmp_le, lg_cmp_gt, lg_cmp_lt, lg_cmp_eq]
      rw [nI_leI (by omega) (by omega)]
      refine ⟨fun h => (oI_none fun i hi => hz i (by omega)).symm, fun h => ?_⟩
      have hk2 : k < sC w0.1 := by omega
      have next : nI k + nI 1 = nI (k + 1) := nI_add k 1
      
      have hA := t6_sA hg.1 hk2
      have hR := t9_room hg hk2
      have hB := bn_le w0.1
      simp (disch := omega) only [t6_sS hg.1, nm_at, rl_at hg.1 hk2]
      rw [show bl w0.1 (sA w0.1 k + 24) 8 = rP w0.1 k from rfl]
      simp (disch := omega) only [uN_lN, nI_clamp]
      refine ⟨⟨hg.1, by omega⟩, fun h2 => ?_, fun h2 => ⟨⟨hg, trivial, by omega, by omega⟩, fun h3 => ?_, fun h3 => ?_⟩⟩
      · refine (oI_some hz ?_ hk2).symm
        unfold q10
        grind
      · refine ⟨sC w0.1 - (k + 1), _, by omega, ⟨k + 1, by omega, rfl, lt_s hz (by unfold q10; grind), rfl⟩, ?_⟩
        simp only [List.mem_cons, List.not_mem_nil, or_false, forall_eq_or_imp, forall_eq, Nat.reduceBEq, cond_true, cond_false, Option.some.injEq, Value.int.injEq, Value.long.injEq, Value.ref.injEq, true_and, and_true]
        exact next
      · refine (oI_some hz ?_ hk2).symm
        unfold q10
        grind
    · simp only [pX2_overlappingSection, eX2_overlappingSection, fX0_roomLength, fX0_roomPlace, fX0_sectionCount, fX0_sectionStart, fX2_overlapsHeadOrTable, fX2_overlapsSectionBelow, rx_n, rx_s, rx_to, rx_get, rx_f1, rx_f2, rx_two, rx_ext, rx_any, rx_hV, rx_hS, rx_hG, rx_hP, rx_hAi, rx_hAb, rx_hL, rx_hLi, rx_got, rx_pop, rx_sum, rx_len, rx_c, rx_m1, lv_args, Value.category, rx_cut_n, rx_cut_1, rx_iconst, rx_bipush, rx_sipush, rx_lconst, rx_iload_n, rx_iload, rx_lload_n, rx_lload, rx_aload_n, rx_aload, rx_istore_n, rx_istore, rx_lstore_n, rx_lstore, rx_astore_n, rx_astore, rx_iinc, rx_iadd, rx_isub, rx_imul, rx_iand, rx_ixor, rx_ishr, rx_idiv, rx_irem, rx_ladd, rx_lsub, rx_land, rx_lor, rx_lxor, rx_lmul, rx_ldiv, rx_lrem, rx_lushr, rx_lshl, rx_lshr, rx_lneg, rx_i2l, rx_l2i, rx_i2b, rx_lcmp, rx_dup_i, rx_dup_a, rx_pop_i, rx_pop_a, rx_if_eq, rx_if_ne, rx_if_lt, rx_if_ge, rx_if_gt, rx_if_le, rx_icmp_eq, rx_icmp_ne, rx_icmp_lt, rx_icmp_ge, rx_icmp_gt, rx_icmp_le, rx_goto, rx_tsw, rx_ireturn, rx_lreturn, rx_return_, rx_getfield, rx_putfield, rx_invokevirtual, rx_invokespecial, rx_invokestatic, rx_ldc, rx_ldc2_w, rx_iaload, rx_iastore, rx_baload, rx_bastore, Nat.reduceBEq, Nat.reduceAdd, Nat.reduceSub, Nat.reduceMul, Nat.reduceLeDiff, Nat.reduceEqDiff, Nat.reduceLT, Int.reduceLT, Int.reduceLE, Int.reduceNeg, Int.reduceToNat, Int.reduceAdd, Fin.isValue, Fin.val_zero, Fin.val_one, Fin.reduceFinMk, Fin.val_ofNat, Bool.or_true, Bool.true_or, Bool.or_false, Bool.false_or, Bool.and_true, Bool.true_and, Bool.and_false, Bool.false_and, cond_true, cond_false, ↓reduceIte, eq_self, ne_eq, not_true_eq_false, not_false_eq_true, true_and, and_true, Option.toList_some, Option.toList_none, List.cons_append, List.nil_append, Option.some.injEq, Value.int.injEq, Value.long.injEq, rx_l0, rx_l1, rx_fv0, rx_fv1, rx_fv2, rx_fv3, nI_c1, nI_c2, nI_c4, nI_c8, nI_c9, nI_c24, nI_c64, Nat.le_refl, bI_z, bI_0, bI_1, Classical.not_not, lg_cmp_ge, lg_cmp_le, lg_cmp_gt, lg_cmp_lt, lg_cmp_eq]
      have h1 := t6_s10 hg.1
      simp only [t6_sC hg.1]
      refine ⟨sC w.1, _, by omega, ⟨0, by omega, rfl, lt_0, rfl⟩, ?_⟩
      simp only [List.mem_cons, List.not_mem_nil, or_false, forall_eq_or_imp, forall_eq, Nat.reduceBEq, cond_true, cond_false, Option.some.injEq, Value.int.injEq, Value.long.injEq, Value.ref.injEq, true_and, and_true]
  · cases hf
def pX2_badTextsSection : rx_P := [(0, .aload_n 0, 0), (1, .getfield 15, 0), (4, .invokevirtual 107, 0), (7, .istore_n 1, 0), (8, .iconst 0, 0), (9, .istore_n 2, 0), (10, .iload_n 2, 0), (11, .iload_n 1, 0), (12, .if_icmp .ge 55, 67), (15, .aload_n 0, 0), (16, .getfield 15, 0), (19, .iload_n 2, 0), (20, .invokevirtual 150, 0), (23, .istore_n 3, 0), (24, .aload_n 0, 0), (25, .getfield 15, 0), (28, .iload_n 2, 0), (29, .i2l, 0), (30, .invokevirtual 175, 0), (33, .ifCond .eq 28, 61), (36, .aload_n 0, 0), (37, .aload_n 0, 0), (38, .getfield 15, 0), (41, .iload_n 3, 0), (42, .invokevirtual 162, 0), (45, .aload_n 0, 0), (46, .getfield 15, 0), (49, .iload_n 3, 0), (50, .invokevirtual 165, 0), (53, .invokevirtual 184, 0), (56, .ifCond .ne 5, 61), (59, .iload_n 2, 0), (60, .ireturn, 0), (61, .iinc 2 1, 0), (64, .goto (-54), 10), (67, .iconst (-1), 0), (68, .ireturn, 0)]
theorem pX2_badTextsSection_ok : ∀ q ∈ pX2_badTextsSection, rx_ok cX2_badTextsSection q := rx_ok_all (by decide +kernel)
abbrev rX2_badTextsSection : Room := { frames := 3, cells := 0, slots := 0, locals := 68 }
noncomputable def fX2_badTextsSection : rx_F cS := fun w as => match as with
  | [] => some (t9 w.1, w, some (.int (oI (q11a w.1) (sC w.1))))
  | _ => none
noncomputable def eX2_badTextsSection (ad : Nat → Nat) : rx_E cS := rx_any [rx_hG 15 (ad 3) (fun w => .ref (ad 2)), rx_hV 107 0 (ad 2) fX0_sectionCount, rx_hV 150 1 (ad 2) fX0_sectionStart, rx_hV 175 1 (ad 2) fX0_isTexts, rx_hV 162 1 (ad 2) fX0_roomPlace, rx_hV 165 1 (ad 2) fX0_roomLength, rx_hV 184 2 (ad 3) fX2_textsAreClosed]
set_option maxHeartbeats 4000000 in
set_option maxRecDepth 100000 in
theorem eo_X2_badTextsSection (l : Launch) (D : va_G) (ad : Nat → Nat) (cB : ClassId) : ∀ (p : Program) (e : Env) (s : State) (m : MethodId) (args : Array Value) (below : List Frame) (meth : Method) (c : Code) (Qw : State → Prop), CallFix p m c cX2_badTextsSection 4 s args (Cond.code yX2_badTextsSection cX2_badTextsSection 4 (some .int) :: wsA) RX2 → cK D cB s → rx_Eok (fun H locs g => W p l e rX2_badTextsSection s m args below meth c H locs 0 0 Qw g) m cX2_badTextsSection 4 (tr_I D vwCl (cA ad) s (cW ad cB)) (eX2_badTextsSection ad) := by
  intro p e s m args below meth c Qw S hK
  have ht : ∀ w ∈ wsA, w.before args s = true := fun w h => S.2.2.2.2 w (wsA_in h)
  exact rx_any_c (rx_hG_ok (fun w H locs pc ls rest hI hd k => va_get (D := D) (ci := 2) (C := RX2) (T := TX2) (N := 3) S.1 S.2.1 ht inX2 S.2.2.2.1 hK.1 hI.1 3 rfl rfl 1 (by decide) (ht _ wfX2_15) (fun _ h9 => h9) rfl hd k)) (rx_any_c (rx_hV_ok S ⟨Nat.zero_le _, Nat.zero_le _⟩ cK_tr hK (cwV 0 S.2.2.2.2 (wsA_V wkX2_107 wiX0_sectionCount weX0_sectionCount winiX0 wX0_sectionCount) rfl rfl rfl (by decide +kernel) ⟨by decide, by decide⟩) (ct_X0_sectionCount l D ad cB) (fun w H hP => va_recv hK.1 hP (rfl : vwCl[0]? = some (RX0, TX0, 1)) (rfl : (cW ad cB w)[2]? = some _))) (rx_any_c (rx_hV_ok S ⟨Nat.zero_le _, Nat.zero_le _⟩ cK_tr hK (cwV 1 S.2.2.2.2 (wsA_V wkX2_150 wiX0_sectionStart weX0_sectionStart winiX0 wX0_sectionStart) rfl rfl rfl (by decide +kernel) ⟨by decide, by decide⟩) (ct_X0_sectionStart l D ad cB) (fun w H hP => va_recv hK.1 hP (rfl : vwCl[0]? = some (RX0, TX0, 1)) (rfl : (cW ad cB w)[2]? = some _))) (rx_any_c (rx_hV_ok S ⟨Nat.zero_le _, Nat.zero_le _⟩ cK_tr hK (cwV 1 S.2.2.2.2 (wsA_V wkX2_175 wiX0_isTexts weX0_isTexts winiX0 wX0_isTexts) rfl rfl rfl (by decide +kernel) ⟨by decide, by decide⟩) (ct_X0_isTexts l D ad cB) (fun w H hP => va_recv hK.1 hP (rfl : vwCl[0]? = some (RX0, TX0, 1)) (rfl : (cW ad cB w)[2]? = some _))) (rx_any_c (rx_hV_ok S ⟨Nat.zero_le _, Nat.zero_le _⟩ cK_tr hK (cwV 1 S.2.2.2.2 (wsA_V wkX2_162 wiX0_roomPlace weX0_roomPlace winiX0 wX0_roomPlace) rfl rfl rfl (by decide +kernel) ⟨by decide, by decide⟩) (ct_X0_roomPlace l D ad cB) (fun w H hP => va_recv hK.1 hP (rfl : vwCl[0]? = some (RX0, TX0, 1)) (rfl : (cW ad cB w)[2]? = some _))) (rx_any_c (rx_hV_ok S ⟨Nat.zero_le _, Nat.zero_le _⟩ cK_tr hK (cwV 1 S.2.2.2.2 (wsA_V wkX2_165 wiX0_roomLength weX0_roomLength winiX0 wX0_roomLength) rfl rfl rfl (by decide +kernel) ⟨by decide, by decide⟩) (ct_X0_roomLength l D ad cB) (fun w H hP => va_recv hK.1 hP (rfl : vwCl[0]? = some (RX0, TX0, 1)) (rfl : (cW ad cB w)[2]? = some _))) (rx_any_c (rx_hV_ok S ⟨Nat.zero_le _, Nat.zero_le _⟩ cK_tr hK (cwV 2 S.2.2.2.2 (wsA_V wkX2_184 wiX2_textsAreClosed weX2_textsAreClosed winiX2 wX2_textsAreClosed) rfl rfl rfl (by decide +kernel) ⟨by decide, by decide⟩) (ct_X2_textsAreClosed l D ad cB) (fun w H hP => va_recv hK.1 hP (rfl : vwCl[2]? = some (RX2, TX2, 3)) (rfl : (cW ad cB w)[3]? = some _))) (rx_any_0)))))))
set_option maxHeartbeats 4000000 in
set_option maxRecDepth 100000 in
theorem ct_X2_badTextsSection (l : Launch) (D : va_G) (ad : Nat → Nat) (cB : ClassId) : ctC l yX2_badTextsSection cX2_badTextsSection 4 (some .int) rX2_badTextsSection D ad cB [.ref (ad 3)] fX2_badTextsSection := by
  intro w as g w1 r hf hg
  unfold fX2_badTextsSection at hf
  split at hf
  · cases hf
    refine tr_of (rx_1c 10 (fun u w0 lv => w0 = w ∧ ∃ k, k ≤ sC w.1 ∧ u = sC w.1 - k ∧ (∀ i, i < k → ¬ q11a w.1 i) ∧ lv = [(0, .ref (ad 3)), (1, .int (nI (sC w.1))), (2, .int (nI k))])) 200 200 10000 (by decide) rfl rfl (Nat.le_of_ble_eq_true rfl) pX2_badTextsSection_ok (rt_i _) (eo_X2_badTextsSection l D ad cB) ?_ ?_
    · intro pc g0 hpc u w0 lv hinv
      have hh := rx_1c_of hpc
      clear hpc
      obtain ⟨rfl, rfl⟩ := hh
      obtain ⟨rfl, k, hk, rfl, hz, rfl⟩ := hinv
      have hc := sC_lt w0.1
      simp only [pX2_badTextsSection, eX2_badTextsSection, fX0_isTexts, fX0_roomLength, fX0_roomPlace, fX0_sectionCount, fX0_sectionStart, fX2_textsAreClosed, rx_n, rx_s, rx_to, rx_get, rx_f1, rx_f2, rx_two, rx_ext, rx_any, rx_hV, rx_hS, rx_hG, rx_hP, rx_hAi, rx_hAb, rx_hL, rx_hLi, rx_got, rx_pop, rx_sum, rx_len, rx_c, rx_m1, lv_args, Value.category, rx_cut_n, rx_cut_1, rx_iconst, rx_bipush, rx_sipush, rx_lconst, rx_iload_n, rx_iload, rx_lload_n, rx_lload, rx_aload_n, rx_aload, rx_istore_n, rx_istore, rx_lstore_n, rx_lstore, rx_astore_n, rx_astore, rx_iinc, rx_iadd, rx_isub, rx_imul, rx_iand, rx_ixor, rx_ishr, rx_idiv, rx_irem, rx_ladd, rx_lsub, rx_land, rx_lor, rx_lxor, rx_lmul, rx_ldiv, rx_lrem, rx_lushr, rx_lshl, rx_lshr, rx_lneg, rx_i2l, rx_l2i, rx_i2b, rx_lcmp, rx_dup_i, rx_dup_a, rx_pop_i, rx_pop_a, rx_if_eq, rx_if_ne, rx_if_lt, rx_if_ge, rx_if_gt, rx_if_le, rx_icmp_eq, rx_icmp_ne, rx_icmp_lt, rx_icmp_ge, rx_icmp_gt, rx_icmp_le, rx_goto, rx_tsw, rx_ireturn, rx_lreturn, rx_return_, rx_getfield, rx_putfield, rx_invokevirtual, rx_invokespecial, rx_invokestatic, rx_ldc, rx_ldc2_w, rx_iaload, rx_iastore, rx_baload, rx_bastore, Nat.reduceBEq, Nat.reduceAdd, Nat.reduceSub, Nat.reduceMul, Nat.reduceLeDiff, Nat.reduceEqDiff, Nat.reduceLT, Int.reduceLT, Int.reduceLE, Int.reduceNeg, Int.reduceToNat, Int.reduceAdd, Fin.isValue, Fin.val_zero, Fin.val_one, Fin.reduceFinMk, Fin.val_ofNat, Bool.or_true, Bool.true_or, Bool.or_false, Bool.false_or, Bool.and_true, Bool.true_and, Bool.and_false, Bool.false_and, cond_true, cond_false, ↓reduceIte, eq_self, ne_eq, not_true_eq_false, not_false_eq_true, true_and, and_true, Option.toList_some, Option.toList_none, List.cons_append, List.nil_append, Option.some.injEq, Value.int.injEq, Value.long.injEq, rx_l0, rx_l1, rx_fv0, rx_fv1, rx_fv2, rx_fv3, nI_c1, nI_c2, nI_c4, nI_c8, nI_c9, nI_c24, nI_c64, Nat.le_refl, bI_z, bI_0, bI_1, Classical.not_not, lg_cmp_ge, lg_cmp_le, lg_cmp_gt, lg_cmp_lt, lg_cmp_eq]
      rw [nI_leI (by omega) (by omega)]
      refine ⟨fun h => (oI_none fun i hi => hz i (by omega)).symm, fun h => ?_⟩
      have hk2 : k < sC w0.1 := by omega
      have next : nI k + nI 1 = nI (k + 1) := nI_add k 1
      
      have hA := t6_sA hg.1 hk2
      have hR := t9_room hg hk2
      have hB := bn_le w0.1
      have hT : iT w0.1 k ↔ kd w0.1 k = 3 := by
        unfold iT kd
        rw [t6_sC hg.1, t6_sS hg.1, nm_at (by omega)]
        exact ⟨fun q => q.2, fun q => ⟨hk2, q⟩⟩
      simp (disch := omega) only [t6_sS hg.1, nm_at, rl_at hg.1 hk2, nI_l, uN_lN, hT]
      rw [show bl w0.1 (sA w0.1 k + 24) 8 = rP w0.1 k from rfl]
      simp (disch := omega) only [uN_lN]
      have hC : (0 < rL w0.1 k ∧ nu w0.1 (rP w0.1 k) 1 = 0 ∧ nu w0.1 (rP w0.1 k + rL w0.1 k - 1) 1 = 0) ↔ (0 < rL w0.1 k ∧ bg w0.1 (rP w0.1 k) = 0 ∧ bg w0.1 (rP w0.1 k + rL w0.1 k - 1) = 0) := by
        by_cases q : 0 < rL w0.1 k
        · rw [nu_in (by omega), nu_in (by omega), bl_1, bl_1]
        · exact ⟨fun z => absurd z.1 q, fun z => absurd z.1 q⟩
      rw [hC]
      refine ⟨fun h2 => ?_, fun h2 => ⟨by omega, fun h3 => ?_, fun h3 => (oI_some hz ⟨h2, h3⟩ hk2).symm⟩⟩
      · refine ⟨sC w0.1 - (k + 1), _, by omega, ⟨k + 1, by omega, rfl, lt_s hz (fun q => h2 q.1), rfl⟩, ?_⟩
        simp only [List.mem_cons, List.not_mem_nil, or_false, forall_eq_or_imp, forall_eq, Nat.reduceBEq, cond_true, cond_false, Option.some.injEq, Value.int.injEq, Value.long.injEq, Value.ref.injEq, true_and, and_true]
        exact next
      · refine ⟨sC w0.1 - (k + 1), _, by omega, ⟨k + 1, by omega, rfl, lt_s hz (fun q => q.2 h3), rfl⟩, ?_⟩
        simp only [List.mem_cons, List.not_mem_nil, or_false, forall_eq_or_imp, forall_eq, Nat.reduceBEq, cond_true, cond_false, Option.some.injEq, Value.int.injEq, Value.long.injEq, Value.ref.injEq, true_and, and_true]
        exact next
    · simp only [pX2_badTextsSection, eX2_badTextsSection, fX0_isTexts, fX0_roomLength, fX0_roomPlace, fX0_sectionCount, fX0_sectionStart, fX2_textsAreClosed, rx_n, rx_s, rx_to, rx_get, rx_f1, rx_f2, rx_two, rx_ext, rx_any, rx_hV, rx_hS, rx_hG, rx_hP, rx_hAi, rx_hAb, rx_hL, rx_hLi, rx_got, rx_pop, rx_sum, rx_len, rx_c, rx_m1, lv_args, Value.category, rx_cut_n, rx_cut_1, rx_iconst, rx_bipush, rx_sipush, rx_lconst, rx_iload_n, rx_iload, rx_lload_n, rx_lload, rx_aload_n, rx_aload, rx_istore_n, rx_istore, rx_lstore_n, rx_lstore, rx_astore_n, rx_astore, rx_iinc, rx_iadd, rx_isub, rx_imul, rx_iand, rx_ixor, rx_ishr, rx_idiv, rx_irem, rx_ladd, rx_lsub, rx_land, rx_lor, rx_lxor, rx_lmul, rx_ldiv, rx_lrem, rx_lushr, rx_lshl, rx_lshr, rx_lneg, rx_i2l, rx_l2i, rx_i2b, rx_lcmp, rx_dup_i, rx_dup_a, rx_pop_i, rx_pop_a, rx_if_eq, rx_if_ne, rx_if_lt, rx_if_ge, rx_if_gt, rx_if_le, rx_icmp_eq, rx_icmp_ne, rx_icmp_lt, rx_icmp_ge, rx_icmp_gt, rx_icmp_le, rx_goto, rx_tsw, rx_ireturn, rx_lreturn, rx_return_, rx_getfield, rx_putfield, rx_invokevirtual, rx_invokespecial, rx_invokestatic, rx_ldc, rx_ldc2_w, rx_iaload, rx_iastore, rx_baload, rx_bastore, Nat.reduceBEq, Nat.reduceAdd, Nat.reduceSub, Nat.reduceMul, Nat.reduceLeDiff, Nat.reduceEqDiff, Nat.reduceLT, Int.reduceLT, Int.reduceLE, Int.reduceNeg, Int.reduceToNat, Int.reduceAdd, Fin.isValue, Fin.val_zero, Fin.val_one, Fin.reduceFinMk, Fin.val_ofNat, Bool.or_true, Bool.true_or, Bool.or_false, Bool.false_or, Bool.and_true, Bool.true_and, Bool.and_false, Bool.false_and, cond_true, cond_false, ↓reduceIte, eq_self, ne_eq, not_true_eq_false, not_false_eq_true, true_and, and_true, Option.toList_some, Option.toList_none, List.cons_append, List.nil_append, Option.some.injEq, Value.int.injEq, Value.long.injEq, rx_l0, rx_l1, rx_fv0, rx_fv1, rx_fv2, rx_fv3, nI_c1, nI_c2, nI_c4, nI_c8, nI_c9, nI_c24, nI_c64, Nat.le_refl, bI_z, bI_0, bI_1, Classical.not_not, lg_cmp_ge, lg_cmp_le, lg_cmp_gt, lg_cmp_lt, lg_cmp_eq]
      have h1 := t6_s10 hg.1
      simp only [t6_sC hg.1]
      refine ⟨sC w.1, _, by omega, ⟨0, by omega, rfl, lt_0, rfl⟩, ?_⟩
      simp only [List.mem_cons, List.not_mem_nil, or_false, forall_eq_or_imp, forall_eq, Nat.reduceBEq, cond_true, cond_false, Option.some.injEq, Value.int.injEq, Value.long.injEq, Value.ref.injEq, true_and, and_true]
  · cases hf
def pX2_sectionWithoutName : rx_P := [(0, .aload_n 0, 0), (1, .getfield 15, 0), (4, .invokevirtual 107, 0), (7, .istore_n 1, 0), (8, .aload_n 0, 0), (9, .getfield 15, 0), (12, .aload_n 0, 0), (13, .getfield 15, 0), (16, .invokevirtual 187, 0), (19, .invokevirtual 165, 0), (22, .lstore_n 2, 0), (23, .iconst 0, 0), (24, .istore 4, 0), (26, .iload 4, 0), (28, .iload_n 1, 0), (29, .if_icmp .ge 36, 65), (32, .aload_n 0, 0), (33, .getfield 9, 0), (36, .aload_n 0, 0), (37, .getfield 15, 0), (40, .iload 4, 0), (42, .invokevirtual 150, 0), (45, .iconst 0, 0), (46, .iadd, 0), (47, .iconst 4, 0), (48, .invokevirtual 76, 0), (51, .lload_n 2, 0), (52, .lcmp, 0), (53, .ifCond .lt 6, 59), (56, .iload 4, 0), (58, .ireturn, 0), (59, .iinc 4 1, 0), (62, .goto (-36), 26), (65, .iconst (-1), 0), (66, .ireturn, 0)]
theorem pX2_sectionWithoutName_ok : ∀ q ∈ pX2_sectionWithoutName, rx_ok cX2_sectionWithoutName q := rx_ok_all (by decide +kernel)
abbrev rX2_sectionWithoutName : Room := { frames := 3, cells := 0, slots := 0, locals := 66 }
noncomputable def fX2_sectionWithoutName : rx_F cS := fun w as => match as with
  | [] => some (t9 w.1 ∧ tX w.1 (nX w.1), w, some (.int (oI (q11b w.1) (sC w.1))))
  | _ => none
noncomputable def eX2_sectionWithoutName (ad : Nat → Nat) : rx_E cS := rx_any [rx_hG 15 (ad 3) (fun w => .ref (ad 2)), rx_hV 107 0 (ad 2) fX0_sectionCount, rx_hV 187 0 (ad 2) fX0_namesStart, rx_hV 165 1 (ad 2) fX0_roomLength, rx_hG 9 (ad 3) (fun w => .ref (ad 1)), rx_hV 150 1 (ad 2) fX0_sectionStart, rx_hV 76 2 (ad 1) fX1_number]
set_option maxHeartbeats 4000000 in
set_option maxRecDepth 100000 in
theorem eo_X2_sectionWithoutName (l : Launch) (D : va_G) (ad : Nat → Nat) (cB : ClassId) : ∀ (p : Program) (e : Env) (s : State) (m : MethodId) (args : Array Value) (below : List Frame) (meth : Method) (c : Code) (Qw : State → Prop), CallFix p m c cX2_sectionWithoutName 5 s args (Cond.code yX2_sectionWithoutName cX2_sectionWithoutName 5 (some .int) :: wsA) RX2 → cK D cB s → rx_Eok (fun H locs g => W p l e rX2_sectionWithoutName s m args below meth c H locs 0 0 Qw g) m cX2_sectionWithoutName 5 (tr_I D vwCl (cA ad) s (cW ad cB)) (eX2_sectionWithoutName ad) := by
  intro p e s m args below meth c Qw S hK
  have ht : ∀ w ∈ wsA, w.before args s = true := fun w h => S.2.2.2.2 w (wsA_in h)
  exact rx_any_c (rx_hG_ok (fun w H locs pc ls rest hI hd k => va_get (D := D) (ci := 2) (C := RX2) (T := TX2) (N := 3) S.1 S.2.1 ht inX2 S.2.2.2.1 hK.1 hI.1 3 rfl rfl 1 (by decide) (ht _ wfX2_15) (fun _ h9 => h9) rfl hd k)) (rx_any_c (rx_hV_ok S ⟨Nat.zero_le _, Nat.zero_le _⟩ cK_tr hK (cwV 0 S.2.2.2.2 (wsA_V wkX2_107 wiX0_sectionCount weX0_sectionCount winiX0 wX0_sectionCount) rfl rfl rfl (by decide +kernel) ⟨by decide, by decide⟩) (ct_X0_sectionCount l D ad cB) (fun w H hP => va_recv hK.1 hP (rfl : vwCl[0]? = some (RX0, TX0, 1)) (rfl : (cW ad cB w)[2]? = some _))) (rx_any_c (rx_hV_ok S ⟨Nat.zero_le _, Nat.zero_le _⟩ cK_tr hK (cwV 0 S.2.2.2.2 (wsA_V wkX2_187 wiX0_namesStart weX0_namesStart winiX0 wX0_namesStart) rfl rfl rfl (by decide +kernel) ⟨by decide, by decide⟩) (ct_X0_namesStart l D ad cB) (fun w H hP => va_recv hK.1 hP (rfl : vwCl[0]? = some (RX0, TX0, 1)) (rfl : (cW ad cB w)[2]? = some _))) (rx_any_c (rx_hV_ok S ⟨Nat.zero_le _, Nat.zero_le _⟩ cK_tr hK (cwV 1 S.2.2.2.2 (wsA_V wkX2_165 wiX0_roomLength weX0_roomLength winiX0 wX0_roomLength) rfl rfl rfl (by decide +kernel) ⟨by decide, by decide⟩) (ct_X0_roomLength l D ad cB) (fun w H hP => va_recv hK.1 hP (rfl : vwCl[0]? = some (RX0, TX0, 1)) (rfl : (cW ad cB w)[2]? = some _))) (rx_any_c (rx_hG_ok (fun w H locs pc ls rest hI hd k => va_get (D := D) (ci := 2) (C := RX2) (T := TX2) (N := 3) S.1 S.2.1 ht inX2 S.2.2.2.1 hK.1 hI.1 3 rfl rfl 0 (by decide) (ht _ wfX2_9) (fun _ h9 => h9) rfl hd k)) (rx_any_c (rx_hV_ok S ⟨Nat.zero_le _, Nat.zero_le _⟩ cK_tr hK (cwV 1 S.2.2.2.2 (wsA_V wkX2_150 wiX0_sectionStart weX0_sectionStart winiX0 wX0_sectionStart) rfl rfl rfl (by decide +kernel) ⟨by decide, by decide⟩) (ct_X0_sectionStart l D ad cB) (fun w H hP => va_recv hK.1 hP (rfl : vwCl[0]? = some (RX0, TX0, 1)) (rfl : (cW ad cB w)[2]? = some _))) (rx_any_c (rx_hV_ok S ⟨Nat.zero_le _, Nat.zero_le _⟩ cK_tr hK (cwV 2 S.2.2.2.2 (wsA_V wkX2_76 wiX1_number weX1_number winiX1 wX1_number) rfl rfl rfl (by decide +kernel) ⟨by decide, by decide⟩) (ct_X1_number l D ad cB) (fun w H hP => va_recv hK.1 hP (rfl : vwCl[1]? = some (RX1, TX1, 2)) (rfl : (cW ad cB w)[1]? = some _))) (rx_any_0)))))))
set_option maxHeartbeats 4000000 in
set_option maxRecDepth 100000 in
theorem ct_X2_sectionWithoutName (l : Launch) (D : va_G) (ad : Nat → Nat) (cB : ClassId) : ctC l yX2_sectionWithoutName cX2_sectionWithoutName 5 (some .int) rX2_sectionWithoutName D ad cB [.ref (ad 3)] fX2_sectionWithoutName := by
  intro w as g w1 r hf hg
  unfold fX2_sectionWithoutName at hf
  split at hf
  · cases hf
    refine tr_of (rx_1c 26 (fun u w0 lv => w0 = w ∧ ∃ k, k ≤ sC w.1 ∧ u = sC w.1 - k ∧ (∀ i, i < k → ¬ q11b w.1 i) ∧ lv = [(0, .ref (ad 3)), (1, .int (nI (sC w.1))), (2, .long (lN (rL w.1 (nX w.1)))), (4, .int (nI k))])) 200 200 10000 (by decide) rfl rfl (Nat.le_of_ble_eq_true rfl) pX2_sectionWithoutName_ok (rt_i _) (eo_X2_sectionWithoutName l D ad cB) ?_ ?_
    · intro pc g0 hpc u w0 lv hinv
      have hh := rx_1c_of hpc
      clear hpc
      obtain ⟨rfl, rfl⟩ := hh
      obtain ⟨rfl, k, hk, rfl, hz, rfl⟩ := hinv
      have hc := sC_lt w0.1
      simp only [pX2_sectionWithoutName, eX2_sectionWithoutName, fX0_namesStart, fX0_roomLength, fX0_sectionCount, fX0_sectionStart, fX1_number, rx_n, rx_s, rx_to, rx_get, rx_f1, rx_f2, rx_two, rx_ext, rx_any, rx_hV, rx_hS, rx_hG, rx_hP, rx_hAi, rx_hAb, rx_hL, rx_hLi, rx_got, rx_pop, rx_sum, rx_len, rx_c, rx_m1, lv_args, Value.category, rx_cut_n, rx_cut_1, rx_iconst, rx_bipush, rx_sipush, rx_lconst, rx_iload_n, rx_iload, rx_lload_n, rx_lload, rx_aload_n, rx_aload, rx_istore_n, rx_istore, rx_lstore_n, rx_lstore, rx_astore_n, rx_astore, rx_iinc, rx_iadd, rx_isub, rx_imul, rx_iand, rx_ixor, rx_ishr, rx_idiv, rx_irem, rx_ladd, rx_lsub, rx_land, rx_lor, rx_lxor, rx_lmul, rx_ldiv, rx_lrem, rx_lushr, rx_lshl, rx_lshr, rx_lneg, rx_i2l, rx_l2i, rx_i2b, rx_lcmp, rx_dup_i, rx_dup_a, rx_pop_i, rx_pop_a, rx_if_eq, rx_if_ne, rx_if_lt, rx_if_ge, rx_if_gt, rx_if_le, rx_icmp_eq, rx_icmp_ne, rx_icmp_lt, rx_icmp_ge, rx_icmp_gt, rx_icmp_le, rx_goto, rx_tsw, rx_ireturn, rx_lreturn, rx_return_, rx_getfield, rx_putfield, rx_invokevirtual, rx_invokespecial, rx_invokestatic, rx_ldc, rx_ldc2_w, rx_iaload, rx_iastore, rx_baload, rx_bastore, Nat.reduceBEq, Nat.reduceAdd, Nat.reduceSub, Nat.reduceMul, Nat.reduceLeDiff, Nat.reduceEqDiff, Nat.reduceLT, Int.reduceLT, Int.reduceLE, Int.reduceNeg, Int.reduceToNat, Int.reduceAdd, Fin.isValue, Fin.val_zero, Fin.val_one, Fin.reduceFinMk, Fin.val_ofNat, Bool.or_true, Bool.true_or, Bool.or_false, Bool.false_or, Bool.and_true, Bool.true_and, Bool.and_false, Bool.false_and, cond_true, cond_false, ↓reduceIte, eq_self, ne_eq, not_true_eq_false, not_false_eq_true, true_and, and_true, Option.toList_some, Option.toList_none, List.cons_append, List.nil_append, Option.some.injEq, Value.int.injEq, Value.long.injEq, rx_l0, rx_l1, rx_fv0, rx_fv1, rx_fv2, rx_fv3, nI_c1, nI_c2, nI_c4, nI_c8, nI_c9, nI_c24, nI_c64, Nat.le_refl, bI_z, bI_0, bI_1, Classical.not_not, lg_cmp_ge, lg_cmp_le, lg_cmp_gt, lg_cmp_lt, lg_cmp_eq]
      rw [nI_leI (by omega) (by omega)]
      refine ⟨fun h => (oI_none fun i hi => hz i (by omega)).symm, fun h => ?_⟩
      have hk2 : k < sC w0.1 := by omega
      have next : nI k + nI 1 = nI (k + 1) := nI_add k 1
      
      obtain ⟨h9, hX⟩ := hg
      have hA := t6_sA h9.1 hk2
      have hR := t9_room h9 hX.1
      have hB := bn_le w0.1
      have h4 := bl_lt w0.1 (sA w0.1 k) 4
      simp (disch := omega) only [t6_sS h9.1, nm_a0, nI_add0, pk_lLT]
      refine ⟨fun h2 => ?_, fun h2 => (oI_some hz (by unfold q11b; omega) hk2).symm⟩
      refine ⟨sC w0.1 - (k + 1), _, by omega, ⟨k + 1, by omega, rfl, lt_s hz (by unfold q11b; omega), rfl⟩, ?_⟩
      simp only [List.mem_cons, List.not_mem_nil, or_false, forall_eq_or_imp, forall_eq, Nat.reduceBEq, cond_true, cond_false, Option.some.injEq, Value.int.injEq, Value.long.injEq, Value.ref.injEq, true_and, and_true]
      exact next
    · simp only [pX2_sectionWithoutName, eX2_sectionWithoutName, fX0_namesStart, fX0_roomLength, fX0_sectionCount, fX0_sectionStart, fX1_number, rx_n, rx_s, rx_to, rx_get, rx_f1, rx_f2, rx_two, rx_ext, rx_any, rx_hV, rx_hS, rx_hG, rx_hP, rx_hAi, rx_hAb, rx_hL, rx_hLi, rx_got, rx_pop, rx_sum, rx_len, rx_c, rx_m1, lv_args, Value.category, rx_cut_n, rx_cut_1, rx_iconst, rx_bipush, rx_sipush, rx_lconst, rx_iload_n, rx_iload, rx_lload_n, rx_lload, rx_aload_n, rx_aload, rx_istore_n, rx_istore, rx_lstore_n, rx_lstore, rx_astore_n, rx_astore, rx_iinc, rx_iadd, rx_isub, rx_imul, rx_iand, rx_ixor, rx_ishr, rx_idiv, rx_irem, rx_ladd, rx_lsub, rx_land, rx_lor, rx_lxor, rx_lmul, rx_ldiv, rx_lrem, rx_lushr, rx_lshl, rx_lshr, rx_lneg, rx_i2l, rx_l2i, rx_i2b, rx_lcmp, rx_dup_i, rx_dup_a, rx_pop_i, rx_pop_a, rx_if_eq, rx_if_ne, rx_if_lt, rx_if_ge, rx_if_gt, rx_if_le, rx_icmp_eq, rx_icmp_ne, rx_icmp_lt, rx_icmp_ge, rx_icmp_gt, rx_icmp_le, rx_goto, rx_tsw, rx_ireturn, rx_lreturn, rx_return_, rx_getfield, rx_putfield, rx_invokevirtual, rx_invokespecial, rx_invokestatic, rx_ldc, rx_ldc2_w, rx_iaload, rx_iastore, rx_baload, rx_bastore, Nat.reduceBEq, Nat.reduceAdd, Nat.reduceSub, Nat.reduceMul, Nat.reduceLeDiff, Nat.reduceEqDiff, Nat.reduceLT, Int.reduceLT, Int.reduceLE, Int.reduceNeg, Int.reduceToNat, Int.reduceAdd, Fin.isValue, Fin.val_zero, Fin.val_one, Fin.reduceFinMk, Fin.val_ofNat, Bool.or_true, Bool.true_or, Bool.or_false, Bool.false_or, Bool.and_true, Bool.true_and, Bool.and_false, Bool.false_and, cond_true, cond_false, ↓reduceIte, eq_self, ne_eq, not_true_eq_false, not_false_eq_true, true_and, and_true, Option.toList_some, Option.toList_none, List.cons_append, List.nil_append, Option.some.injEq, Value.int.injEq, Value.long.injEq, rx_l0, rx_l1, rx_fv0, rx_fv1, rx_fv2, rx_fv3, nI_c1, nI_c2, nI_c4, nI_c8, nI_c9, nI_c24, nI_c64, Nat.le_refl, bI_z, bI_0, bI_1, Classical.not_not, lg_cmp_ge, lg_cmp_le, lg_cmp_gt, lg_cmp_lt, lg_cmp_eq]
      have h1 := t6_s10 hg.1.1
      have e1 : rl w.1 (nS w.1) = rL w.1 (nX w.1) := by
        unfold nS
        rw [t6_nX hg.1.1, t6_sS hg.1.1, rl_at hg.1.1 hg.2.1]
      simp only [t6_sC hg.1.1, e1]
      refine ⟨sC w.1, _, by omega, ⟨0, by omega, rfl, lt_0, rfl⟩, ?_⟩
      simp only [List.mem_cons, List.not_mem_nil, or_false, forall_eq_or_imp, forall_eq, Nat.reduceBEq, cond_true, cond_false, Option.some.injEq, Value.int.injEq, Value.long.injEq, Value.ref.injEq, true_and, and_true]
  · cases hf
def pX2_badlyNamedSection : rx_P := [(0, .aload_n 0, 0), (1, .getfield 15, 0), (4, .invokevirtual 107, 0), (7, .ifCond .ne 5, 12), (10, .iconst (-1), 0), (11, .ireturn, 0), (12, .aload_n 0, 0), (13, .getfield 15, 0), (16, .aload_n 0, 0), (17, .getfield 9, 0), (20, .bipush 62, 0), (22, .iconst 2, 0), (23, .invokevirtual 76, 0), (26, .invokevirtual 175, 0), (29, .ifCond .ne 5, 34), (32, .iconst 0, 0), (33, .ireturn, 0), (34, .aload_n 0, 0), (35, .invokevirtual 178, 0), (38, .istore_n 1, 0), (39, .iload_n 1, 0), (40, .iconst (-1), 0), (41, .if_icmp .eq 7, 48), (44, .iload_n 1, 0), (45, .goto 7, 52), (48, .aload_n 0, 0), (49, .invokevirtual 181, 0), (52, .ireturn, 0)]
theorem pX2_badlyNamedSection_ok : ∀ q ∈ pX2_badlyNamedSection, rx_ok cX2_badlyNamedSection q := rx_ok_all (by decide +kernel)
abbrev rX2_badlyNamedSection : Room := { frames := 4, cells := 0, slots := 0, locals := 91 }
noncomputable def fX2_badlyNamedSection : rx_F cS := fun w as => match as with
  | [] => some (t9 w.1, w, some (.int (r11 w.1)))
  | _ => none
noncomputable def eX2_badlyNamedSection (ad : Nat → Nat) : rx_E cS := rx_any [rx_hG 15 (ad 3) (fun w => .ref (ad 2)), rx_hV 107 0 (ad 2) fX0_sectionCount, rx_hG 9 (ad 3) (fun w => .ref (ad 1)), rx_hV 76 2 (ad 1) fX1_number, rx_hV 175 1 (ad 2) fX0_isTexts, rx_hV 178 0 (ad 3) fX2_badTextsSection, rx_hV 181 0 (ad 3) fX2_sectionWithoutName]
set_option maxHeartbeats 4000000 in
set_option maxRecDepth 100000 in
theorem eo_X2_badlyNamedSection (l : Launch) (D : va_G) (ad : Nat → Nat) (cB : ClassId) : ∀ (p : Program) (e : Env) (s : State) (m : MethodId) (args : Array Value) (below : List Frame) (meth : Method) (c : Code) (Qw : State → Prop), CallFix p m c cX2_badlyNamedSection 2 s args (Cond.code yX2_badlyNamedSection cX2_badlyNamedSection 2 (some .int) :: wsA) RX2 → cK D cB s → rx_Eok (fun H locs g => W p l e rX2_badlyNamedSection s m args below meth c H locs 0 0 Qw g) m cX2_badlyNamedSection 2 (tr_I D vwCl (cA ad) s (cW ad cB)) (eX2_badlyNamedSection ad) := by
  intro p e s m args below meth c Qw S hK
  have ht : ∀ w ∈ wsA, w.before args s = true := fun w h => S.2.2.2.2 w (wsA_in h)
  exact rx_any_c (rx_hG_ok (fun w H locs pc ls rest hI hd k => va_get (D := D) (ci := 2) (C := RX2) (T := TX2) (N := 3) S.1 S.2.1 ht inX2 S.2.2.2.1 hK.1 hI.1 3 rfl rfl 1 (by decide) (ht _ wfX2_15) (fun _ h9 => h9) rfl hd k)) (rx_any_c (rx_hV_ok S ⟨Nat.zero_le _, Nat.zero_le _⟩ cK_tr hK (cwV 0 S.2.2.2.2 (wsA_V wkX2_107 wiX0_sectionCount weX0_sectionCount winiX0 wX0_sectionCount) rfl rfl rfl (by decide +kernel) ⟨by decide, by decide⟩) (ct_X0_sectionCount l D ad cB) (fun w H hP => va_recv hK.1 hP (rfl : vwCl[0]? = some (RX0, TX0, 1)) (rfl : (cW ad cB w)[2]? = some _))) (rx_any_c (rx_hG_ok (fun w H locs pc ls rest hI hd k => va_get (D := D) (ci := 2) (C := RX2) (T := TX2) (N := 3) S.1 S.2.1 ht inX2 S.2.2.2.1 hK.1 hI.1 3 rfl rfl 0 (by decide) (ht _ wfX2_9) (fun _ h9 => h9) rfl hd k)) (rx_any_c (rx_hV_ok S ⟨Nat.zero_le _, Nat.zero_le _⟩ cK_tr hK (cwV 2 S.2.2.2.2 (wsA_V wkX2_76 wiX1_number weX1_number winiX1 wX1_number) rfl rfl rfl (by decide +kernel) ⟨by decide, by decide⟩) (ct_X1_number l D ad cB) (fun w H hP => va_recv hK.1 hP (rfl : vwCl[1]? = some (RX1, TX1, 2)) (rfl : (cW ad cB w)[1]? = some _))) (rx_any_c (rx_hV_ok S ⟨Nat.zero_le _, Nat.zero_le _⟩ cK_tr hK (cwV 1 S.2.2.2.2 (wsA_V wkX2_175 wiX0_isTexts weX0_isTexts winiX0 wX0_isTexts) rfl rfl rfl (by decide +kernel) ⟨by decide, by decide⟩) (ct_X0_isTexts l D ad cB) (fun w H hP => va_recv hK.1 hP (rfl : vwCl[0]? = some (RX0, TX0, 1)) (rfl : (cW ad cB w)[2]? = some _))) (rx_any_c (rx_hV_ok S ⟨Nat.zero_le _, Nat.zero_le _⟩ cK_tr hK (cwV 0 S.2.2.2.2 (wsA_V wkX2_178 wiX2_badTextsSection weX2_badTextsSection winiX2 wX2_badTextsSection) rfl rfl rfl (by decide +kernel) ⟨by decide, by decide⟩) (ct_X2_badTextsSection l D ad cB) (fun w H hP => va_recv hK.1 hP (rfl : vwCl[2]? = some (RX2, TX2, 3)) (rfl : (cW ad cB w)[3]? = some _))) (rx_any_c (rx_hV_ok S ⟨Nat.zero_le _, Nat.zero_le _⟩ cK_tr hK (cwV 0 S.2.2.2.2 (wsA_V wkX2_181 wiX2_sectionWithoutName weX2_sectionWithoutName winiX2 wX2_sectionWithoutName) rfl rfl rfl (by decide +kernel) ⟨by decide, by decide⟩) (ct_X2_sectionWithoutName l D ad cB) (fun w H hP => va_recv hK.1 hP (rfl : vwCl[2]? = some (RX2, TX2, 3)) (rfl : (cW ad cB w)[3]? = some _))) (rx_any_0)))))))
set_option maxHeartbeats 4000000 in
set_option maxRecDepth 100000 in
theorem ct_X2_badlyNamedSection (l : Launch) (D : va_G) (ad : Nat → Nat) (cB : ClassId) : ctC l yX2_badlyNamedSection cX2_badlyNamedSection 2 (some .int) rX2_badlyNamedSection D ad cB [.ref (ad 3)] fX2_badlyNamedSection := by
  intro w as g w1 r hf hg
  unfold fX2_badlyNamedSection at hf
  split at hf
  · cases hf
    exact tr_of rx_nc 0 200 0 (by decide) rfl rfl (Nat.le_of_ble_eq_true rfl) pX2_badlyNamedSection_ok (rt_i _) (eo_X2_badlyNamedSection l D ad cB) (fun pc g h => by cases h) (by
      simp only [pX2_badlyNamedSection, eX2_badlyNamedSection, fX0_isTexts, fX0_sectionCount, fX1_number, fX2_badTextsSection, fX2_sectionWithoutName, rx_n, rx_s, rx_to, rx_get, rx_f1, rx_f2, rx_two, rx_ext, rx_any, rx_hV, rx_hS, rx_hG, rx_hP, rx_hAi, rx_hAb, rx_hL, rx_hLi, rx_got, rx_pop, rx_sum, rx_len, rx_c, rx_m1, lv_args, Value.category, rx_cut_n, rx_cut_1, rx_iconst, rx_bipush, rx_sipush, rx_lconst, rx_iload_n, rx_iload, rx_lload_n, rx_lload, rx_aload_n, rx_aload, rx_istore_n, rx_istore, rx_lstore_n, rx_lstore, rx_astore_n, rx_astore, rx_iinc, rx_iadd, rx_isub, rx_imul, rx_iand, rx_ixor, rx_ishr, rx_idiv, rx_irem, rx_ladd, rx_lsub, rx_land, rx_lor, rx_lxor, rx_lmul, rx_ldiv, rx_lrem, rx_lushr, rx_lshl, rx_lshr, rx_lneg, rx_i2l, rx_l2i, rx_i2b, rx_lcmp, rx_dup_i, rx_dup_a, rx_pop_i, rx_pop_a, rx_if_eq, rx_if_ne, rx_if_lt, rx_if_ge, rx_if_gt, rx_if_le, rx_icmp_eq, rx_icmp_ne, rx_icmp_lt, rx_icmp_ge, rx_icmp_gt, rx_icmp_le, rx_goto, rx_tsw, rx_ireturn, rx_lreturn, rx_return_, rx_getfield, rx_putfield, rx_invokevirtual, rx_invokespecial, rx_invokestatic, rx_ldc, rx_ldc2_w, rx_iaload, rx_iastore, rx_baload, rx_bastore, Nat.reduceBEq, Nat.reduceAdd, Nat.reduceSub, Nat.reduceMul, Nat.reduceLeDiff, Nat.reduceEqDiff, Nat.reduceLT, Int.reduceLT, Int.reduceLE, Int.reduceNeg, Int.reduceToNat, Int.reduceAdd, Fin.isValue, Fin.val_zero, Fin.val_one, Fin.reduceFinMk, Fin.val_ofNat, Bool.or_true, Bool.true_or, Bool.or_false, Bool.false_or, Bool.and_true, Bool.true_and, Bool.and_false, Bool.false_and, cond_true, cond_false, ↓reduceIte, eq_self, ne_eq, not_true_eq_false, not_false_eq_true, true_and, and_true, Option.toList_some, Option.toList_none, List.cons_append, List.nil_append, Option.some.injEq, Value.int.injEq, Value.long.injEq, rx_l0, rx_l1, rx_fv0, rx_fv1, rx_fv2, rx_fv3, nI_c1, nI_c2, nI_c4, nI_c8, nI_c9, nI_c24, nI_c64, Nat.le_refl, bI_z, bI_0, bI_1, Classical.not_not, lg_cmp_ge, lg_cmp_le, lg_cmp_gt, lg_cmp_lt, lg_cmp_eq]
      have h1 := sC_lt w.1
      have h2 : nX w.1 < 65536 := bl_lt w.1 62 2
      have hT : iT w.1 (nX w.1) ↔ tX w.1 (nX w.1) := by
        unfold iT tX
        rw [t6_sC hg.1]
        refine ⟨fun q => ⟨q.1, ?_⟩, fun q => ⟨q.1, ?_⟩⟩
        · have := q.2
          have hA := t6_sA hg.1 q.1
          rw [t6_sS hg.1, nm_at (by omega)] at this
          exact this
        · have hA := t6_sA hg.1 q.1
          rw [t6_sS hg.1, nm_at (by omega)]
          exact q.2
      simp (disch := omega) only [nm_K, t6_sC hg.1, t6_nX hg.1, uN_lN, nI_z, hT]
      unfold r11
      refine ⟨fun h => ⟨fun h2 => ⟨hg, fun h3 => ⟨⟨hg, h2⟩, ?_⟩, fun h3 => ?_⟩, fun h2 => ?_⟩, fun h => ?_⟩
      · rw [if_neg h, if_pos h2, if_pos h3]
      · rw [if_neg h, if_pos h2, if_neg h3]
      · rw [if_neg h, if_neg h2]
      · rw [if_pos h])
  · cases hf
