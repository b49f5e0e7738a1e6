def pX3_clear : rx_P := [(0, .aload_n 0, 0), (1, .getfield 10, 0), (4, .invokevirtual 67, 0), (7, .aload_n 0, 0), (8, .iconst 0, 0), (9, .putfield 34, 0), (12, .return_, 0)]
theorem pX3_clear_ok : ∀ q ∈ pX3_clear, rx_ok cX3_clear q := rx_ok_all (by decide +kernel)
abbrev rX3_clear : Room := { frames := 1, cells := 0, slots := 0, locals := 20 }
noncomputable def fX3_clear : rx_F cS := fun w as => match as with
  | [] => some (True, (bSz w.1 0, nI 0, w.2.2.1, w.2.2.2), none)
  | _ => none
noncomputable def eX3_clear (ad : Nat → Nat) : rx_E cS := rx_any [rx_hG 10 (ad 0) (fun w => .ref (ad 1)), rx_hV 67 0 (ad 1) fX1_empty, rx_hP 34 (ad 0) (fun w v => match v with | .int z => some (narrow .boolean (.int z) = .int z ∧ fits .boolean (.int z) = true, (w.1, z, w.2.2.1, w.2.2.2)) | _ => none)]
set_option maxHeartbeats 4000000 in
set_option maxRecDepth 100000 in
theorem eo_X3_clear (l : Launch) (D : va_G) (ad : Nat → Nat) (cB : ClassId) (hj : cJ ad) : ∀ (p : Program) (e : Env) (s : State) (m : MethodId) (args : Array Value) (below : List Frame) (meth : Method) (c : Code) (Qw : State → Prop), CallFix p m c cX3_clear 1 s args (Cond.code yX3_clear cX3_clear 1 none :: wsA) RX3 → cK D cB s → rx_Eok (fun H locs g => W p l e rX3_clear s m args below meth c H locs 0 0 Qw g) m cX3_clear 1 (tr_I D vwCl (cA ad) s (cW ad cB)) (eX3_clear ad) := by
  intro p e s m args below meth c Qw S hK
  have ht : ∀ w ∈ wsA, w.before args s = true := fun w h => S.2.2.2.2 w (wsA_in h)
  exact rx_any_c (rx_hG_ok (fun w H locs pc ls rest hI hd k => va_get (D := D) (ci := 3) (C := RX3) (T := TX3) (N := 5) S.1 S.2.1 ht inX3 S.2.2.2.1 hK.1 hI.1 0 rfl rfl 0 (by decide) (ht _ wfX3_10) (fun _ h9 => h9) rfl hd k)) (rx_any_c (rx_hV_ok S ⟨Nat.zero_le _, Nat.zero_le _⟩ cK_tr hK (cwV 0 S.2.2.2.2 (wsA_V wkX3_67 wiX1_empty weX1_empty winiX1 wX1_empty) rfl rfl rfl (by decide +kernel) ⟨by decide, by decide⟩) (ct_X1_empty l D ad cB hj) (fun w H hP => va_recv hK.1 hP (rfl : vwCl[1]? = some (RX1, TX1, 2)) (rfl : (cW ad cB w)[1]? = some _))) (rx_any_c (rx_hP_ok (fun w v g w1 H locs pc ls rest hfv hg hI hd kk => by
    cases v with
    | int z =>
      cases hfv
      exact va_put (D := D) (ci := 3) (ty := .boolean) (C := RX3) (T := TX3) (N := 5) S.1 S.2.1 ht inX3 tyX3 tyX3_ok nmX3 S.2.2.2.1 hK.1 hI.1 (cD hj cB w) hI.2 0 rfl rfl 3 (by decide) (ht _ wfX3_34) (fun _ h9 => h9) rfl (by decide +kernel) hg.1 hg.2 (Nat.le_of_ble_eq_true rfl) hd (fun H1 locs1 hP _ hS => kk H1 locs1 ⟨hP, hS⟩)
    | _ => cases hfv)) (rx_any_0)))
set_option maxHeartbeats 4000000 in
set_option maxRecDepth 100000 in
theorem ct_X3_clear (l : Launch) (D : va_G) (ad : Nat → Nat) (cB : ClassId) (hj : cJ ad) : ctC l yX3_clear cX3_clear 1 none rX3_clear D ad cB [.ref (ad 0)] fX3_clear := by
  intro w as g w1 r hf hg
  unfold fX3_clear at hf
  split at hf
  · cases hf
    exact tr_of rx_nc 0 200 0 (by decide) rfl rfl (Nat.le_of_ble_eq_true rfl) pX3_clear_ok (rt_v) (eo_X3_clear l D ad cB hj) (fun pc g h => by cases h) (by
      simp only [pX3_clear, eX3_clear, fX1_empty, rx_n, rx_s, rx_to, rx_get, rx_f1, rx_f2, rx_two, rx_ext, rx_any, rx_hV, rx_hS, rx_hG, rx_hP, rx_hAi, rx_hAb, rx_hBb, rx_hBi, rx_hL, rx_hLi, rx_got, rx_pop, rx_sum, rx_len, rx_c, rx_m1, lv_args, Value.category, rx_cut_n, rx_cut_1, rx_iconst, rx_bipush, rx_sipush, rx_lconst, rx_iload_n, rx_iload, rx_lload_n, rx_lload, rx_aload_n, rx_aload, rx_istore_n, rx_istore, rx_lstore_n, rx_lstore, rx_astore_n, rx_astore, rx_iinc, rx_iadd, rx_isub, rx_imul, rx_iand, rx_ixor, rx_ishr, rx_idiv, rx_irem, rx_ladd, rx_lsub, rx_land, rx_lor, rx_lxor, rx_lmul, rx_ldiv, rx_lrem, rx_lushr, rx_lshl, rx_lshr, rx_lneg, rx_i2l, rx_l2i, rx_i2b, rx_lcmp, rx_dup_i, rx_dup_a, rx_pop_i, rx_pop_a, rx_if_eq, rx_if_ne, rx_if_lt, rx_if_ge, rx_if_gt, rx_if_le, rx_icmp_eq, rx_icmp_ne, rx_icmp_lt, rx_icmp_ge, rx_icmp_gt, rx_icmp_le, rx_goto, rx_tsw, rx_ireturn, rx_lreturn, rx_return_, rx_getfield, rx_putfield, rx_invokevirtual, rx_invokespecial, rx_invokestatic, rx_ldc, rx_ldc2_w, rx_iaload, rx_iastore, rx_baload, rx_bastore, Nat.reduceBEq, Nat.reduceAdd, Nat.reduceSub, Nat.reduceMul, Nat.reduceLeDiff, Nat.reduceEqDiff, Nat.reduceLT, Int.reduceLT, Int.reduceLE, Int.reduceNeg, Int.reduceToNat, Int.reduceAdd, Fin.isValue, Fin.val_zero, Fin.val_one, Fin.reduceFinMk, Fin.val_ofNat, Bool.or_true, Bool.true_or, Bool.or_false, Bool.false_or, Bool.and_true, Bool.true_and, Bool.and_false, Bool.false_and, cond_true, cond_false, ↓reduceIte, eq_self, ne_eq, not_true_eq_false, not_false_eq_true, true_and, and_true, Option.toList_some, Option.toList_none, List.cons_append, List.nil_append, Option.some.injEq, Value.int.injEq, Value.long.injEq, rx_l0, rx_l1, rx_fv0, rx_fv1, rx_fv2, rx_fv3, nI_c1, nI_c2, nI_c4, nI_c8, nI_c9, nI_c24, nI_c64, Nat.le_refl, bI_z, bI_0, bI_1, Classical.not_not, lg_cmp_ge, lg_cmp_le, lg_cmp_gt, lg_cmp_lt, lg_cmp_eq]
      exact ⟨rfl, rfl⟩)
  · cases hf
def pX3_judge : rx_P := [(0, .aload_n 0, 0), (1, .aload_n 0, 0), (2, .getfield 30, 0), (5, .invokevirtual 70, 0), (8, .putfield 38, 0), (11, .aload_n 0, 0), (12, .iconst 1, 0), (13, .putfield 34, 0), (16, .aload_n 0, 0), (17, .getfield 38, 0), (20, .ireturn, 0)]
theorem pX3_judge_ok : ∀ q ∈ pX3_judge, rx_ok cX3_judge q := rx_ok_all (by decide +kernel)
abbrev rX3_judge : Room := { frames := 6, cells := 0, slots := 0, locals := 144 }
noncomputable def fX3_judge : rx_F cS := fun w as => match as with
  | [] => some (True, (w.1, nI 1, (vD w.1).1, (vD w.1).2), some (.int (vD w.1).1))
  | _ => none
noncomputable def eX3_judge (ad : Nat → Nat) : rx_E cS := rx_any [rx_hG 30 (ad 0) (fun w => .ref (ad 3)), rx_hV 70 0 (ad 3) fX2_firstBroken, rx_hP 38 (ad 0) (fun w v => match v with | .int z => some (True, (w.1, w.2.1, z, w.2.2.2)) | _ => none), rx_hP 34 (ad 0) (fun w v => match v with | .int z => some (narrow .boolean (.int z) = .int z ∧ fits .boolean (.int z) = true, (w.1, z, w.2.2.1, w.2.2.2)) | _ => none), rx_hG 38 (ad 0) (fun w => .int w.2.2.1)]
set_option maxHeartbeats 4000000 in
set_option maxRecDepth 100000 in
theorem eo_X3_judge (l : Launch) (D : va_G) (ad : Nat → Nat) (cB : ClassId) (hj : cJ ad) : ∀ (p : Program) (e : Env) (s : State) (m : MethodId) (args : Array Value) (below : List Frame) (meth : Method) (c : Code) (Qw : State → Prop), CallFix p m c cX3_judge 1 s args (Cond.code yX3_judge cX3_judge 1 (some .int) :: wsA) RX3 → cK D cB s → rx_Eok (fun H locs g => W p l e rX3_judge s m args below meth c H locs 0 0 Qw g) m cX3_judge 1 (tr_I D vwCl (cA ad) s (cW ad cB)) (eX3_judge ad) := by
  intro p e s m args below meth c Qw S hK
  have ht : ∀ w ∈ wsA, w.before args s = true := fun w h => S.2.2.2.2 w (wsA_in h)
  exact rx_any_c (rx_hG_ok (fun w H locs pc ls rest hI hd k => va_get (D := D) (ci := 3) (C := RX3) (T := TX3) (N := 5) S.1 S.2.1 ht inX3 S.2.2.2.1 hK.1 hI.1 0 rfl rfl 2 (by decide) (ht _ wfX3_30) (fun _ h9 => h9) rfl hd k)) (rx_any_c (rx_hV_ok S ⟨Nat.zero_le _, Nat.zero_le _⟩ cK_tr hK (cwV 0 S.2.2.2.2 (wsA_V wkX3_70 wiX2_firstBroken weX2_firstBroken winiX2 wX2_firstBroken) rfl rfl rfl (by decide +kernel) ⟨by decide, by decide⟩) (ct_X2_firstBroken l D ad cB hj) (fun w H hP => va_recv hK.1 hP (rfl : vwCl[2]? = some (RX2, TX2, 3)) (rfl : (cW ad cB w)[3]? = some _))) (rx_any_c (rx_hP_ok (fun w v g w1 H locs pc ls rest hfv hg hI hd kk => by
    cases v with
    | int z =>
      cases hfv
      exact va_put (D := D) (ci := 3) (ty := .int) (C := RX3) (T := TX3) (N := 5) S.1 S.2.1 ht inX3 tyX3 tyX3_ok nmX3 S.2.2.2.1 hK.1 hI.1 (cD hj cB w) hI.2 0 rfl rfl 4 (by decide) (ht _ wfX3_38) (fun _ h9 => h9) rfl (by decide +kernel) rfl rfl (Nat.le_of_ble_eq_true rfl) hd (fun H1 locs1 hP _ hS => kk H1 locs1 ⟨hP, hS⟩)
    | _ => cases hfv)) (rx_any_c (rx_hP_ok (fun w v g w1 H locs pc ls rest hfv hg hI hd kk => by
    cases v with
    | int z =>
      cases hfv
      exact va_put (D := D) (ci := 3) (ty := .boolean) (C := RX3) (T := TX3) (N := 5) S.1 S.2.1 ht inX3 tyX3 tyX3_ok nmX3 S.2.2.2.1 hK.1 hI.1 (cD hj cB w) hI.2 0 rfl rfl 3 (by decide) (ht _ wfX3_34) (fun _ h9 => h9) rfl (by decide +kernel) hg.1 hg.2 (Nat.le_of_ble_eq_true rfl) hd (fun H1 locs1 hP _ hS => kk H1 locs1 ⟨hP, hS⟩)
    | _ => cases hfv)) (rx_any_c (rx_hG_ok (fun w H locs pc ls rest hI hd k => va_get (D := D) (ci := 3) (C := RX3) (T := TX3) (N := 5) S.1 S.2.1 ht inX3 S.2.2.2.1 hK.1 hI.1 0 rfl rfl 4 (by decide) (ht _ wfX3_38) (fun _ h9 => h9) rfl hd k)) (rx_any_0)))))
set_option maxHeartbeats 4000000 in
set_option maxRecDepth 100000 in
theorem ct_X3_judge (l : Launch) (D : va_G) (ad : Nat → Nat) (cB : ClassId) (hj : cJ ad) : ctC l yX3_judge cX3_judge 1 (some .int) rX3_judge D ad cB [.ref (ad 0)] fX3_judge := by
  intro w as g w1 r hf hg
  unfold fX3_judge at hf
  split at hf
  · cases hf
    exact tr_of rx_nc 0 200 0 (by decide) rfl rfl (Nat.le_of_ble_eq_true rfl) pX3_judge_ok (rt_i _) (eo_X3_judge l D ad cB hj) (fun pc g h => by cases h) (by
      simp only [pX3_judge, eX3_judge, fX2_firstBroken, rx_n, rx_s, rx_to, rx_get, rx_f1, rx_f2, rx_two, rx_ext, rx_any, rx_hV, rx_hS, rx_hG, rx_hP, rx_hAi, rx_hAb, rx_hBb, rx_hBi, rx_hL, rx_hLi, rx_got, rx_pop, rx_sum, rx_len, rx_c, rx_m1, lv_args, Value.category, rx_cut_n, rx_cut_1, rx_iconst, rx_bipush, rx_sipush, rx_lconst, rx_iload_n, rx_iload, rx_lload_n, rx_lload, rx_aload_n, rx_aload, rx_istore_n, rx_istore, rx_lstore_n, rx_lstore, rx_astore_n, rx_astore, rx_iinc, rx_iadd, rx_isub, rx_imul, rx_iand, rx_ixor, rx_ishr, rx_idiv, rx_irem, rx_ladd, rx_lsub, rx_land, rx_lor, rx_lxor, rx_lmul, rx_ldiv, rx_lrem, rx_lushr, rx_lshl, rx_lshr, rx_lneg, rx_i2l, rx_l2i, rx_i2b, rx_lcmp, rx_dup_i, rx_dup_a, rx_pop_i, rx_pop_a, rx_if_eq, rx_if_ne, rx_if_lt, rx_if_ge, rx_if_gt, rx_if_le, rx_icmp_eq, rx_icmp_ne, rx_icmp_lt, rx_icmp_ge, rx_icmp_gt, rx_icmp_le, rx_goto, rx_tsw, rx_ireturn, rx_lreturn, rx_return_, rx_getfield, rx_putfield, rx_invokevirtual, rx_invokespecial, rx_invokestatic, rx_ldc, rx_ldc2_w, rx_iaload, rx_iastore, rx_baload, rx_bastore, Nat.reduceBEq, Nat.reduceAdd, Nat.reduceSub, Nat.reduceMul, Nat.reduceLeDiff, Nat.reduceEqDiff, Nat.reduceLT, Int.reduceLT, Int.reduceLE, Int.reduceNeg, Int.reduceToNat, Int.reduceAdd, Fin.isValue, Fin.val_zero, Fin.val_one, Fin.reduceFinMk, Fin.val_ofNat, Bool.or_true, Bool.true_or, Bool.or_false, Bool.false_or, Bool.and_true, Bool.true_and, Bool.and_false, Bool.false_and, cond_true, cond_false, ↓reduceIte, eq_self, ne_eq, not_true_eq_false, not_false_eq_true, true_and, and_true, Option.toList_some, Option.toList_none, List.cons_append, List.nil_append, Option.some.injEq, Value.int.injEq, Value.long.injEq, rx_l0, rx_l1, rx_fv0, rx_fv1, rx_fv2, rx_fv3, nI_c1, nI_c2, nI_c4, nI_c8, nI_c9, nI_c24, nI_c64, Nat.le_refl, bI_z, bI_0, bI_1, Classical.not_not, lg_cmp_ge, lg_cmp_le, lg_cmp_gt, lg_cmp_lt, lg_cmp_eq]
      exact ⟨rfl, rfl⟩)
  · cases hf
