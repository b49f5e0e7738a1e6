def pX4_clear : rx_P := [(0, .aload_n 0, 0), (1, .iconst 0, 0), (2, .putfield 21, 0), (5, .aload_n 0, 0), (6, .iconst 0, 0), (7, .putfield 43, 0), (10, .aload_n 0, 0), (11, .iconst 0, 0), (12, .putfield 140, 0), (15, .return_, 0)]
theorem pX4_clear_ok : ∀ q ∈ pX4_clear, rx_ok cX4_clear q := rx_ok_all (by decide +kernel)
abbrev rX4_clear : Room := { frames := 0, cells := 0, slots := 0, locals := 0 }
noncomputable def fX4_clear : rx_F mS := fun w as => match as with
  | [] => some (True, (bSz w.1 0, nI 0, w.2.2.1, nI 0, w.2.2.2.2), none)
  | _ => none
noncomputable def eX4_clear (am : Nat → Nat) : rx_E mS := rx_any [rx_hP 21 (am 0) (fun w v => match v with | .int z => some (True, (w.1, z, w.2.2)) | _ => none), rx_hP 43 (am 0) (fun w v => match v with | .int z => some (z.toNatClampNeg ≤ 640 ∧ nI z.toNatClampNeg = z, (bSz w.1 z.toNatClampNeg, w.2)) | _ => none), rx_hP 140 (am 0) (fun w v => match v with | .int z => some (narrow .boolean (.int z) = .int z ∧ fits .boolean (.int z) = true, (w.1, w.2.1, w.2.2.1, z, w.2.2.2.2)) | _ => none)]
set_option maxHeartbeats 4000000 in
set_option maxRecDepth 100000 in
theorem eo_X4_clear (l : Launch) (D : va_G) (am : Nat → Nat) (cI cZ : ClassId) (hj : mJ am) : ∀ (p : Program) (e : Env) (s : State) (m : MethodId) (args : Array Value) (below : List Frame) (meth : Method) (c : Code) (Qw : State → Prop), CallFix p m c cX4_clear 1 s args (Cond.code yX4_clear cX4_clear 1 none :: wsA) RX4 → mK D cI cZ s → rx_Eok (fun H locs g => W p l e rX4_clear s m args below meth c H locs 0 0 Qw g) m cX4_clear 1 (tr_I D vwCl (mA am) s (mW am cI cZ)) (eX4_clear am) := by
  intro p e s m args below meth c Qw S hK
  have ht : ∀ w ∈ wsA, w.before args s = true := fun w h => S.2.2.2.2 w (wsA_in h)
  exact rx_any_c (rx_hP_ok (fun w v g w1 H locs pc ls rest hfv hg hI hd kk => by
    cases v with
    | int z =>
      cases hfv
      exact va_put (D := D) (ci := 4) (ty := .int) (C := RX4) (T := TX4) (N := 7) S.1 S.2.1 ht inX4 tyX4 tyX4_ok nmX4 S.2.2.2.1 hK.1 hI.1 (mD hj cI cZ w) hI.2 0 rfl rfl 0 (by decide) (ht _ wfX4_21) (fun _ h9 => h9) rfl (by decide +kernel) rfl rfl (Nat.le_of_ble_eq_true rfl) hd (fun H1 locs1 hP _ hS => kk H1 locs1 ⟨hP, hS⟩)
    | _ => cases hfv)) (rx_any_c (rx_hP_ok (fun w v g w1 H locs pc ls rest hfv hg hI hd kk => by
    cases v with
    | int z =>
      cases hfv
      exact va_put (D := D) (ci := 4) (ty := .int) (C := RX4) (T := TX4) (N := 7) S.1 S.2.1 ht inX4 tyX4 tyX4_ok nmX4 S.2.2.2.1 hK.1 hI.1 (mD hj cI cZ w) hI.2 0 rfl rfl 1 (by decide) (ht _ wfX4_43) (fun _ h9 => h9) rfl (by decide +kernel) rfl rfl (Nat.le_of_ble_eq_true rfl) hd (fun H1 locs1 hP _ hS => kk H1 locs1 ⟨by rw [mW_sz hg.1 hg.2]; exact hP, hS⟩)
    | _ => cases hfv)) (rx_any_c (rx_hP_ok (fun w v g w1 H locs pc ls rest hfv hg hI hd kk => by
    cases v with
    | int z =>
      cases hfv
      exact va_put (D := D) (ci := 4) (ty := .boolean) (C := RX4) (T := TX4) (N := 7) S.1 S.2.1 ht inX4 tyX4 tyX4_ok nmX4 S.2.2.2.1 hK.1 hI.1 (mD hj cI cZ w) hI.2 0 rfl rfl 4 (by decide) (ht _ wfX4_140) (fun _ h9 => h9) rfl (by decide +kernel) hg.1 hg.2 (Nat.le_of_ble_eq_true rfl) hd (fun H1 locs1 hP _ hS => kk H1 locs1 ⟨hP, hS⟩)
    | _ => cases hfv)) (rx_any_0)))
set_option maxHeartbeats 4000000 in
set_option maxRecDepth 100000 in
theorem ct_X4_clear (l : Launch) (D : va_G) (am : Nat → Nat) (cI cZ : ClassId) (hj : mJ am) : ctM l yX4_clear cX4_clear 1 none rX4_clear D am cI cZ [.ref (am 0)] fX4_clear := by
  intro w as g w1 r hf hg
  unfold fX4_clear at hf
  split at hf
  · cases hf
    exact tr_of rx_nc 0 200 0 (by decide) rfl rfl (Nat.le_of_ble_eq_true rfl) pX4_clear_ok (rt_v) (eo_X4_clear l D am cI cZ hj) (fun pc g h => by cases h) (by
      simp only [pX4_clear, eX4_clear, rx_n, rx_s, rx_to, rx_get, rx_f1, rx_f2, rx_two, rx_ext, rx_any, rx_hV, rx_hS, rx_hG, rx_hP, rx_hAi, rx_hAb, rx_hBb, rx_hBi, rx_hBp, rx_hL, rx_hLi, rx_got, rx_pop, rx_sum, rx_len, rx_c, rx_m1, lv_args, Value.category, rx_cut_n, rx_cut_m0, rx_cut_m1, rx_iconst, rx_bipush, rx_sipush, rx_lconst, rx_iload_n, rx_iload, rx_lload_n, rx_lload, rx_aload_n, rx_aload, rx_istore_n, rx_istore, rx_lstore_n, rx_lstore, rx_astore_n, rx_astore, rx_iinc, rx_iadd, rx_isub, rx_imul, rx_iand, rx_ixor, rx_ishr, rx_idiv, rx_irem, rx_ladd, rx_lsub, rx_land, rx_lor, rx_lxor, rx_lmul, rx_ldiv, rx_lrem, rx_lushr, rx_lshl, rx_lshr, rx_lneg, rx_i2l, rx_l2i, rx_i2b, rx_lcmp, rx_dup_i, rx_dup_a, rx_pop_i, rx_pop_a, rx_if_eq, rx_if_ne, rx_if_lt, rx_if_ge, rx_if_gt, rx_if_le, rx_icmp_eq, rx_icmp_ne, rx_icmp_lt, rx_icmp_ge, rx_icmp_gt, rx_icmp_le, rx_goto, rx_tsw, rx_ireturn, rx_lreturn, rx_return_, rx_getfield, rx_putfield, rx_invokevirtual, rx_invokespecial, rx_invokestatic, rx_ldc, rx_ldc2_w, rx_iaload, rx_iastore, rx_baload, rx_bastore, Nat.reduceBEq, Nat.reduceAdd, Nat.reduceSub, Nat.reduceMul, Nat.reduceLeDiff, Nat.reduceEqDiff, Nat.reduceLT, Int.reduceLT, Int.reduceLE, Int.reduceNeg, Int.reduceToNat, Int.reduceAdd, Fin.isValue, Fin.val_zero, Fin.val_one, Fin.reduceFinMk, Fin.val_ofNat, Bool.or_true, Bool.true_or, Bool.or_false, Bool.false_or, Bool.and_true, Bool.true_and, Bool.and_false, Bool.false_and, cond_true, cond_false, ↓reduceIte, eq_self, ne_eq, not_true_eq_false, not_false_eq_true, true_and, and_true, Option.toList_some, Option.toList_none, List.cons_append, List.nil_append, Option.some.injEq, Value.int.injEq, Value.long.injEq, rx_l0, rx_l1, rx_fv0, rx_fv1, rx_fv2, rx_fv3, nI_c1, nI_c2, nI_c4, nI_c8, nI_c9, nI_c24, nI_c64, Nat.le_refl, bI_z, bI_0, bI_1, Classical.not_not, lg_cmp_ge, lg_cmp_le, lg_cmp_gt, lg_cmp_lt, lg_cmp_eq]
      rw [nI_c0]
      exact ⟨⟨by decide, rfl⟩, ⟨rfl, rfl⟩, rfl⟩)
  · cases hf
def pX4_broken : rx_P := [(0, .aload_n 0, 0), (1, .aload_n 0, 0), (2, .getfield 140, 0), (5, .ifCond .eq 7, 12), (8, .iconst 0, 0), (9, .goto 4, 13), (12, .iconst 1, 0), (13, .putfield 21, 0), (16, .aload_n 0, 0), (17, .getfield 21, 0), (20, .ifCond .le 7, 27), (23, .iconst 0, 0), (24, .goto 7, 31), (27, .aload_n 0, 0), (28, .getfield 17, 0), (31, .ireturn, 0)]
theorem pX4_broken_ok : ∀ q ∈ pX4_broken, rx_ok cX4_broken q := rx_ok_all (by decide +kernel)
abbrev rX4_broken : Room := { frames := 0, cells := 0, slots := 0, locals := 0 }
noncomputable def fX4_broken : rx_F mS := fun w as => match as with
  | [] => some (True, (w.1, nI (cif (w.2.2.2.1 = 0) 1 0), w.2.2), some (.int (cif (w.2.2.2.1 = 0) (nI 0) w.2.2.2.2.2)))
  | _ => none
noncomputable def eX4_broken (am : Nat → Nat) : rx_E mS := rx_any [rx_hG 140 (am 0) (fun w => .int w.2.2.2.1), rx_hP 21 (am 0) (fun w v => match v with | .int z => some (True, (w.1, z, w.2.2)) | _ => none), rx_hG 21 (am 0) (fun w => .int w.2.1), rx_hG 17 (am 0) (fun w => .int w.2.2.2.2.2)]
set_option maxHeartbeats 4000000 in
set_option maxRecDepth 100000 in
theorem eo_X4_broken (l : Launch) (D : va_G) (am : Nat → Nat) (cI cZ : ClassId) (hj : mJ am) : ∀ (p : Program) (e : Env) (s : State) (m : MethodId) (args : Array Value) (below : List Frame) (meth : Method) (c : Code) (Qw : State → Prop), CallFix p m c cX4_broken 1 s args (Cond.code yX4_broken cX4_broken 1 (some .int) :: wsA) RX4 → mK D cI cZ s → rx_Eok (fun H locs g => W p l e rX4_broken s m args below meth c H locs 0 0 Qw g) m cX4_broken 1 (tr_I D vwCl (mA am) s (mW am cI cZ)) (eX4_broken am) := by
  intro p e s m args below meth c Qw S hK
  have ht : ∀ w ∈ wsA, w.before args s = true := fun w h => S.2.2.2.2 w (wsA_in h)
  exact rx_any_c (rx_hG_ok (fun w H locs pc ls rest hI hd k => va_get (D := D) (ci := 4) (C := RX4) (T := TX4) (N := 7) S.1 S.2.1 ht inX4 S.2.2.2.1 hK.1 hI.1 0 rfl rfl 4 (by decide) (ht _ wfX4_140) (fun _ h9 => h9) rfl hd k)) (rx_any_c (rx_hP_ok (fun w v g w1 H locs pc ls rest hfv hg hI hd kk => by
    cases v with
    | int z =>
      cases hfv
      exact va_put (D := D) (ci := 4) (ty := .int) (C := RX4) (T := TX4) (N := 7) S.1 S.2.1 ht inX4 tyX4 tyX4_ok nmX4 S.2.2.2.1 hK.1 hI.1 (mD hj cI cZ w) hI.2 0 rfl rfl 0 (by decide) (ht _ wfX4_21) (fun _ h9 => h9) rfl (by decide +kernel) rfl rfl (Nat.le_of_ble_eq_true rfl) hd (fun H1 locs1 hP _ hS => kk H1 locs1 ⟨hP, hS⟩)
    | _ => cases hfv)) (rx_any_c (rx_hG_ok (fun w H locs pc ls rest hI hd k => va_get (D := D) (ci := 4) (C := RX4) (T := TX4) (N := 7) S.1 S.2.1 ht inX4 S.2.2.2.1 hK.1 hI.1 0 rfl rfl 0 (by decide) (ht _ wfX4_21) (fun _ h9 => h9) rfl hd k)) (rx_any_c (rx_hG_ok (fun w H locs pc ls rest hI hd k => va_get (D := D) (ci := 4) (C := RX4) (T := TX4) (N := 7) S.1 S.2.1 ht inX4 S.2.2.2.1 hK.1 hI.1 0 rfl rfl 6 (by decide) (ht _ wfX4_17) (fun _ h9 => h9) rfl hd k)) (rx_any_0))))
set_option maxHeartbeats 4000000 in
set_option maxRecDepth 100000 in
theorem ct_X4_broken (l : Launch) (D : va_G) (am : Nat → Nat) (cI cZ : ClassId) (hj : mJ am) : ctM l yX4_broken cX4_broken 1 (some .int) rX4_broken D am cI cZ [.ref (am 0)] fX4_broken := by
  intro w as g w1 r hf hg
  unfold fX4_broken at hf
  split at hf
  · cases hf
    exact tr_of rx_nc 0 200 0 (by decide) rfl rfl (Nat.le_of_ble_eq_true rfl) pX4_broken_ok (rt_i _) (eo_X4_broken l D am cI cZ hj) (fun pc g h => by cases h) (by
      simp only [pX4_broken, eX4_broken, rx_n, rx_s, rx_to, rx_get, rx_f1, rx_f2, rx_two, rx_ext, rx_any, rx_hV, rx_hS, rx_hG, rx_hP, rx_hAi, rx_hAb, rx_hBb, rx_hBi, rx_hBp, rx_hL, rx_hLi, rx_got, rx_pop, rx_sum, rx_len, rx_c, rx_m1, lv_args, Value.category, rx_cut_n, rx_cut_m0, rx_cut_m1, rx_iconst, rx_bipush, rx_sipush, rx_lconst, rx_iload_n, rx_iload, rx_lload_n, rx_lload, rx_aload_n, rx_aload, rx_istore_n, rx_istore, rx_lstore_n, rx_lstore, rx_astore_n, rx_astore, rx_iinc, rx_iadd, rx_isub, rx_imul, rx_iand, rx_ixor, rx_ishr, rx_idiv, rx_irem, rx_ladd, rx_lsub, rx_land, rx_lor, rx_lxor, rx_lmul, rx_ldiv, rx_lrem, rx_lushr, rx_lshl, rx_lshr, rx_lneg, rx_i2l, rx_l2i, rx_i2b, rx_lcmp, rx_dup_i, rx_dup_a, rx_pop_i, rx_pop_a, rx_if_eq, rx_if_ne, rx_if_lt, rx_if_ge, rx_if_gt, rx_if_le, rx_icmp_eq, rx_icmp_ne, rx_icmp_lt, rx_icmp_ge, rx_icmp_gt, rx_icmp_le, rx_goto, rx_tsw, rx_ireturn, rx_lreturn, rx_return_, rx_getfield, rx_putfield, rx_invokevirtual, rx_invokespecial, rx_invokestatic, rx_ldc, rx_ldc2_w, rx_iaload, rx_iastore, rx_baload, rx_bastore, Nat.reduceBEq, Nat.reduceAdd, Nat.reduceSub, Nat.reduceMul, Nat.reduceLeDiff, Nat.reduceEqDiff, Nat.reduceLT, Int.reduceLT, Int.reduceLE, Int.reduceNeg, Int.reduceToNat, Int.reduceAdd, Fin.isValue, Fin.val_zero, Fin.val_one, Fin.reduceFinMk, Fin.val_ofNat, Bool.or_true, Bool.true_or, Bool.or_false, Bool.false_or, Bool.and_true, Bool.true_and, Bool.and_false, Bool.false_and, cond_true, cond_false, ↓reduceIte, eq_self, ne_eq, not_true_eq_false, not_false_eq_true, true_and, and_true, Option.toList_some, Option.toList_none, List.cons_append, List.nil_append, Option.some.injEq, Value.int.injEq, Value.long.injEq, rx_l0, rx_l1, rx_fv0, rx_fv1, rx_fv2, rx_fv3, nI_c1, nI_c2, nI_c4, nI_c8, nI_c9, nI_c24, nI_c64, Nat.le_refl, bI_z, bI_0, bI_1, Classical.not_not, lg_cmp_ge, lg_cmp_le, lg_cmp_gt, lg_cmp_lt, lg_cmp_eq]
      simp only [le10, le20, le30, le00, mG_eq, false_implies, true_implies, not_false_eq_true, not_true_eq_false, true_and, and_true, Classical.not_not]
      by_cases h : w.2.2.2.1 = 0
      · simp [cif, h]
      · simp [cif, h])
  · cases hf
def pX4_many : rx_P := [(0, .aload_n 0, 0), (1, .iload_n 1, 0), (2, .ldc2_w 65, 0), (5, .invokestatic 169, 0), (8, .ifCond .eq 7, 15), (11, .iconst 1, 0), (12, .goto 15, 27), (15, .aload_n 0, 0), (16, .invokevirtual 172, 0), (19, .ifCond .eq 7, 26), (22, .iconst 0, 0), (23, .goto 4, 27), (26, .iconst 2, 0), (27, .putfield 21, 0), (30, .aload_n 0, 0), (31, .getfield 21, 0), (34, .ifCond .le 5, 39), (37, .iconst 0, 0), (38, .ireturn, 0), (39, .iload_n 1, 0), (40, .ifCond .ne 10, 50), (43, .aload_n 0, 0), (44, .invokevirtual 83, 0), (47, .goto 7, 54), (50, .aload_n 0, 0), (51, .invokevirtual 59, 0), (54, .ireturn, 0)]
theorem pX4_many_ok : ∀ q ∈ pX4_many, rx_ok cX4_many q := rx_ok_all (by decide +kernel)
abbrev rX4_many : Room := { frames := 2, cells := 0, slots := 0, locals := 41 }
noncomputable def fX4_many : rx_F mS := fun w as => match as with
  | [.int x] => some (True, (w.1, nI (cMany (mG w) x), w.2.2), some (.int (cif (cMany (mG w) x = 0) (cif (x = 0) (nI (gC w.1)) (nI (sC w.1))) (nI 0))))
  | _ => none
noncomputable def eX4_many (am : Nat → Nat) : rx_E mS := rx_any [rx_hL 65 (lN 2), rx_hS 169 2 fX4_out, rx_hV 172 0 (am 0) fX4_good, rx_hP 21 (am 0) (fun w v => match v with | .int z => some (True, (w.1, z, w.2.2)) | _ => none), rx_hG 21 (am 0) (fun w => .int w.2.1), rx_hV 83 0 (am 0) fX4_segmentCount, rx_hV 59 0 (am 0) fX4_sectionCount]
set_option maxHeartbeats 4000000 in
set_option maxRecDepth 100000 in
theorem eo_X4_many (l : Launch) (D : va_G) (am : Nat → Nat) (cI cZ : ClassId) (hj : mJ am) : ∀ (p : Program) (e : Env) (s : State) (m : MethodId) (args : Array Value) (below : List Frame) (meth : Method) (c : Code) (Qw : State → Prop), CallFix p m c cX4_many 2 s args (Cond.code yX4_many cX4_many 2 (some .int) :: wsA) RX4 → mK D cI cZ s → rx_Eok (fun H locs g => W p l e rX4_many s m args below meth c H locs 0 0 Qw g) m cX4_many 2 (tr_I D vwCl (mA am) s (mW am cI cZ)) (eX4_many am) := by
  intro p e s m args below meth c Qw S hK
  have ht : ∀ w ∈ wsA, w.before args s = true := fun w h => S.2.2.2.2 w (wsA_in h)
  exact rx_any_c (rx_hL_ok S (ht _ wcX4_65)) (rx_any_c (rx_hS_ok S ⟨Nat.zero_le _, Nat.zero_le _⟩ mK_tr hK (va_cwS 2 S.2.2.2.2 (wsA_S wkX4_169 wsX4_out winiX4 wX4_out) rfl rfl rfl (by decide +kernel) ⟨by decide, by decide⟩) (ct_X4_out l D am cI cZ)) (rx_any_c (rx_hV_ok S ⟨Nat.zero_le _, Nat.zero_le _⟩ mK_tr hK (cwV 0 S.2.2.2.2 (wsA_V wkX4_172 wiX4_good weX4_good winiX4 wX4_good) rfl rfl rfl (by decide +kernel) ⟨by decide, by decide⟩) (ct_X4_good l D am cI cZ) (fun w H hP => va_recv hK.1 hP (rfl : vwCl[4]? = some (RX4, TX4, 7)) (rfl : (mW am cI cZ w)[0]? = some _))) (rx_any_c (rx_hP_ok (fun w v g w1 H locs pc ls rest hfv hg hI hd kk => by
    cases v with
    | int z =>
      cases hfv
      exact va_put (D := D) (ci := 4) (ty := .int) (C := RX4) (T := TX4) (N := 7) S.1 S.2.1 ht inX4 tyX4 tyX4_ok nmX4 S.2.2.2.1 hK.1 hI.1 (mD hj cI cZ w) hI.2 0 rfl rfl 0 (by decide) (ht _ wfX4_21) (fun _ h9 => h9) rfl (by decide +kernel) rfl rfl (Nat.le_of_ble_eq_true rfl) hd (fun H1 locs1 hP _ hS => kk H1 locs1 ⟨hP, hS⟩)
    | _ => cases hfv)) (rx_any_c (rx_hG_ok (fun w H locs pc ls rest hI hd k => va_get (D := D) (ci := 4) (C := RX4) (T := TX4) (N := 7) S.1 S.2.1 ht inX4 S.2.2.2.1 hK.1 hI.1 0 rfl rfl 0 (by decide) (ht _ wfX4_21) (fun _ h9 => h9) rfl hd k)) (rx_any_c (rx_hV_ok S ⟨Nat.zero_le _, Nat.zero_le _⟩ mK_tr hK (cwV 0 S.2.2.2.2 (wsA_V wkX4_83 wiX4_segmentCount weX4_segmentCount winiX4 wX4_segmentCount) rfl rfl rfl (by decide +kernel) ⟨by decide, by decide⟩) (ct_X4_segmentCount l D am cI cZ) (fun w H hP => va_recv hK.1 hP (rfl : vwCl[4]? = some (RX4, TX4, 7)) (rfl : (mW am cI cZ w)[0]? = some _))) (rx_any_c (rx_hV_ok S ⟨Nat.zero_le _, Nat.zero_le _⟩ mK_tr hK (cwV 0 S.2.2.2.2 (wsA_V wkX4_59 wiX4_sectionCount weX4_sectionCount winiX4 wX4_sectionCount) rfl rfl rfl (by decide +kernel) ⟨by decide, by decide⟩) (ct_X4_sectionCount l D am cI cZ) (fun w H hP => va_recv hK.1 hP (rfl : vwCl[4]? = some (RX4, TX4, 7)) (rfl : (mW am cI cZ w)[0]? = some _))) (rx_any_0)))))))
set_option maxHeartbeats 4000000 in
set_option maxRecDepth 100000 in
theorem ct_X4_many (l : Launch) (D : va_G) (am : Nat → Nat) (cI cZ : ClassId) (hj : mJ am) : ctM l yX4_many cX4_many 2 (some .int) rX4_many D am cI cZ [.ref (am 0)] fX4_many := by
  intro w as g w1 r hf hg
  unfold fX4_many at hf
  split at hf
  · next x =>
    cases hf
    exact tr_of rx_nc 0 200 0 (by decide) rfl rfl (Nat.le_of_ble_eq_true rfl) pX4_many_ok (rt_i _) (eo_X4_many l D am cI cZ hj) (fun pc g h => by cases h) (by
      simp only [pX4_many, eX4_many, fX4_good, fX4_out, fX4_sectionCount, fX4_segmentCount, rx_n, rx_s, rx_to, rx_get, rx_f1, rx_f2, rx_two, rx_ext, rx_any, rx_hV, rx_hS, rx_hG, rx_hP, rx_hAi, rx_hAb, rx_hBb, rx_hBi, rx_hBp, rx_hL, rx_hLi, rx_got, rx_pop, rx_sum, rx_len, rx_c, rx_m1, lv_args, Value.category, rx_cut_n, rx_cut_m0, rx_cut_m1, rx_iconst, rx_bipush, rx_sipush, rx_lconst, rx_iload_n, rx_iload, rx_lload_n, rx_lload, rx_aload_n, rx_aload, rx_istore_n, rx_istore, rx_lstore_n, rx_lstore, rx_astore_n, rx_astore, rx_iinc, rx_iadd, rx_isub, rx_imul, rx_iand, rx_ixor, rx_ishr, rx_idiv, rx_irem, rx_ladd, rx_lsub, rx_land, rx_lor, rx_lxor, rx_lmul, rx_ldiv, rx_lrem, rx_lushr, rx_lshl, rx_lshr, rx_lneg, rx_i2l, rx_l2i, rx_i2b, rx_lcmp, rx_dup_i, rx_dup_a, rx_pop_i, rx_pop_a, rx_if_eq, rx_if_ne, rx_if_lt, rx_if_ge, rx_if_gt, rx_if_le, rx_icmp_eq, rx_icmp_ne, rx_icmp_lt, rx_icmp_ge, rx_icmp_gt, rx_icmp_le, rx_goto, rx_tsw, rx_ireturn, rx_lreturn, rx_return_, rx_getfield, rx_putfield, rx_invokevirtual, rx_invokespecial, rx_invokestatic, rx_ldc, rx_ldc2_w, rx_iaload, rx_iastore, rx_baload, rx_bastore, Nat.reduceBEq, Nat.reduceAdd, Nat.reduceSub, Nat.reduceMul, Nat.reduceLeDiff, Nat.reduceEqDiff, Nat.reduceLT, Int.reduceLT, Int.reduceLE, Int.reduceNeg, Int.reduceToNat, Int.reduceAdd, Fin.isValue, Fin.val_zero, Fin.val_one, Fin.reduceFinMk, Fin.val_ofNat, Bool.or_true, Bool.true_or, Bool.or_false, Bool.false_or, Bool.and_true, Bool.true_and, Bool.and_false, Bool.false_and, cond_true, cond_false, ↓reduceIte, eq_self, ne_eq, not_true_eq_false, not_false_eq_true, true_and, and_true, Option.toList_some, Option.toList_none, List.cons_append, List.nil_append, Option.some.injEq, Value.int.injEq, Value.long.injEq, rx_l0, rx_l1, rx_fv0, rx_fv1, rx_fv2, rx_fv3, nI_c1, nI_c2, nI_c4, nI_c8, nI_c9, nI_c24, nI_c64, Nat.le_refl, bI_z, bI_0, bI_1, Classical.not_not, lg_cmp_ge, lg_cmp_le, lg_cmp_gt, lg_cmp_lt, lg_cmp_eq]
      simp (disch := omega) only [out_iff]
      simp only [le10, le20, le30, le00, mG_eq, false_implies, true_implies, not_false_eq_true, not_true_eq_false, true_and, and_true, Classical.not_not]
      refine ⟨fun a => ⟨fun b => ?_, fun b => ⟨fun c => ?_, fun c => ?_⟩⟩, fun a => ?_⟩
      · have ec : cMany (mG w) x = 2 := by unfold cMany; rw [cif_t a, cif_f b]
        rw [ec, cif_f (by decide)]
        exact ⟨rfl, rfl⟩
      · have ec : cMany (mG w) x = 0 := by unfold cMany; rw [cif_t a, cif_t b]
        rw [ec, cif_t rfl, cif_f c]
        exact ⟨rfl, rfl⟩
      · have ec : cMany (mG w) x = 0 := by unfold cMany; rw [cif_t a, cif_t b]
        rw [ec, cif_t rfl, cif_t c]
        exact ⟨rfl, rfl⟩
      · have ec : cMany (mG w) x = 1 := by unfold cMany; rw [cif_f a]
        rw [ec, cif_f (by decide)]
        exact ⟨rfl, rfl⟩)
  · cases hf
def pX4_symbols : rx_P := [(0, .aload_n 0, 0), (1, .aload_n 0, 0), (2, .invokevirtual 172, 0), (5, .ifCond .ne 7, 12), (8, .iconst 1, 0), (9, .goto 20, 29), (12, .iload_n 1, 0), (13, .aload_n 0, 0), (14, .invokevirtual 59, 0), (17, .i2l, 0), (18, .invokestatic 169, 0), (21, .ifCond .eq 7, 28), (24, .iconst 2, 0), (25, .goto 4, 29), (28, .iconst 0, 0), (29, .putfield 21, 0), (32, .aload_n 0, 0), (33, .getfield 21, 0), (36, .ifCond .le 7, 43), (39, .iconst 0, 0), (40, .goto 8, 48), (43, .aload_n 0, 0), (44, .iload_n 1, 0), (45, .invokevirtual 134, 0), (48, .ireturn, 0)]
theorem pX4_symbols_ok : ∀ q ∈ pX4_symbols, rx_ok cX4_symbols q := rx_ok_all (by decide +kernel)
abbrev rX4_symbols : Room := { frames := 6, cells := 0, slots := 0, locals := 126 }
noncomputable def fX4_symbols : rx_F mS := fun w as => match as with
  | [.int k] => some (mG w → gd w.1, (w.1, nI (cSyms (mG w) w.1 k), w.2.2), some (.int (cif (cSyms (mG w) w.1 k = 0) (nI (cO w.1 k.toNatClampNeg)) (nI 0))))
  | _ => none
noncomputable def eX4_symbols (am : Nat → Nat) : rx_E mS := rx_any [rx_hV 172 0 (am 0) fX4_good, rx_hV 59 0 (am 0) fX4_sectionCount, rx_hS 169 2 fX4_out, rx_hP 21 (am 0) (fun w v => match v with | .int z => some (True, (w.1, z, w.2.2)) | _ => none), rx_hG 21 (am 0) (fun w => .int w.2.1), rx_hV 134 1 (am 0) fX4_countOf]
set_option maxHeartbeats 4000000 in
set_option maxRecDepth 100000 in
theorem eo_X4_symbols (l : Launch) (D : va_G) (am : Nat → Nat) (cI cZ : ClassId) (hj : mJ am) : ∀ (p : Program) (e : Env) (s : State) (m : MethodId) (args : Array Value) (below : List Frame) (meth : Method) (c : Code) (Qw : State → Prop), CallFix p m c cX4_symbols 2 s args (Cond.code yX4_symbols cX4_symbols 2 (some .int) :: wsA) RX4 → mK D cI cZ s → rx_Eok (fun H locs g => W p l e rX4_symbols s m args below meth c H locs 0 0 Qw g) m cX4_symbols 2 (tr_I D vwCl (mA am) s (mW am cI cZ)) (eX4_symbols am) := by
  intro p e s m args below meth c Qw S hK
  have ht : ∀ w ∈ wsA, w.before args s = true := fun w h => S.2.2.2.2 w (wsA_in h)
  exact rx_any_c (rx_hV_ok S ⟨Nat.zero_le _, Nat.zero_le _⟩ mK_tr hK (cwV 0 S.2.2.2.2 (wsA_V wkX4_172 wiX4_good weX4_good winiX4 wX4_good) rfl rfl rfl (by decide +kernel) ⟨by decide, by decide⟩) (ct_X4_good l D am cI cZ) (fun w H hP => va_recv hK.1 hP (rfl : vwCl[4]? = some (RX4, TX4, 7)) (rfl : (mW am cI cZ w)[0]? = some _))) (rx_any_c (rx_hV_ok S ⟨Nat.zero_le _, Nat.zero_le _⟩ mK_tr hK (cwV 0 S.2.2.2.2 (wsA_V wkX4_59 wiX4_sectionCount weX4_sectionCount winiX4 wX4_sectionCount) rfl rfl rfl (by decide +kernel) ⟨by decide, by decide⟩) (ct_X4_sectionCount l D am cI cZ) (fun w H hP => va_recv hK.1 hP (rfl : vwCl[4]? = some (RX4, TX4, 7)) (rfl : (mW am cI cZ w)[0]? = some _))) (rx_any_c (rx_hS_ok S ⟨Nat.zero_le _, Nat.zero_le _⟩ mK_tr hK (va_cwS 2 S.2.2.2.2 (wsA_S wkX4_169 wsX4_out winiX4 wX4_out) rfl rfl rfl (by decide +kernel) ⟨by decide, by decide⟩) (ct_X4_out l D am cI cZ)) (rx_any_c (rx_hP_ok (fun w v g w1 H locs pc ls rest hfv hg hI hd kk => by
    cases v with
    | int z =>
      cases hfv
      exact va_put (D := D) (ci := 4) (ty := .int) (C := RX4) (T := TX4) (N := 7) S.1 S.2.1 ht inX4 tyX4 tyX4_ok nmX4 S.2.2.2.1 hK.1 hI.1 (mD hj cI cZ w) hI.2 0 rfl rfl 0 (by decide) (ht _ wfX4_21) (fun _ h9 => h9) rfl (by decide +kernel) rfl rfl (Nat.le_of_ble_eq_true rfl) hd (fun H1 locs1 hP _ hS => kk H1 locs1 ⟨hP, hS⟩)
    | _ => cases hfv)) (rx_any_c (rx_hG_ok (fun w H locs pc ls rest hI hd k => va_get (D := D) (ci := 4) (C := RX4) (T := TX4) (N := 7) S.1 S.2.1 ht inX4 S.2.2.2.1 hK.1 hI.1 0 rfl rfl 0 (by decide) (ht _ wfX4_21) (fun _ h9 => h9) rfl hd k)) (rx_any_c (rx_hV_ok S ⟨Nat.zero_le _, Nat.zero_le _⟩ mK_tr hK (cwV 1 S.2.2.2.2 (wsA_V wkX4_134 wiX4_countOf weX4_countOf winiX4 wX4_countOf) rfl rfl rfl (by decide +kernel) ⟨by decide, by decide⟩) (ct_X4_countOf l D am cI cZ) (fun w H hP => va_recv hK.1 hP (rfl : vwCl[4]? = some (RX4, TX4, 7)) (rfl : (mW am cI cZ w)[0]? = some _))) (rx_any_0))))))
set_option maxHeartbeats 4000000 in
set_option maxRecDepth 100000 in
theorem ct_X4_symbols (l : Launch) (D : va_G) (am : Nat → Nat) (cI cZ : ClassId) (hj : mJ am) : ctM l yX4_symbols cX4_symbols 2 (some .int) rX4_symbols D am cI cZ [.ref (am 0)] fX4_symbols := by
  intro w as g w1 r hf hg
  unfold fX4_symbols at hf
  split at hf
  · next k =>
    cases hf
    exact tr_of rx_nc 0 200 0 (by decide) rfl rfl (Nat.le_of_ble_eq_true rfl) pX4_symbols_ok (rt_i _) (eo_X4_symbols l D am cI cZ hj) (fun pc g h => by cases h) (by
      simp only [pX4_symbols, eX4_symbols, fX4_countOf, fX4_good, fX4_out, fX4_sectionCount, rx_n, rx_s, rx_to, rx_get, rx_f1, rx_f2, rx_two, rx_ext, rx_any, rx_hV, rx_hS, rx_hG, rx_hP, rx_hAi, rx_hAb, rx_hBb, rx_hBi, rx_hBp, rx_hL, rx_hLi, rx_got, rx_pop, rx_sum, rx_len, rx_c, rx_m1, lv_args, Value.category, rx_cut_n, rx_cut_m0, rx_cut_m1, rx_iconst, rx_bipush, rx_sipush, rx_lconst, rx_iload_n, rx_iload, rx_lload_n, rx_lload, rx_aload_n, rx_aload, rx_istore_n, rx_istore, rx_lstore_n, rx_lstore, rx_astore_n, rx_astore, rx_iinc, rx_iadd, rx_isub, rx_imul, rx_iand, rx_ixor, rx_ishr, rx_idiv, rx_irem, rx_ladd, rx_lsub, rx_land, rx_lor, rx_lxor, rx_lmul, rx_ldiv, rx_lrem, rx_lushr, rx_lshl, rx_lshr, rx_lneg, rx_i2l, rx_l2i, rx_i2b, rx_lcmp, rx_dup_i, rx_dup_a, rx_pop_i, rx_pop_a, rx_if_eq, rx_if_ne, rx_if_lt, rx_if_ge, rx_if_gt, rx_if_le, rx_icmp_eq, rx_icmp_ne, rx_icmp_lt, rx_icmp_ge, rx_icmp_gt, rx_icmp_le, rx_goto, rx_tsw, rx_ireturn, rx_lreturn, rx_return_, rx_getfield, rx_putfield, rx_invokevirtual, rx_invokespecial, rx_invokestatic, rx_ldc, rx_ldc2_w, rx_iaload, rx_iastore, rx_baload, rx_bastore, Nat.reduceBEq, Nat.reduceAdd, Nat.reduceSub, Nat.reduceMul, Nat.reduceLeDiff, Nat.reduceEqDiff, Nat.reduceLT, Int.reduceLT, Int.reduceLE, Int.reduceNeg, Int.reduceToNat, Int.reduceAdd, Fin.isValue, Fin.val_zero, Fin.val_one, Fin.reduceFinMk, Fin.val_ofNat, Bool.or_true, Bool.true_or, Bool.or_false, Bool.false_or, Bool.and_true, Bool.true_and, Bool.and_false, Bool.false_and, cond_true, cond_false, ↓reduceIte, eq_self, ne_eq, not_true_eq_false, not_false_eq_true, true_and, and_true, Option.toList_some, Option.toList_none, List.cons_append, List.nil_append, Option.some.injEq, Value.int.injEq, Value.long.injEq, rx_l0, rx_l1, rx_fv0, rx_fv1, rx_fv2, rx_fv3, nI_c1, nI_c2, nI_c4, nI_c8, nI_c9, nI_c24, nI_c64, Nat.le_refl, bI_z, bI_0, bI_1, Classical.not_not, lg_cmp_ge, lg_cmp_le, lg_cmp_gt, lg_cmp_lt, lg_cmp_eq]
      have hc := sC_lt w.1
      simp (disch := omega) only [nI_l, out_iff]
      simp only [le10, le20, le30, le00, mG_eq, false_implies, true_implies, not_false_eq_true, not_true_eq_false, true_and, and_true, Classical.not_not]
      refine ⟨fun a => ⟨fun b => ?_, fun b => ?_⟩, fun a => ?_⟩
      · obtain ⟨j, h1, rfl, e⟩ := vp_ex b (by omega)
        have ec : cSyms (mG w) w.1 (nI j) = 0 := by unfold cSyms; rw [cif_t a, cif_t b]
        rw [ec, cif_t rfl, e]
        exact ⟨⟨(gd_t12 (hg a)).1, rfl, h1⟩, rfl, rfl⟩
      · have ec : cSyms (mG w) w.1 k = 2 := by unfold cSyms; rw [cif_t a, cif_f b]
        rw [ec, cif_f (by decide)]
        exact ⟨rfl, rfl⟩
      · have ec : cSyms (mG w) w.1 k = 1 := by unfold cSyms; rw [cif_f a]
        rw [ec, cif_f (by decide)]
        exact ⟨rfl, rfl⟩)
  · cases hf
def pX4_find : rx_P := [(0, .aload_n 0, 0), (1, .aload_n 0, 0), (2, .invokevirtual 172, 0), (5, .ifCond .eq 7, 12), (8, .iconst 0, 0), (9, .goto 4, 13), (12, .iconst 1, 0), (13, .putfield 21, 0), (16, .aload_n 0, 0), (17, .getfield 21, 0), (20, .ifCond .le 7, 27), (23, .iconst 0, 0), (24, .goto 21, 45), (27, .aload_n 0, 0), (28, .lload_n 1, 0), (29, .bipush 32, 0), (31, .lshr, 0), (32, .ldc2_w 188, 0), (35, .land, 0), (36, .lload_n 1, 0), (37, .ldc2_w 188, 0), (40, .land, 0), (41, .iconst 0, 0), (42, .invokevirtual 163, 0), (45, .ireturn, 0)]
theorem pX4_find_ok : ∀ q ∈ pX4_find, rx_ok cX4_find q := rx_ok_all (by decide +kernel)
abbrev rX4_find : Room := { frames := 4, cells := 0, slots := 0, locals := 95 }
noncomputable def fX4_find : rx_F mS := fun w as => match as with
  | [.long x] => some (mG w → gd w.1, (w.1, nI (cif (mG w) 0 1), w.2.2), some (.int (cif (mG w) (oI (fun k => gL w.1 k ∧ gI w.1 (uN x) k) (gC w.1)) (nI 0))))
  | _ => none
noncomputable def eX4_find (am : Nat → Nat) : rx_E mS := rx_any [rx_hV 172 0 (am 0) fX4_good, rx_hP 21 (am 0) (fun w v => match v with | .int z => some (True, (w.1, z, w.2.2)) | _ => none), rx_hG 21 (am 0) (fun w => .int w.2.1), rx_hL 188 (lN 4294967295), rx_hV 163 3 (am 0) fX4_lying]
set_option maxHeartbeats 4000000 in
set_option maxRecDepth 100000 in
theorem eo_X4_find (l : Launch) (D : va_G) (am : Nat → Nat) (cI cZ : ClassId) (hj : mJ am) : ∀ (p : Program) (e : Env) (s : State) (m : MethodId) (args : Array Value) (below : List Frame) (meth : Method) (c : Code) (Qw : State → Prop), CallFix p m c cX4_find 3 s args (Cond.code yX4_find cX4_find 3 (some .int) :: wsA) RX4 → mK D cI cZ s → rx_Eok (fun H locs g => W p l e rX4_find s m args below meth c H locs 0 0 Qw g) m cX4_find 3 (tr_I D vwCl (mA am) s (mW am cI cZ)) (eX4_find am) := by
  intro p e s m args below meth c Qw S hK
  have ht : ∀ w ∈ wsA, w.before args s = true := fun w h => S.2.2.2.2 w (wsA_in h)
  exact rx_any_c (rx_hV_ok S ⟨Nat.zero_le _, Nat.zero_le _⟩ mK_tr hK (cwV 0 S.2.2.2.2 (wsA_V wkX4_172 wiX4_good weX4_good winiX4 wX4_good) rfl rfl rfl (by decide +kernel) ⟨by decide, by decide⟩) (ct_X4_good l D am cI cZ) (fun w H hP => va_recv hK.1 hP (rfl : vwCl[4]? = some (RX4, TX4, 7)) (rfl : (mW am cI cZ w)[0]? = some _))) (rx_any_c (rx_hP_ok (fun w v g w1 H locs pc ls rest hfv hg hI hd kk => by
    cases v with
    | int z =>
      cases hfv
      exact va_put (D := D) (ci := 4) (ty := .int) (C := RX4) (T := TX4) (N := 7) S.1 S.2.1 ht inX4 tyX4 tyX4_ok nmX4 S.2.2.2.1 hK.1 hI.1 (mD hj cI cZ w) hI.2 0 rfl rfl 0 (by decide) (ht _ wfX4_21) (fun _ h9 => h9) rfl (by decide +kernel) rfl rfl (Nat.le_of_ble_eq_true rfl) hd (fun H1 locs1 hP _ hS => kk H1 locs1 ⟨hP, hS⟩)
    | _ => cases hfv)) (rx_any_c (rx_hG_ok (fun w H locs pc ls rest hI hd k => va_get (D := D) (ci := 4) (C := RX4) (T := TX4) (N := 7) S.1 S.2.1 ht inX4 S.2.2.2.1 hK.1 hI.1 0 rfl rfl 0 (by decide) (ht _ wfX4_21) (fun _ h9 => h9) rfl hd k)) (rx_any_c (rx_hL_ok S (ht _ wcX4_188)) (rx_any_c (rx_hV_ok S ⟨Nat.zero_le _, Nat.zero_le _⟩ mK_tr hK (cwV 3 S.2.2.2.2 (wsA_V wkX4_163 wiX4_lying weX4_lying winiX4 wX4_lying) rfl rfl rfl (by decide +kernel) ⟨by decide, by decide⟩) (ct_X4_lying l D am cI cZ) (fun w H hP => va_recv hK.1 hP (rfl : vwCl[4]? = some (RX4, TX4, 7)) (rfl : (mW am cI cZ w)[0]? = some _))) (rx_any_0)))))
set_option maxHeartbeats 4000000 in
set_option maxRecDepth 100000 in
theorem ct_X4_find (l : Launch) (D : va_G) (am : Nat → Nat) (cI cZ : ClassId) (hj : mJ am) : ctM l yX4_find cX4_find 3 (some .int) rX4_find D am cI cZ [.ref (am 0)] fX4_find := by
  intro w as g w1 r hf hg
  unfold fX4_find at hf
  split at hf
  · next x =>
    cases hf
    exact tr_of rx_nc 0 200 0 (by decide) rfl rfl (Nat.le_of_ble_eq_true rfl) pX4_find_ok (rt_i _) (eo_X4_find l D am cI cZ hj) (fun pc g h => by cases h) (by
      simp only [pX4_find, eX4_find, fX4_good, fX4_lying, rx_n, rx_s, rx_to, rx_get, rx_f1, rx_f2, rx_two, rx_ext, rx_any, rx_hV, rx_hS, rx_hG, rx_hP, rx_hAi, rx_hAb, rx_hBb, rx_hBi, rx_hBp, rx_hL, rx_hLi, rx_got, rx_pop, rx_sum, rx_len, rx_c, rx_m1, lv_args, Value.category, rx_cut_n, rx_cut_m0, rx_cut_m1, rx_iconst, rx_bipush, rx_sipush, rx_lconst, rx_iload_n, rx_iload, rx_lload_n, rx_lload, rx_aload_n, rx_aload, rx_istore_n, rx_istore, rx_lstore_n, rx_lstore, rx_astore_n, rx_astore, rx_iinc, rx_iadd, rx_isub, rx_imul, rx_iand, rx_ixor, rx_ishr, rx_idiv, rx_irem, rx_ladd, rx_lsub, rx_land, rx_lor, rx_lxor, rx_lmul, rx_ldiv, rx_lrem, rx_lushr, rx_lshl, rx_lshr, rx_lneg, rx_i2l, rx_l2i, rx_i2b, rx_lcmp, rx_dup_i, rx_dup_a, rx_pop_i, rx_pop_a, rx_if_eq, rx_if_ne, rx_if_lt, rx_if_ge, rx_if_gt, rx_if_le, rx_icmp_eq, rx_icmp_ne, rx_icmp_lt, rx_icmp_ge, rx_icmp_gt, rx_icmp_le, rx_goto, rx_tsw, rx_ireturn, rx_lreturn, rx_return_, rx_getfield, rx_putfield, rx_invokevirtual, rx_invokespecial, rx_invokestatic, rx_ldc, rx_ldc2_w, rx_iaload, rx_iastore, rx_baload, rx_bastore, Nat.reduceBEq, Nat.reduceAdd, Nat.reduceSub, Nat.reduceMul, Nat.reduceLeDiff, Nat.reduceEqDiff, Nat.reduceLT, Int.reduceLT, Int.reduceLE, Int.reduceNeg, Int.reduceToNat, Int.reduceAdd, Fin.isValue, Fin.val_zero, Fin.val_one, Fin.reduceFinMk, Fin.val_ofNat, Bool.or_true, Bool.true_or, Bool.or_false, Bool.false_or, Bool.and_true, Bool.true_and, Bool.and_false, Bool.false_and, cond_true, cond_false, ↓reduceIte, eq_self, ne_eq, not_true_eq_false, not_false_eq_true, true_and, and_true, Option.toList_some, Option.toList_none, List.cons_append, List.nil_append, Option.some.injEq, Value.int.injEq, Value.long.injEq, rx_l0, rx_l1, rx_fv0, rx_fv1, rx_fv2, rx_fv3, nI_c1, nI_c2, nI_c4, nI_c8, nI_c9, nI_c24, nI_c64, Nat.le_refl, bI_z, bI_0, bI_1, Classical.not_not, lg_cmp_ge, lg_cmp_le, lg_cmp_gt, lg_cmp_lt, lg_cmp_eq]
      have hx := uN_lt x
      simp only [uN_hi]
      simp only [uN_low, rx_i0, true_or, true_and]
      simp only [le10, le20, le30, le00, mG_eq, false_implies, true_implies, not_false_eq_true, not_true_eq_false, true_and, and_true, Classical.not_not]
      have e : uN x / 4294967296 * 4294967296 + uN x % 4294967296 = uN x := by omega
      rw [e]
      refine ⟨fun a => ?_, fun a => ?_⟩
      · rw [cif_f a, cif_f a]
        exact ⟨rfl, rfl⟩
      · rw [cif_t a, cif_t a]
        exact ⟨⟨(gd_t12 (hg a)).1.1, by omega, by omega⟩, rfl, rfl⟩)
  · cases hf
