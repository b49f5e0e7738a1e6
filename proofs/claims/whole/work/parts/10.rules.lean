def pX2_markBegins : rx_P := [(0, .aload_n 0, 0), (1, .getfield 9, 0), (4, .iconst 0, 0), (5, .iconst 1, 0), (6, .invokevirtual 76, 0), (9, .ldc2_w 80, 0), (12, .lcmp, 0), (13, .ifCond .ne 55, 68), (16, .aload_n 0, 0), (17, .getfield 9, 0), (20, .iconst 1, 0), (21, .iconst 1, 0), (22, .invokevirtual 76, 0), (25, .ldc2_w 82, 0), (28, .lcmp, 0), (29, .ifCond .ne 39, 68), (32, .aload_n 0, 0), (33, .getfield 9, 0), (36, .iconst 2, 0), (37, .iconst 1, 0), (38, .invokevirtual 76, 0), (41, .ldc2_w 84, 0), (44, .lcmp, 0), (45, .ifCond .ne 23, 68), (48, .aload_n 0, 0), (49, .getfield 9, 0), (52, .iconst 3, 0), (53, .iconst 1, 0), (54, .invokevirtual 76, 0), (57, .ldc2_w 86, 0), (60, .lcmp, 0), (61, .ifCond .ne 7, 68), (64, .iconst 1, 0), (65, .goto 4, 69), (68, .iconst 0, 0), (69, .ireturn, 0)]
theorem pX2_markBegins_ok : ∀ q ∈ pX2_markBegins, rx_ok cX2_markBegins q := rx_ok_all (by decide +kernel)
abbrev rX2_markBegins : Room := { frames := 1, cells := 0, slots := 0, locals := 25 }
noncomputable def fX2_markBegins : rx_F cS := fun w as => match as with
  | [] => some (True, w, some (.int (bI (nu w.1 0 1 = 127 ∧ nu w.1 1 1 = 69 ∧ nu w.1 2 1 = 76 ∧ nu w.1 3 1 = 70))))
  | _ => none
noncomputable def eX2_markBegins (ad : Nat → Nat) : rx_E cS := rx_any [rx_hG 9 (ad 3) (fun w => .ref (ad 1)), rx_hV 76 2 (ad 1) fX1_number, rx_hL 80 (lN 127), rx_hL 82 (lN 69), rx_hL 84 (lN 76), rx_hL 86 (lN 70)]
set_option maxHeartbeats 4000000 in
set_option maxRecDepth 100000 in
theorem eo_X2_markBegins (l : Launch) (D : va_G) (ad : Nat → Nat) (cB : ClassId) : ∀ (p : Program) (e : Env) (s : State) (m : MethodId) (args : Array Value) (below : List Frame) (meth : Method) (c : Code) (Qw : State → Prop), CallFix p m c cX2_markBegins 1 s args (Cond.code yX2_markBegins cX2_markBegins 1 (some .boolean) :: wsA) RX2 → cK D cB s → rx_Eok (fun H locs g => W p l e rX2_markBegins s m args below meth c H locs 0 0 Qw g) m cX2_markBegins 1 (tr_I D vwCl (cA ad) s (cW ad cB)) (eX2_markBegins ad) := by
  intro p e s m args below meth c Qw S hK
  have ht : ∀ w ∈ wsA, w.before args s = true := fun w h => S.2.2.2.2 w (wsA_in h)
  exact rx_any_c (rx_hG_ok (fun w H locs pc ls rest hI hd k => va_get (D := D) (ci := 2) (C := RX2) (T := TX2) (N := 3) S.1 S.2.1 ht inX2 S.2.2.2.1 hK.1 hI.1 3 rfl rfl 0 (by decide) (ht _ wfX2_9) (fun _ h9 => h9) rfl hd k)) (rx_any_c (rx_hV_ok S ⟨Nat.zero_le _, Nat.zero_le _⟩ cK_tr hK (cwV 2 S.2.2.2.2 (wsA_V wkX2_76 wiX1_number weX1_number winiX1 wX1_number) rfl rfl rfl (by decide +kernel) ⟨by decide, by decide⟩) (ct_X1_number l D ad cB) (fun w H hP => va_recv hK.1 hP (rfl : vwCl[1]? = some (RX1, TX1, 2)) (rfl : (cW ad cB w)[1]? = some _))) (rx_any_c (rx_hL_ok S (ht _ wcX2_80)) (rx_any_c (rx_hL_ok S (ht _ wcX2_82)) (rx_any_c (rx_hL_ok S (ht _ wcX2_84)) (rx_any_c (rx_hL_ok S (ht _ wcX2_86)) (rx_any_0))))))
set_option maxHeartbeats 4000000 in
set_option maxRecDepth 100000 in
theorem ct_X2_markBegins (l : Launch) (D : va_G) (ad : Nat → Nat) (cB : ClassId) : ctC l yX2_markBegins cX2_markBegins 1 (some .boolean) rX2_markBegins D ad cB [.ref (ad 3)] fX2_markBegins := by
  intro w as g w1 r hf hg
  unfold fX2_markBegins at hf
  split at hf
  · cases hf
    exact tr_of rx_nc 0 200 0 (by decide) rfl rfl (Nat.le_of_ble_eq_true rfl) pX2_markBegins_ok (rt_z _) (eo_X2_markBegins l D ad cB) (fun pc g h => by cases h) (by
      simp only [pX2_markBegins, eX2_markBegins, fX1_number, rx_n, rx_s, rx_to, rx_get, rx_f1, rx_f2, rx_two, rx_ext, rx_any, rx_hV, rx_hS, rx_hG, rx_hP, rx_hAi, rx_hAb, rx_hL, rx_hLi, rx_got, rx_pop, rx_sum, rx_len, rx_c, rx_m1, lv_args, Value.category, rx_cut_n, rx_cut_1, rx_iconst, rx_bipush, rx_sipush, rx_lconst, rx_iload_n, rx_iload, rx_lload_n, rx_lload, rx_aload_n, rx_aload, rx_istore_n, rx_istore, rx_lstore_n, rx_lstore, rx_astore_n, rx_astore, rx_iinc, rx_iadd, rx_isub, rx_imul, rx_iand, rx_ixor, rx_ishr, rx_idiv, rx_irem, rx_ladd, rx_lsub, rx_land, rx_lor, rx_lxor, rx_lmul, rx_ldiv, rx_lrem, rx_lushr, rx_lshl, rx_lshr, rx_lneg, rx_i2l, rx_l2i, rx_i2b, rx_lcmp, rx_dup_i, rx_dup_a, rx_pop_i, rx_pop_a, rx_if_eq, rx_if_ne, rx_if_lt, rx_if_ge, rx_if_gt, rx_if_le, rx_icmp_eq, rx_icmp_ne, rx_icmp_lt, rx_icmp_ge, rx_icmp_gt, rx_icmp_le, rx_goto, rx_tsw, rx_ireturn, rx_lreturn, rx_return_, rx_getfield, rx_putfield, rx_invokevirtual, rx_invokespecial, rx_invokestatic, rx_ldc, rx_ldc2_w, rx_iaload, rx_iastore, rx_baload, rx_bastore, Nat.reduceBEq, Nat.reduceAdd, Nat.reduceSub, Nat.reduceMul, Nat.reduceLeDiff, Nat.reduceEqDiff, Nat.reduceLT, Int.reduceLT, Int.reduceLE, Int.reduceNeg, Int.reduceToNat, Int.reduceAdd, Fin.isValue, Fin.val_zero, Fin.val_one, Fin.reduceFinMk, Fin.val_ofNat, Bool.or_true, Bool.true_or, Bool.or_false, Bool.false_or, Bool.and_true, Bool.true_and, Bool.and_false, Bool.false_and, cond_true, cond_false, ↓reduceIte, eq_self, ne_eq, not_true_eq_false, not_false_eq_true, true_and, and_true, Option.toList_some, Option.toList_none, List.cons_append, List.nil_append, Option.some.injEq, Value.int.injEq, Value.long.injEq, rx_l0, rx_l1, rx_fv0, rx_fv1, rx_fv2, rx_fv3, nI_c1, nI_c2, nI_c4, nI_c8, nI_c9, nI_c24, nI_c64, Nat.le_refl, bI_z, bI_0, bI_1, Classical.not_not, lg_cmp_ge, lg_cmp_le, lg_cmp_gt, lg_cmp_lt, lg_cmp_eq]
      have h0 := nu_1 w.1 0
      have h1 := nu_1 w.1 1
      have h2 := nu_1 w.1 2
      have h3 := nu_1 w.1 3
      simp (disch := omega) only [nm_K, pk_lEQ]
      omega)
  · cases hf
def pX2_markGoesOn : rx_P := [(0, .aload_n 0, 0), (1, .getfield 9, 0), (4, .iconst 4, 0), (5, .iconst 1, 0), (6, .invokevirtual 76, 0), (9, .ldc2_w 88, 0), (12, .lcmp, 0), (13, .ifCond .ne 50, 63), (16, .aload_n 0, 0), (17, .getfield 9, 0), (20, .iconst 5, 0), (21, .iconst 1, 0), (22, .invokevirtual 76, 0), (25, .lconst 1, 0), (26, .lcmp, 0), (27, .ifCond .ne 36, 63), (30, .aload_n 0, 0), (31, .getfield 9, 0), (34, .bipush 6, 0), (36, .iconst 1, 0), (37, .invokevirtual 76, 0), (40, .lconst 1, 0), (41, .lcmp, 0), (42, .ifCond .ne 21, 63), (45, .aload_n 0, 0), (46, .getfield 9, 0), (49, .bipush 7, 0), (51, .bipush 9, 0), (53, .invokevirtual 90, 0), (56, .ifCond .eq 7, 63), (59, .iconst 1, 0), (60, .goto 4, 64), (63, .iconst 0, 0), (64, .ireturn, 0)]
theorem pX2_markGoesOn_ok : ∀ q ∈ pX2_markGoesOn, rx_ok cX2_markGoesOn q := rx_ok_all (by decide +kernel)
abbrev rX2_markGoesOn : Room := { frames := 2, cells := 0, slots := 0, locals := 48 }
noncomputable def fX2_markGoesOn : rx_F cS := fun w as => match as with
  | [] => some (True, w, some (.int (bI (nu w.1 4 1 = 2 ∧ nu w.1 5 1 = 1 ∧ nu w.1 6 1 = 1 ∧ ∀ i, i < 9 → nm w.1 (nI 7 + nI i) 1 = 0))))
  | _ => none
noncomputable def eX2_markGoesOn (ad : Nat → Nat) : rx_E cS := rx_any [rx_hG 9 (ad 3) (fun w => .ref (ad 1)), rx_hV 76 2 (ad 1) fX1_number, rx_hL 88 (lN 2), rx_hV 90 2 (ad 1) fX1_isZeros]
set_option maxHeartbeats 4000000 in
set_option maxRecDepth 100000 in
theorem eo_X2_markGoesOn (l : Launch) (D : va_G) (ad : Nat → Nat) (cB : ClassId) : ∀ (p : Program) (e : Env) (s : State) (m : MethodId) (args : Array Value) (below : List Frame) (meth : Method) (c : Code) (Qw : State → Prop), CallFix p m c cX2_markGoesOn 1 s args (Cond.code yX2_markGoesOn cX2_markGoesOn 1 (some .boolean) :: wsA) RX2 → cK D cB s → rx_Eok (fun H locs g => W p l e rX2_markGoesOn s m args below meth c H locs 0 0 Qw g) m cX2_markGoesOn 1 (tr_I D vwCl (cA ad) s (cW ad cB)) (eX2_markGoesOn ad) := by
  intro p e s m args below meth c Qw S hK
  have ht : ∀ w ∈ wsA, w.before args s = true := fun w h => S.2.2.2.2 w (wsA_in h)
  exact rx_any_c (rx_hG_ok (fun w H locs pc ls rest hI hd k => va_get (D := D) (ci := 2) (C := RX2) (T := TX2) (N := 3) S.1 S.2.1 ht inX2 S.2.2.2.1 hK.1 hI.1 3 rfl rfl 0 (by decide) (ht _ wfX2_9) (fun _ h9 => h9) rfl hd k)) (rx_any_c (rx_hV_ok S ⟨Nat.zero_le _, Nat.zero_le _⟩ cK_tr hK (cwV 2 S.2.2.2.2 (wsA_V wkX2_76 wiX1_number weX1_number winiX1 wX1_number) rfl rfl rfl (by decide +kernel) ⟨by decide, by decide⟩) (ct_X1_number l D ad cB) (fun w H hP => va_recv hK.1 hP (rfl : vwCl[1]? = some (RX1, TX1, 2)) (rfl : (cW ad cB w)[1]? = some _))) (rx_any_c (rx_hL_ok S (ht _ wcX2_88)) (rx_any_c (rx_hV_ok S ⟨Nat.zero_le _, Nat.zero_le _⟩ cK_tr hK (cwV 2 S.2.2.2.2 (wsA_V wkX2_90 wiX1_isZeros weX1_isZeros winiX1 wX1_isZeros) rfl rfl rfl (by decide +kernel) ⟨by decide, by decide⟩) (ct_X1_isZeros l D ad cB) (fun w H hP => va_recv hK.1 hP (rfl : vwCl[1]? = some (RX1, TX1, 2)) (rfl : (cW ad cB w)[1]? = some _))) (rx_any_0))))
set_option maxHeartbeats 4000000 in
set_option maxRecDepth 100000 in
theorem ct_X2_markGoesOn (l : Launch) (D : va_G) (ad : Nat → Nat) (cB : ClassId) : ctC l yX2_markGoesOn cX2_markGoesOn 1 (some .boolean) rX2_markGoesOn D ad cB [.ref (ad 3)] fX2_markGoesOn := by
  intro w as g w1 r hf hg
  unfold fX2_markGoesOn at hf
  split at hf
  · cases hf
    exact tr_of rx_nc 0 200 0 (by decide) rfl rfl (Nat.le_of_ble_eq_true rfl) pX2_markGoesOn_ok (rt_z _) (eo_X2_markGoesOn l D ad cB) (fun pc g h => by cases h) (by
      simp only [pX2_markGoesOn, eX2_markGoesOn, fX1_isZeros, fX1_number, rx_n, rx_s, rx_to, rx_get, rx_f1, rx_f2, rx_two, rx_ext, rx_any, rx_hV, rx_hS, rx_hG, rx_hP, rx_hAi, rx_hAb, rx_hL, rx_hLi, rx_got, rx_pop, rx_sum, rx_len, rx_c, rx_m1, lv_args, Value.category, rx_cut_n, rx_cut_1, rx_iconst, rx_bipush, rx_sipush, rx_lconst, rx_iload_n, rx_iload, rx_lload_n, rx_lload, rx_aload_n, rx_aload, rx_istore_n, rx_istore, rx_lstore_n, rx_lstore, rx_astore_n, rx_astore, rx_iinc, rx_iadd, rx_isub, rx_imul, rx_iand, rx_ixor, rx_ishr, rx_idiv, rx_irem, rx_ladd, rx_lsub, rx_land, rx_lor, rx_lxor, rx_lmul, rx_ldiv, rx_lrem, rx_lushr, rx_lshl, rx_lshr, rx_lneg, rx_i2l, rx_l2i, rx_i2b, rx_lcmp, rx_dup_i, rx_dup_a, rx_pop_i, rx_pop_a, rx_if_eq, rx_if_ne, rx_if_lt, rx_if_ge, rx_if_gt, rx_if_le, rx_icmp_eq, rx_icmp_ne, rx_icmp_lt, rx_icmp_ge, rx_icmp_gt, rx_icmp_le, rx_goto, rx_tsw, rx_ireturn, rx_lreturn, rx_return_, rx_getfield, rx_putfield, rx_invokevirtual, rx_invokespecial, rx_invokestatic, rx_ldc, rx_ldc2_w, rx_iaload, rx_iastore, rx_baload, rx_bastore, Nat.reduceBEq, Nat.reduceAdd, Nat.reduceSub, Nat.reduceMul, Nat.reduceLeDiff, Nat.reduceEqDiff, Nat.reduceLT, Int.reduceLT, Int.reduceLE, Int.reduceNeg, Int.reduceToNat, Int.reduceAdd, Fin.isValue, Fin.val_zero, Fin.val_one, Fin.reduceFinMk, Fin.val_ofNat, Bool.or_true, Bool.true_or, Bool.or_false, Bool.false_or, Bool.and_true, Bool.true_and, Bool.and_false, Bool.false_and, cond_true, cond_false, ↓reduceIte, eq_self, ne_eq, not_true_eq_false, not_false_eq_true, true_and, and_true, Option.toList_some, Option.toList_none, List.cons_append, List.nil_append, Option.some.injEq, Value.int.injEq, Value.long.injEq, rx_l0, rx_l1, rx_fv0, rx_fv1, rx_fv2, rx_fv3, nI_c1, nI_c2, nI_c4, nI_c8, nI_c9, nI_c24, nI_c64, Nat.le_refl, bI_z, bI_0, bI_1, Classical.not_not, lg_cmp_ge, lg_cmp_le, lg_cmp_gt, lg_cmp_lt, lg_cmp_eq]
      have h0 := nu_1 w.1 4
      have h1 := nu_1 w.1 5
      have h2 := nu_1 w.1 6
      simp (disch := omega) only [nm_K, pk_lEQ]
      grind)
  · cases hf
def pX2_kindIsKnown : rx_P := [(0, .aload_n 0, 0), (1, .getfield 9, 0), (4, .bipush 16, 0), (6, .iconst 2, 0), (7, .invokevirtual 76, 0), (10, .lstore_n 1, 0), (11, .lload_n 1, 0), (12, .lconst 1, 0), (13, .lcmp, 0), (14, .ifCond .lt 47, 61), (17, .lload_n 1, 0), (18, .ldc2_w 94, 0), (21, .lcmp, 0), (22, .ifCond .gt 39, 61), (25, .aload_n 0, 0), (26, .getfield 9, 0), (29, .bipush 18, 0), (31, .iconst 2, 0), (32, .invokevirtual 76, 0), (35, .ldc2_w 96, 0), (38, .lcmp, 0), (39, .ifCond .ne 22, 61), (42, .aload_n 0, 0), (43, .getfield 9, 0), (46, .bipush 20, 0), (48, .iconst 4, 0), (49, .invokevirtual 76, 0), (52, .lconst 1, 0), (53, .lcmp, 0), (54, .ifCond .ne 7, 61), (57, .iconst 1, 0), (58, .goto 4, 62), (61, .iconst 0, 0), (62, .ireturn, 0)]
theorem pX2_kindIsKnown_ok : ∀ q ∈ pX2_kindIsKnown, rx_ok cX2_kindIsKnown q := rx_ok_all (by decide +kernel)
abbrev rX2_kindIsKnown : Room := { frames := 1, cells := 0, slots := 0, locals := 25 }
noncomputable def fX2_kindIsKnown : rx_F cS := fun w as => match as with
  | [] => some (True, w, some (.int (bI (1 ≤ nu w.1 16 2 ∧ nu w.1 16 2 ≤ 3 ∧ nu w.1 18 2 = 243 ∧ nu w.1 20 4 = 1))))
  | _ => none
noncomputable def eX2_kindIsKnown (ad : Nat → Nat) : rx_E cS := rx_any [rx_hG 9 (ad 3) (fun w => .ref (ad 1)), rx_hV 76 2 (ad 1) fX1_number, rx_hL 94 (lN 3), rx_hL 96 (lN 243)]
set_option maxHeartbeats 4000000 in
set_option maxRecDepth 100000 in
theorem eo_X2_kindIsKnown (l : Launch) (D : va_G) (ad : Nat → Nat) (cB : ClassId) : ∀ (p : Program) (e : Env) (s : State) (m : MethodId) (args : Array Value) (below : List Frame) (meth : Method) (c : Code) (Qw : State → Prop), CallFix p m c cX2_kindIsKnown 3 s args (Cond.code yX2_kindIsKnown cX2_kindIsKnown 3 (some .boolean) :: wsA) RX2 → cK D cB s → rx_Eok (fun H locs g => W p l e rX2_kindIsKnown s m args below meth c H locs 0 0 Qw g) m cX2_kindIsKnown 3 (tr_I D vwCl (cA ad) s (cW ad cB)) (eX2_kindIsKnown ad) := by
  intro p e s m args below meth c Qw S hK
  have ht : ∀ w ∈ wsA, w.before args s = true := fun w h => S.2.2.2.2 w (wsA_in h)
  exact rx_any_c (rx_hG_ok (fun w H locs pc ls rest hI hd k => va_get (D := D) (ci := 2) (C := RX2) (T := TX2) (N := 3) S.1 S.2.1 ht inX2 S.2.2.2.1 hK.1 hI.1 3 rfl rfl 0 (by decide) (ht _ wfX2_9) (fun _ h9 => h9) rfl hd k)) (rx_any_c (rx_hV_ok S ⟨Nat.zero_le _, Nat.zero_le _⟩ cK_tr hK (cwV 2 S.2.2.2.2 (wsA_V wkX2_76 wiX1_number weX1_number winiX1 wX1_number) rfl rfl rfl (by decide +kernel) ⟨by decide, by decide⟩) (ct_X1_number l D ad cB) (fun w H hP => va_recv hK.1 hP (rfl : vwCl[1]? = some (RX1, TX1, 2)) (rfl : (cW ad cB w)[1]? = some _))) (rx_any_c (rx_hL_ok S (ht _ wcX2_94)) (rx_any_c (rx_hL_ok S (ht _ wcX2_96)) (rx_any_0))))
set_option maxHeartbeats 4000000 in
set_option maxRecDepth 100000 in
theorem ct_X2_kindIsKnown (l : Launch) (D : va_G) (ad : Nat → Nat) (cB : ClassId) : ctC l yX2_kindIsKnown cX2_kindIsKnown 3 (some .boolean) rX2_kindIsKnown D ad cB [.ref (ad 3)] fX2_kindIsKnown := by
  intro w as g w1 r hf hg
  unfold fX2_kindIsKnown at hf
  split at hf
  · cases hf
    exact tr_of rx_nc 0 200 0 (by decide) rfl rfl (Nat.le_of_ble_eq_true rfl) pX2_kindIsKnown_ok (rt_z _) (eo_X2_kindIsKnown l D ad cB) (fun pc g h => by cases h) (by
      simp only [pX2_kindIsKnown, eX2_kindIsKnown, fX1_number, rx_n, rx_s, rx_to, rx_get, rx_f1, rx_f2, rx_two, rx_ext, rx_any, rx_hV, rx_hS, rx_hG, rx_hP, rx_hAi, rx_hAb, rx_hL, rx_hLi, rx_got, rx_pop, rx_sum, rx_len, rx_c, rx_m1, lv_args, Value.category, rx_cut_n, rx_cut_1, rx_iconst, rx_bipush, rx_sipush, rx_lconst, rx_iload_n, rx_iload, rx_lload_n, rx_lload, rx_aload_n, rx_aload, rx_istore_n, rx_istore, rx_lstore_n, rx_lstore, rx_astore_n, rx_astore, rx_iinc, rx_iadd, rx_isub, rx_imul, rx_iand, rx_ixor, rx_ishr, rx_idiv, rx_irem, rx_ladd, rx_lsub, rx_land, rx_lor, rx_lxor, rx_lmul, rx_ldiv, rx_lrem, rx_lushr, rx_lshl, rx_lshr, rx_lneg, rx_i2l, rx_l2i, rx_i2b, rx_lcmp, rx_dup_i, rx_dup_a, rx_pop_i, rx_pop_a, rx_if_eq, rx_if_ne, rx_if_lt, rx_if_ge, rx_if_gt, rx_if_le, rx_icmp_eq, rx_icmp_ne, rx_icmp_lt, rx_icmp_ge, rx_icmp_gt, rx_icmp_le, rx_goto, rx_tsw, rx_ireturn, rx_lreturn, rx_return_, rx_getfield, rx_putfield, rx_invokevirtual, rx_invokespecial, rx_invokestatic, rx_ldc, rx_ldc2_w, rx_iaload, rx_iastore, rx_baload, rx_bastore, Nat.reduceBEq, Nat.reduceAdd, Nat.reduceSub, Nat.reduceMul, Nat.reduceLeDiff, Nat.reduceEqDiff, Nat.reduceLT, Int.reduceLT, Int.reduceLE, Int.reduceNeg, Int.reduceToNat, Int.reduceAdd, Fin.isValue, Fin.val_zero, Fin.val_one, Fin.reduceFinMk, Fin.val_ofNat, Bool.or_true, Bool.true_or, Bool.or_false, Bool.false_or, Bool.and_true, Bool.true_and, Bool.and_false, Bool.false_and, cond_true, cond_false, ↓reduceIte, eq_self, ne_eq, not_true_eq_false, not_false_eq_true, true_and, and_true, Option.toList_some, Option.toList_none, List.cons_append, List.nil_append, Option.some.injEq, Value.int.injEq, Value.long.injEq, rx_l0, rx_l1, rx_fv0, rx_fv1, rx_fv2, rx_fv3, nI_c1, nI_c2, nI_c4, nI_c8, nI_c9, nI_c24, nI_c64, Nat.le_refl, bI_z, bI_0, bI_1, Classical.not_not, lg_cmp_ge, lg_cmp_le, lg_cmp_gt, lg_cmp_lt, lg_cmp_eq]
      have h0 := nu_2 w.1 16
      have h1 := nu_2 w.1 18
      have h2 := nu_4 w.1 20
      simp (disch := omega) only [nm_K, pk_lEQ, pk_lLT]
      omega)
  · cases hf
def pX2_rowLengthsAreGood : rx_P := [(0, .aload_n 0, 0), (1, .getfield 9, 0), (4, .bipush 52, 0), (6, .iconst 2, 0), (7, .invokevirtual 76, 0), (10, .ldc2_w 98, 0), (13, .lcmp, 0), (14, .ifCond .ne 61, 75), (17, .aload_n 0, 0), (18, .getfield 15, 0), (21, .invokevirtual 100, 0), (24, .ifCond .eq 20, 44), (27, .aload_n 0, 0), (28, .getfield 9, 0), (31, .bipush 54, 0), (33, .iconst 2, 0), (34, .invokevirtual 76, 0), (37, .ldc2_w 105, 0), (40, .lcmp, 0), (41, .ifCond .ne 34, 75), (44, .aload_n 0, 0), (45, .getfield 15, 0), (48, .invokevirtual 107, 0), (51, .ifCond .eq 20, 71), (54, .aload_n 0, 0), (55, .getfield 9, 0), (58, .bipush 58, 0), (60, .iconst 2, 0), (61, .invokevirtual 76, 0), (64, .ldc2_w 98, 0), (67, .lcmp, 0), (68, .ifCond .ne 7, 75), (71, .iconst 1, 0), (72, .goto 4, 76), (75, .iconst 0, 0), (76, .ireturn, 0)]
theorem pX2_rowLengthsAreGood_ok : ∀ q ∈ pX2_rowLengthsAreGood, rx_ok cX2_rowLengthsAreGood q := rx_ok_all (by decide +kernel)
abbrev rX2_rowLengthsAreGood : Room := { frames := 2, cells := 0, slots := 0, locals := 45 }
noncomputable def fX2_rowLengthsAreGood : rx_F cS := fun w as => match as with
  | [] => some (True, w, some (.int (bI (nu w.1 52 2 = 64 ∧ (nu w.1 56 2 = 0 ∨ nu w.1 54 2 = 56) ∧ (nu w.1 60 2 = 0 ∨ nu w.1 58 2 = 64)))))
  | _ => none
noncomputable def eX2_rowLengthsAreGood (ad : Nat → Nat) : rx_E cS := rx_any [rx_hG 9 (ad 3) (fun w => .ref (ad 1)), rx_hV 76 2 (ad 1) fX1_number, rx_hL 98 (lN 64), rx_hG 15 (ad 3) (fun w => .ref (ad 2)), rx_hV 100 0 (ad 2) fX0_segmentCount, rx_hL 105 (lN 56), rx_hV 107 0 (ad 2) fX0_sectionCount]
set_option maxHeartbeats 4000000 in
set_option maxRecDepth 100000 in
theorem eo_X2_rowLengthsAreGood (l : Launch) (D : va_G) (ad : Nat → Nat) (cB : ClassId) : ∀ (p : Program) (e : Env) (s : State) (m : MethodId) (args : Array Value) (below : List Frame) (meth : Method) (c : Code) (Qw : State → Prop), CallFix p m c cX2_rowLengthsAreGood 1 s args (Cond.code yX2_rowLengthsAreGood cX2_rowLengthsAreGood 1 (some .boolean) :: wsA) RX2 → cK D cB s → rx_Eok (fun H locs g => W p l e rX2_rowLengthsAreGood s m args below meth c H locs 0 0 Qw g) m cX2_rowLengthsAreGood 1 (tr_I D vwCl (cA ad) s (cW ad cB)) (eX2_rowLengthsAreGood ad) := by
  intro p e s m args below meth c Qw S hK
  have ht : ∀ w ∈ wsA, w.before args s = true := fun w h => S.2.2.2.2 w (wsA_in h)
  exact rx_any_c (rx_hG_ok (fun w H locs pc ls rest hI hd k => va_get (D := D) (ci := 2) (C := RX2) (T := TX2) (N := 3) S.1 S.2.1 ht inX2 S.2.2.2.1 hK.1 hI.1 3 rfl rfl 0 (by decide) (ht _ wfX2_9) (fun _ h9 => h9) rfl hd k)) (rx_any_c (rx_hV_ok S ⟨Nat.zero_le _, Nat.zero_le _⟩ cK_tr hK (cwV 2 S.2.2.2.2 (wsA_V wkX2_76 wiX1_number weX1_number winiX1 wX1_number) rfl rfl rfl (by decide +kernel) ⟨by decide, by decide⟩) (ct_X1_number l D ad cB) (fun w H hP => va_recv hK.1 hP (rfl : vwCl[1]? = some (RX1, TX1, 2)) (rfl : (cW ad cB w)[1]? = some _))) (rx_any_c (rx_hL_ok S (ht _ wcX2_98)) (rx_any_c (rx_hG_ok (fun w H locs pc ls rest hI hd k => va_get (D := D) (ci := 2) (C := RX2) (T := TX2) (N := 3) S.1 S.2.1 ht inX2 S.2.2.2.1 hK.1 hI.1 3 rfl rfl 1 (by decide) (ht _ wfX2_15) (fun _ h9 => h9) rfl hd k)) (rx_any_c (rx_hV_ok S ⟨Nat.zero_le _, Nat.zero_le _⟩ cK_tr hK (cwV 0 S.2.2.2.2 (wsA_V wkX2_100 wiX0_segmentCount weX0_segmentCount winiX0 wX0_segmentCount) rfl rfl rfl (by decide +kernel) ⟨by decide, by decide⟩) (ct_X0_segmentCount l D ad cB) (fun w H hP => va_recv hK.1 hP (rfl : vwCl[0]? = some (RX0, TX0, 1)) (rfl : (cW ad cB w)[2]? = some _))) (rx_any_c (rx_hL_ok S (ht _ wcX2_105)) (rx_any_c (rx_hV_ok S ⟨Nat.zero_le _, Nat.zero_le _⟩ cK_tr hK (cwV 0 S.2.2.2.2 (wsA_V wkX2_107 wiX0_sectionCount weX0_sectionCount winiX0 wX0_sectionCount) rfl rfl rfl (by decide +kernel) ⟨by decide, by decide⟩) (ct_X0_sectionCount l D ad cB) (fun w H hP => va_recv hK.1 hP (rfl : vwCl[0]? = some (RX0, TX0, 1)) (rfl : (cW ad cB w)[2]? = some _))) (rx_any_0)))))))
set_option maxHeartbeats 4000000 in
set_option maxRecDepth 100000 in
theorem ct_X2_rowLengthsAreGood (l : Launch) (D : va_G) (ad : Nat → Nat) (cB : ClassId) : ctC l yX2_rowLengthsAreGood cX2_rowLengthsAreGood 1 (some .boolean) rX2_rowLengthsAreGood D ad cB [.ref (ad 3)] fX2_rowLengthsAreGood := by
  intro w as g w1 r hf hg
  unfold fX2_rowLengthsAreGood at hf
  split at hf
  · cases hf
    exact tr_of rx_nc 0 200 0 (by decide) rfl rfl (Nat.le_of_ble_eq_true rfl) pX2_rowLengthsAreGood_ok (rt_z _) (eo_X2_rowLengthsAreGood l D ad cB) (fun pc g h => by cases h) (by
      simp only [pX2_rowLengthsAreGood, eX2_rowLengthsAreGood, fX0_sectionCount, fX0_segmentCount, fX1_number, rx_n, rx_s, rx_to, rx_get, rx_f1, rx_f2, rx_two, rx_ext, rx_any, rx_hV, rx_hS, rx_hG, rx_hP, rx_hAi, rx_hAb, rx_hL, rx_hLi, rx_got, rx_pop, rx_sum, rx_len, rx_c, rx_m1, lv_args, Value.category, rx_cut_n, rx_cut_1, rx_iconst, rx_bipush, rx_sipush, rx_lconst, rx_iload_n, rx_iload, rx_lload_n, rx_lload, rx_aload_n, rx_aload, rx_istore_n, rx_istore, rx_lstore_n, rx_lstore, rx_astore_n, rx_astore, rx_iinc, rx_iadd, rx_isub, rx_imul, rx_iand, rx_ixor, rx_ishr, rx_idiv, rx_irem, rx_ladd, rx_lsub, rx_land, rx_lor, rx_lxor, rx_lmul, rx_ldiv, rx_lrem, rx_lushr, rx_lshl, rx_lshr, rx_lneg, rx_i2l, rx_l2i, rx_i2b, rx_lcmp, rx_dup_i, rx_dup_a, rx_pop_i, rx_pop_a, rx_if_eq, rx_if_ne, rx_if_lt, rx_if_ge, rx_if_gt, rx_if_le, rx_icmp_eq, rx_icmp_ne, rx_icmp_lt, rx_icmp_ge, rx_icmp_gt, rx_icmp_le, rx_goto, rx_tsw, rx_ireturn, rx_lreturn, rx_return_, rx_getfield, rx_putfield, rx_invokevirtual, rx_invokespecial, rx_invokestatic, rx_ldc, rx_ldc2_w, rx_iaload, rx_iastore, rx_baload, rx_bastore, Nat.reduceBEq, Nat.reduceAdd, Nat.reduceSub, Nat.reduceMul, Nat.reduceLeDiff, Nat.reduceEqDiff, Nat.reduceLT, Int.reduceLT, Int.reduceLE, Int.reduceNeg, Int.reduceToNat, Int.reduceAdd, Fin.isValue, Fin.val_zero, Fin.val_one, Fin.reduceFinMk, Fin.val_ofNat, Bool.or_true, Bool.true_or, Bool.or_false, Bool.false_or, Bool.and_true, Bool.true_and, Bool.and_false, Bool.false_and, cond_true, cond_false, ↓reduceIte, eq_self, ne_eq, not_true_eq_false, not_false_eq_true, true_and, and_true, Option.toList_some, Option.toList_none, List.cons_append, List.nil_append, Option.some.injEq, Value.int.injEq, Value.long.injEq, rx_l0, rx_l1, rx_fv0, rx_fv1, rx_fv2, rx_fv3, nI_c1, nI_c2, nI_c4, nI_c8, nI_c9, nI_c24, nI_c64, Nat.le_refl, bI_z, bI_0, bI_1, Classical.not_not, lg_cmp_ge, lg_cmp_le, lg_cmp_gt, lg_cmp_lt, lg_cmp_eq]
      have h0 := nu_2 w.1 52
      have h1 := nu_2 w.1 54
      have h2 := nu_2 w.1 56
      have h3 := nu_2 w.1 58
      have h4 := nu_2 w.1 60
      simp (disch := omega) only [nm_K, pk_lEQ, nI_z]
      omega)
  · cases hf
def pX2_tableIsInFile : rx_P := [(0, .iload_n 3, 0), (1, .ifCond .eq 26, 27), (4, .lload_n 1, 0), (5, .ldc2_w 118, 0), (8, .lrem, 0), (9, .lconst 0, 0), (10, .lcmp, 0), (11, .ifCond .ne 20, 31), (14, .aload_n 0, 0), (15, .getfield 9, 0), (18, .lload_n 1, 0), (19, .iload_n 3, 0), (20, .i2l, 0), (21, .invokevirtual 120, 0), (24, .ifCond .eq 7, 31), (27, .iconst 1, 0), (28, .goto 4, 32), (31, .iconst 0, 0), (32, .ireturn, 0)]
theorem pX2_tableIsInFile_ok : ∀ q ∈ pX2_tableIsInFile, rx_ok cX2_tableIsInFile q := rx_ok_all (by decide +kernel)
abbrev rX2_tableIsInFile : Room := { frames := 2, cells := 0, slots := 0, locals := 47 }
noncomputable def fX2_tableIsInFile : rx_F cS := fun w as => match as with
  | [.long x, .int k] => some (k.toNatClampNeg < 2147483648 ∧ nI k.toNatClampNeg = k, w, some (.int (bI (k.toNatClampNeg = 0 ∨ uN x % 8 = 0 ∧ uN x + k.toNatClampNeg ≤ bn w.1))))
  | _ => none
noncomputable def eX2_tableIsInFile (ad : Nat → Nat) : rx_E cS := rx_any [rx_hL 118 (lN 8), rx_hG 9 (ad 3) (fun w => .ref (ad 1)), rx_hV 120 2 (ad 1) fX1_hasRoom]
set_option maxHeartbeats 4000000 in
set_option maxRecDepth 100000 in
theorem eo_X2_tableIsInFile (l : Launch) (D : va_G) (ad : Nat → Nat) (cB : ClassId) : ∀ (p : Program) (e : Env) (s : State) (m : MethodId) (args : Array Value) (below : List Frame) (meth : Method) (c : Code) (Qw : State → Prop), CallFix p m c cX2_tableIsInFile 4 s args (Cond.code yX2_tableIsInFile cX2_tableIsInFile 4 (some .boolean) :: wsA) RX2 → cK D cB s → rx_Eok (fun H locs g => W p l e rX2_tableIsInFile s m args below meth c H locs 0 0 Qw g) m cX2_tableIsInFile 4 (tr_I D vwCl (cA ad) s (cW ad cB)) (eX2_tableIsInFile ad) := by
  intro p e s m args below meth c Qw S hK
  have ht : ∀ w ∈ wsA, w.before args s = true := fun w h => S.2.2.2.2 w (wsA_in h)
  exact rx_any_c (rx_hL_ok S (ht _ wcX2_118)) (rx_any_c (rx_hG_ok (fun w H locs pc ls rest hI hd k => va_get (D := D) (ci := 2) (C := RX2) (T := TX2) (N := 3) S.1 S.2.1 ht inX2 S.2.2.2.1 hK.1 hI.1 3 rfl rfl 0 (by decide) (ht _ wfX2_9) (fun _ h9 => h9) rfl hd k)) (rx_any_c (rx_hV_ok S ⟨Nat.zero_le _, Nat.zero_le _⟩ cK_tr hK (cwV 2 S.2.2.2.2 (wsA_V wkX2_120 wiX1_hasRoom weX1_hasRoom winiX1 wX1_hasRoom) rfl rfl rfl (by decide +kernel) ⟨by decide, by decide⟩) (ct_X1_hasRoom l D ad cB) (fun w H hP => va_recv hK.1 hP (rfl : vwCl[1]? = some (RX1, TX1, 2)) (rfl : (cW ad cB w)[1]? = some _))) (rx_any_0)))
set_option maxHeartbeats 4000000 in
set_option maxRecDepth 100000 in
theorem ct_X2_tableIsInFile (l : Launch) (D : va_G) (ad : Nat → Nat) (cB : ClassId) : ctC l yX2_tableIsInFile cX2_tableIsInFile 4 (some .boolean) rX2_tableIsInFile D ad cB [.ref (ad 3)] fX2_tableIsInFile := by
  intro w as g w1 r hf hg
  unfold fX2_tableIsInFile at hf
  split at hf
  · next x k =>
    cases hf
    exact tr_of rx_nc 0 200 0 (by decide) rfl rfl (Nat.le_of_ble_eq_true rfl) pX2_tableIsInFile_ok (rt_z _) (eo_X2_tableIsInFile l D ad cB) (fun pc g h => by cases h) (by
      simp only [pX2_tableIsInFile, eX2_tableIsInFile, fX1_hasRoom, rx_n, rx_s, rx_to, rx_get, rx_f1, rx_f2, rx_two, rx_ext, rx_any, rx_hV, rx_hS, rx_hG, rx_hP, rx_hAi, rx_hAb, rx_hL, rx_hLi, rx_got, rx_pop, rx_sum, rx_len, rx_c, rx_m1, lv_args, Value.category, rx_cut_n, rx_cut_1, rx_iconst, rx_bipush, rx_sipush, rx_lconst, rx_iload_n, rx_iload, rx_lload_n, rx_lload, rx_aload_n, rx_aload, rx_istore_n, rx_istore, rx_lstore_n, rx_lstore, rx_astore_n, rx_astore, rx_iinc, rx_iadd, rx_isub, rx_imul, rx_iand, rx_ixor, rx_ishr, rx_idiv, rx_irem, rx_ladd, rx_lsub, rx_land, rx_lor, rx_lxor, rx_lmul, rx_ldiv, rx_lrem, rx_lushr, rx_lshl, rx_lshr, rx_lneg, rx_i2l, rx_l2i, rx_i2b, rx_lcmp, rx_dup_i, rx_dup_a, rx_pop_i, rx_pop_a, rx_if_eq, rx_if_ne, rx_if_lt, rx_if_ge, rx_if_gt, rx_if_le, rx_icmp_eq, rx_icmp_ne, rx_icmp_lt, rx_icmp_ge, rx_icmp_gt, rx_icmp_le, rx_goto, rx_tsw, rx_ireturn, rx_lreturn, rx_return_, rx_getfield, rx_putfield, rx_invokevirtual, rx_invokespecial, rx_invokestatic, rx_ldc, rx_ldc2_w, rx_iaload, rx_iastore, rx_baload, rx_bastore, Nat.reduceBEq, Nat.reduceAdd, Nat.reduceSub, Nat.reduceMul, Nat.reduceLeDiff, Nat.reduceEqDiff, Nat.reduceLT, Int.reduceLT, Int.reduceLE, Int.reduceNeg, Int.reduceToNat, Int.reduceAdd, Fin.isValue, Fin.val_zero, Fin.val_one, Fin.reduceFinMk, Fin.val_ofNat, Bool.or_true, Bool.true_or, Bool.or_false, Bool.false_or, Bool.and_true, Bool.true_and, Bool.and_false, Bool.false_and, cond_true, cond_false, ↓reduceIte, eq_self, ne_eq, not_true_eq_false, not_false_eq_true, true_and, and_true, Option.toList_some, Option.toList_none, List.cons_append, List.nil_append, Option.some.injEq, Value.int.injEq, Value.long.injEq, rx_l0, rx_l1, rx_fv0, rx_fv1, rx_fv2, rx_fv3, nI_c1, nI_c2, nI_c4, nI_c8, nI_c9, nI_c24, nI_c64, Nat.le_refl, bI_z, bI_0, bI_1, Classical.not_not, lg_cmp_ge, lg_cmp_le, lg_cmp_gt, lg_cmp_lt, lg_cmp_eq]
      obtain ⟨h1, h2⟩ := hg
      generalize k.toNatClampNeg = K at h1 h2 ⊢
      subst h2
      simp (disch := omega) only [rem8, nI_l, uN_lN, nI_z]
      refine ⟨fun h => Or.inl h, fun h => ⟨by decide, fun h => ?_, fun h => ⟨fun h => ?_, fun h => ?_⟩⟩⟩ <;> omega)
  · cases hf
def pX2_overlap : rx_P := [(0, .lload_n 2, 0), (1, .lconst 0, 0), (2, .lcmp, 0), (3, .ifCond .eq 33, 36), (6, .lload 6, 0), (8, .lconst 0, 0), (9, .lcmp, 0), (10, .ifCond .eq 26, 36), (13, .lload_n 0, 0), (14, .lload 4, 0), (16, .lload 6, 0), (18, .ladd, 0), (19, .lcmp, 0), (20, .ifCond .ge 16, 36), (23, .lload 4, 0), (25, .lload_n 0, 0), (26, .lload_n 2, 0), (27, .ladd, 0), (28, .lcmp, 0), (29, .ifCond .ge 7, 36), (32, .iconst 1, 0), (33, .goto 4, 37), (36, .iconst 0, 0), (37, .ireturn, 0)]
theorem pX2_overlap_ok : ∀ q ∈ pX2_overlap, rx_ok cX2_overlap q := rx_ok_all (by decide +kernel)
abbrev rX2_overlap : Room := { frames := 0, cells := 0, slots := 0, locals := 0 }
noncomputable def fX2_overlap : rx_F cS := fun w as => match as with
  | [.long x, .long y, .long z, .long t] => some (True, w, some (.int (bI (¬ y = lN 0 ∧ ¬ t = lN 0 ∧ x < z + t ∧ z < x + y))))
  | _ => none
noncomputable def eX2_overlap (ad : Nat → Nat) : rx_E cS := rx_any []
set_option maxHeartbeats 4000000 in
set_option maxRecDepth 100000 in
theorem eo_X2_overlap (l : Launch) (D : va_G) (ad : Nat → Nat) (cB : ClassId) : ∀ (p : Program) (e : Env) (s : State) (m : MethodId) (args : Array Value) (below : List Frame) (meth : Method) (c : Code) (Qw : State → Prop), CallFix p m c cX2_overlap 8 s args (Cond.code yX2_overlap cX2_overlap 8 (some .boolean) :: wsA) RX2 → cK D cB s → rx_Eok (fun H locs g => W p l e rX2_overlap s m args below meth c H locs 0 0 Qw g) m cX2_overlap 8 (tr_I D vwCl (cA ad) s (cW ad cB)) (eX2_overlap ad) := by
  intro p e s m args below meth c Qw S hK
  have ht : ∀ w ∈ wsA, w.before args s = true := fun w h => S.2.2.2.2 w (wsA_in h)
  exact rx_any_0
set_option maxHeartbeats 4000000 in
set_option maxRecDepth 100000 in
theorem ct_X2_overlap (l : Launch) (D : va_G) (ad : Nat → Nat) (cB : ClassId) : ctC l yX2_overlap cX2_overlap 8 (some .boolean) rX2_overlap D ad cB [] fX2_overlap := by
  intro w as g w1 r hf hg
  unfold fX2_overlap at hf
  split at hf
  · next x y z t =>
    cases hf
    exact tr_of rx_nc 0 200 0 (by decide) rfl rfl (Nat.le_of_ble_eq_true rfl) pX2_overlap_ok (rt_z _) (eo_X2_overlap l D ad cB) (fun pc g h => by cases h) (by
      simp only [pX2_overlap, eX2_overlap, rx_n, rx_s, rx_to, rx_get, rx_f1, rx_f2, rx_two, rx_ext, rx_any, rx_hV, rx_hS, rx_hG, rx_hP, rx_hAi, rx_hAb, rx_hL, rx_hLi, rx_got, rx_pop, rx_sum, rx_len, rx_c, rx_m1, lv_args, Value.category, rx_cut_n, rx_cut_1, rx_iconst, rx_bipush, rx_sipush, rx_lconst, rx_iload_n, rx_iload, rx_lload_n, rx_lload, rx_aload_n, rx_aload, rx_istore_n, rx_istore, rx_lstore_n, rx_lstore, rx_astore_n, rx_astore, rx_iinc, rx_iadd, rx_isub, rx_imul, rx_iand, rx_ixor, rx_ishr, rx_idiv, rx_irem, rx_ladd, rx_lsub, rx_land, rx_lor, rx_lxor, rx_lmul, rx_ldiv, rx_lrem, rx_lushr, rx_lshl, rx_lshr, rx_lneg, rx_i2l, rx_l2i, rx_i2b, rx_lcmp, rx_dup_i, rx_dup_a, rx_pop_i, rx_pop_a, rx_if_eq, rx_if_ne, rx_if_lt, rx_if_ge, rx_if_gt, rx_if_le, rx_icmp_eq, rx_icmp_ne, rx_icmp_lt, rx_icmp_ge, rx_icmp_gt, rx_icmp_le, rx_goto, rx_tsw, rx_ireturn, rx_lreturn, rx_return_, rx_getfield, rx_putfield, rx_invokevirtual, rx_invokespecial, rx_invokestatic, rx_ldc, rx_ldc2_w, rx_iaload, rx_iastore, rx_baload, rx_bastore, Nat.reduceBEq, Nat.reduceAdd, Nat.reduceSub, Nat.reduceMul, Nat.reduceLeDiff, Nat.reduceEqDiff, Nat.reduceLT, Int.reduceLT, Int.reduceLE, Int.reduceNeg, Int.reduceToNat, Int.reduceAdd, Fin.isValue, Fin.val_zero, Fin.val_one, Fin.reduceFinMk, Fin.val_ofNat, Bool.or_true, Bool.true_or, Bool.or_false, Bool.false_or, Bool.and_true, Bool.true_and, Bool.and_false, Bool.false_and, cond_true, cond_false, ↓reduceIte, eq_self, ne_eq, not_true_eq_false, not_false_eq_true, true_and, and_true, Option.toList_some, Option.toList_none, List.cons_append, List.nil_append, Option.some.injEq, Value.int.injEq, Value.long.injEq, rx_l0, rx_l1, rx_fv0, rx_fv1, rx_fv2, rx_fv3, nI_c1, nI_c2, nI_c4, nI_c8, nI_c9, nI_c24, nI_c64, Nat.le_refl, bI_z, bI_0, bI_1, Classical.not_not, lg_cmp_ge, lg_cmp_le, lg_cmp_gt, lg_cmp_lt, lg_cmp_eq]
      simp only [← Int64.not_lt, Classical.not_not]
      grind)
  · cases hf
def pX2_tablesAreGood : rx_P := [(0, .aload_n 0, 0), (1, .getfield 9, 0), (4, .bipush 32, 0), (6, .bipush 8, 0), (8, .invokevirtual 76, 0), (11, .lstore_n 1, 0), (12, .aload_n 0, 0), (13, .getfield 9, 0), (16, .bipush 40, 0), (18, .bipush 8, 0), (20, .invokevirtual 76, 0), (23, .lstore_n 3, 0), (24, .bipush 56, 0), (26, .aload_n 0, 0), (27, .getfield 15, 0), (30, .invokevirtual 100, 0), (33, .imul, 0), (34, .istore 5, 0), (36, .bipush 64, 0), (38, .aload_n 0, 0), (39, .getfield 15, 0), (42, .invokevirtual 107, 0), (45, .imul, 0), (46, .istore 6, 0), (48, .aload_n 0, 0), (49, .lload_n 1, 0), (50, .iload 5, 0), (52, .invokevirtual 110, 0), (55, .ifCond .eq 59, 114), (58, .aload_n 0, 0), (59, .lload_n 3, 0), (60, .iload 6, 0), (62, .invokevirtual 110, 0), (65, .ifCond .eq 49, 114), (68, .lconst 0, 0), (69, .ldc2_w 98, 0), (72, .lload_n 1, 0), (73, .iload 5, 0), (75, .i2l, 0), (76, .invokestatic 114, 0), (79, .ifCond .ne 35, 114), (82, .lconst 0, 0), (83, .ldc2_w 98, 0), (86, .lload_n 3, 0), (87, .iload 6, 0), (89, .i2l, 0), (90, .invokestatic 114, 0), (93, .ifCond .ne 21, 114), (96, .lload_n 1, 0), (97, .iload 5, 0), (99, .i2l, 0), (100, .lload_n 3, 0), (101, .iload 6, 0), (103, .i2l, 0), (104, .invokestatic 114, 0), (107, .ifCond .ne 7, 114), (110, .iconst 1, 0), (111, .goto 4, 115), (114, .iconst 0, 0), (115, .ireturn, 0)]
theorem pX2_tablesAreGood_ok : ∀ q ∈ pX2_tablesAreGood, rx_ok cX2_tablesAreGood q := rx_ok_all (by decide +kernel)
abbrev rX2_tablesAreGood : Room := { frames := 3, cells := 0, slots := 0, locals := 70 }
noncomputable def fX2_tablesAreGood : rx_F cS := fun w as => match as with
  | [] => some (True, w, some (.int (bI (tOK (bn w.1) (nu w.1 32 8) (56 * nu w.1 56 2) (nu w.1 40 8) (64 * nu w.1 60 2)))))
  | _ => none
noncomputable def eX2_tablesAreGood (ad : Nat → Nat) : rx_E cS := rx_any [rx_hG 9 (ad 3) (fun w => .ref (ad 1)), rx_hV 76 2 (ad 1) fX1_number, rx_hG 15 (ad 3) (fun w => .ref (ad 2)), rx_hV 100 0 (ad 2) fX0_segmentCount, rx_hV 107 0 (ad 2) fX0_sectionCount, rx_hV 110 2 (ad 3) fX2_tableIsInFile, rx_hL 98 (lN 64), rx_hS 114 4 fX2_overlap]
set_option maxHeartbeats 4000000 in
set_option maxRecDepth 100000 in
theorem eo_X2_tablesAreGood (l : Launch) (D : va_G) (ad : Nat → Nat) (cB : ClassId) : ∀ (p : Program) (e : Env) (s : State) (m : MethodId) (args : Array Value) (below : List Frame) (meth : Method) (c : Code) (Qw : State → Prop), CallFix p m c cX2_tablesAreGood 7 s args (Cond.code yX2_tablesAreGood cX2_tablesAreGood 7 (some .boolean) :: wsA) RX2 → cK D cB s → rx_Eok (fun H locs g => W p l e rX2_tablesAreGood s m args below meth c H locs 0 0 Qw g) m cX2_tablesAreGood 7 (tr_I D vwCl (cA ad) s (cW ad cB)) (eX2_tablesAreGood ad) := by
  intro p e s m args below meth c Qw S hK
  have ht : ∀ w ∈ wsA, w.before args s = true := fun w h => S.2.2.2.2 w (wsA_in h)
  exact rx_any_c (rx_hG_ok (fun w H locs pc ls rest hI hd k => va_get (D := D) (ci := 2) (C := RX2) (T := TX2) (N := 3) S.1 S.2.1 ht inX2 S.2.2.2.1 hK.1 hI.1 3 rfl rfl 0 (by decide) (ht _ wfX2_9) (fun _ h9 => h9) rfl hd k)) (rx_any_c (rx_hV_ok S ⟨Nat.zero_le _, Nat.zero_le _⟩ cK_tr hK (cwV 2 S.2.2.2.2 (wsA_V wkX2_76 wiX1_number weX1_number winiX1 wX1_number) rfl rfl rfl (by decide +kernel) ⟨by decide, by decide⟩) (ct_X1_number l D ad cB) (fun w H hP => va_recv hK.1 hP (rfl : vwCl[1]? = some (RX1, TX1, 2)) (rfl : (cW ad cB w)[1]? = some _))) (rx_any_c (rx_hG_ok (fun w H locs pc ls rest hI hd k => va_get (D := D) (ci := 2) (C := RX2) (T := TX2) (N := 3) S.1 S.2.1 ht inX2 S.2.2.2.1 hK.1 hI.1 3 rfl rfl 1 (by decide) (ht _ wfX2_15) (fun _ h9 => h9) rfl hd k)) (rx_any_c (rx_hV_ok S ⟨Nat.zero_le _, Nat.zero_le _⟩ cK_tr hK (cwV 0 S.2.2.2.2 (wsA_V wkX2_100 wiX0_segmentCount weX0_segmentCount winiX0 wX0_segmentCount) rfl rfl rfl (by decide +kernel) ⟨by decide, by decide⟩) (ct_X0_segmentCount l D ad cB) (fun w H hP => va_recv hK.1 hP (rfl : vwCl[0]? = some (RX0, TX0, 1)) (rfl : (cW ad cB w)[2]? = some _))) (rx_any_c (rx_hV_ok S ⟨Nat.zero_le _, Nat.zero_le _⟩ cK_tr hK (cwV 0 S.2.2.2.2 (wsA_V wkX2_107 wiX0_sectionCount weX0_sectionCount winiX0 wX0_sectionCount) rfl rfl rfl (by decide +kernel) ⟨by decide, by decide⟩) (ct_X0_sectionCount l D ad cB) (fun w H hP => va_recv hK.1 hP (rfl : vwCl[0]? = some (RX0, TX0, 1)) (rfl : (cW ad cB w)[2]? = some _))) (rx_any_c (rx_hV_ok S ⟨Nat.zero_le _, Nat.zero_le _⟩ cK_tr hK (cwV 2 S.2.2.2.2 (wsA_V wkX2_110 wiX2_tableIsInFile weX2_tableIsInFile winiX2 wX2_tableIsInFile) rfl rfl rfl (by decide +kernel) ⟨by decide, by decide⟩) (ct_X2_tableIsInFile l D ad cB) (fun w H hP => va_recv hK.1 hP (rfl : vwCl[2]? = some (RX2, TX2, 3)) (rfl : (cW ad cB w)[3]? = some _))) (rx_any_c (rx_hL_ok S (ht _ wcX2_98)) (rx_any_c (rx_hS_ok S ⟨Nat.zero_le _, Nat.zero_le _⟩ cK_tr hK (va_cwS 4 S.2.2.2.2 (wsA_S wkX2_114 wsX2_overlap winiX2 wX2_overlap) rfl rfl rfl (by decide +kernel) ⟨by decide, by decide⟩) (ct_X2_overlap l D ad cB)) (rx_any_0))))))))
set_option maxHeartbeats 4000000 in
set_option maxRecDepth 100000 in
theorem ct_X2_tablesAreGood (l : Launch) (D : va_G) (ad : Nat → Nat) (cB : ClassId) : ctC l yX2_tablesAreGood cX2_tablesAreGood 7 (some .boolean) rX2_tablesAreGood D ad cB [.ref (ad 3)] fX2_tablesAreGood := by
  intro w as g w1 r hf hg
  unfold fX2_tablesAreGood at hf
  split at hf
  · cases hf
    exact tr_of rx_nc 0 200 0 (by decide) rfl rfl (Nat.le_of_ble_eq_true rfl) pX2_tablesAreGood_ok (rt_z _) (eo_X2_tablesAreGood l D ad cB) (fun pc g h => by cases h) (by
      simp only [pX2_tablesAreGood, eX2_tablesAreGood, fX0_sectionCount, fX0_segmentCount, fX1_number, fX2_overlap, fX2_tableIsInFile, rx_n, rx_s, rx_to, rx_get, rx_f1, rx_f2, rx_two, rx_ext, rx_any, rx_hV, rx_hS, rx_hG, rx_hP, rx_hAi, rx_hAb, rx_hL, rx_hLi, rx_got, rx_pop, rx_sum, rx_len, rx_c, rx_m1, lv_args, Value.category, rx_cut_n, rx_cut_1, rx_iconst, rx_bipush, rx_sipush, rx_lconst, rx_iload_n, rx_iload, rx_lload_n, rx_lload, rx_aload_n, rx_aload, rx_istore_n, rx_istore, rx_lstore_n, rx_lstore, rx_astore_n, rx_astore, rx_iinc, rx_iadd, rx_isub, rx_imul, rx_iand, rx_ixor, rx_ishr, rx_idiv, rx_irem, rx_ladd, rx_lsub, rx_land, rx_lor, rx_lxor, rx_lmul, rx_ldiv, rx_lrem, rx_lushr, rx_lshl, rx_lshr, rx_lneg, rx_i2l, rx_l2i, rx_i2b, rx_lcmp, rx_dup_i, rx_dup_a, rx_pop_i, rx_pop_a, rx_if_eq, rx_if_ne, rx_if_lt, rx_if_ge, rx_if_gt, rx_if_le, rx_icmp_eq, rx_icmp_ne, rx_icmp_lt, rx_icmp_ge, rx_icmp_gt, rx_icmp_le, rx_goto, rx_tsw, rx_ireturn, rx_lreturn, rx_return_, rx_getfield, rx_putfield, rx_invokevirtual, rx_invokespecial, rx_invokestatic, rx_ldc, rx_ldc2_w, rx_iaload, rx_iastore, rx_baload, rx_bastore, Nat.reduceBEq, Nat.reduceAdd, Nat.reduceSub, Nat.reduceMul, Nat.reduceLeDiff, Nat.reduceEqDiff, Nat.reduceLT, Int.reduceLT, Int.reduceLE, Int.reduceNeg, Int.reduceToNat, Int.reduceAdd, Fin.isValue, Fin.val_zero, Fin.val_one, Fin.reduceFinMk, Fin.val_ofNat, Bool.or_true, Bool.true_or, Bool.or_false, Bool.false_or, Bool.and_true, Bool.true_and, Bool.and_false, Bool.false_and, cond_true, cond_false, ↓reduceIte, eq_self, ne_eq, not_true_eq_false, not_false_eq_true, true_and, and_true, Option.toList_some, Option.toList_none, List.cons_append, List.nil_append, Option.some.injEq, Value.int.injEq, Value.long.injEq, rx_l0, rx_l1, rx_fv0, rx_fv1, rx_fv2, rx_fv3, nI_c1, nI_c2, nI_c4, nI_c8, nI_c9, nI_c24, nI_c64, Nat.le_refl, bI_z, bI_0, bI_1, Classical.not_not, lg_cmp_ge, lg_cmp_le, lg_cmp_gt, lg_cmp_lt, lg_cmp_eq]
      have h1 := nu_8 w.1 32
      have h2 := nu_8 w.1 40
      have h3 := nu_2 w.1 56
      have h4 := nu_2 w.1 60
      have h5 := bn_le w.1
      simp (disch := omega) only [nm_K, pk_mul, nI_clamp, nI_l, uN_lN]
      generalize nu w.1 32 8 = p1 at h1 ⊢
      generalize nu w.1 40 8 = p2 at h2 ⊢
      generalize nu w.1 56 2 = c1 at h3 ⊢
      generalize nu w.1 60 2 = c2 at h4 ⊢
      generalize bn w.1 = n at h5 ⊢
      refine ⟨⟨by omega, trivial⟩, fun a q => a q.1, fun a => ⟨⟨by omega, trivial⟩, fun b q => b q.2.1, fun b => ?_⟩⟩
      rw [ov_m (p := 0) (l := 64) (q := p1) (by omega) (by omega) (by omega) (by omega), ov_m (p := 0) (l := 64) (q := p2) (by omega) (by omega) (by omega) (by omega), ov_m (p := p1) (by omega) (by omega) (by omega) (by omega)]
      unfold tOK
      exact ⟨fun c q => q.2.2.1 c, fun c => ⟨fun d q => q.2.2.2.1 d, fun d => ⟨fun e q => q.2.2.2.2 e, fun e => ⟨a, b, c, d, e⟩⟩⟩⟩)
  · cases hf
def pX2_isZeroOrPowerOfTwo : rx_P := [(0, .lload_n 0, 0), (1, .lload_n 0, 0), (2, .lconst 1, 0), (3, .lsub, 0), (4, .land, 0), (5, .lconst 0, 0), (6, .lcmp, 0), (7, .ifCond .ne 7, 14), (10, .iconst 1, 0), (11, .goto 4, 15), (14, .iconst 0, 0), (15, .ireturn, 0)]
theorem pX2_isZeroOrPowerOfTwo_ok : ∀ q ∈ pX2_isZeroOrPowerOfTwo, rx_ok cX2_isZeroOrPowerOfTwo q := rx_ok_all (by decide +kernel)
abbrev rX2_isZeroOrPowerOfTwo : Room := { frames := 0, cells := 0, slots := 0, locals := 0 }
noncomputable def fX2_isZeroOrPowerOfTwo : rx_F cS := fun w as => match as with
  | [.long x] => some (True, w, some (.int (bI (pw (uN x)))))
  | _ => none
noncomputable def eX2_isZeroOrPowerOfTwo (ad : Nat → Nat) : rx_E cS := rx_any []
set_option maxHeartbeats 4000000 in
set_option maxRecDepth 100000 in
theorem eo_X2_isZeroOrPowerOfTwo (l : Launch) (D : va_G) (ad : Nat → Nat) (cB : ClassId) : ∀ (p : Program) (e : Env) (s : State) (m : MethodId) (args : Array Value) (below : List Frame) (meth : Method) (c : Code) (Qw : State → Prop), CallFix p m c cX2_isZeroOrPowerOfTwo 2 s args (Cond.code yX2_isZeroOrPowerOfTwo cX2_isZeroOrPowerOfTwo 2 (some .boolean) :: wsA) RX2 → cK D cB s → rx_Eok (fun H locs g => W p l e rX2_isZeroOrPowerOfTwo s m args below meth c H locs 0 0 Qw g) m cX2_isZeroOrPowerOfTwo 2 (tr_I D vwCl (cA ad) s (cW ad cB)) (eX2_isZeroOrPowerOfTwo ad) := by
  intro p e s m args below meth c Qw S hK
  have ht : ∀ w ∈ wsA, w.before args s = true := fun w h => S.2.2.2.2 w (wsA_in h)
  exact rx_any_0
set_option maxHeartbeats 4000000 in
set_option maxRecDepth 100000 in
theorem ct_X2_isZeroOrPowerOfTwo (l : Launch) (D : va_G) (ad : Nat → Nat) (cB : ClassId) : ctC l yX2_isZeroOrPowerOfTwo cX2_isZeroOrPowerOfTwo 2 (some .boolean) rX2_isZeroOrPowerOfTwo D ad cB [] fX2_isZeroOrPowerOfTwo := by
  intro w as g w1 r hf hg
  unfold fX2_isZeroOrPowerOfTwo at hf
  split at hf
  · next x =>
    cases hf
    exact tr_of rx_nc 0 200 0 (by decide) rfl rfl (Nat.le_of_ble_eq_true rfl) pX2_isZeroOrPowerOfTwo_ok (rt_z _) (eo_X2_isZeroOrPowerOfTwo l D ad cB) (fun pc g h => by cases h) (by
      simp only [pX2_isZeroOrPowerOfTwo, eX2_isZeroOrPowerOfTwo, rx_n, rx_s, rx_to, rx_get, rx_f1, rx_f2, rx_two, rx_ext, rx_any, rx_hV, rx_hS, rx_hG, rx_hP, rx_hAi, rx_hAb, rx_hL, rx_hLi, rx_got, rx_pop, rx_sum, rx_len, rx_c, rx_m1, lv_args, Value.category, rx_cut_n, rx_cut_1, rx_iconst, rx_bipush, rx_sipush, rx_lconst, rx_iload_n, rx_iload, rx_lload_n, rx_lload, rx_aload_n, rx_aload, rx_istore_n, rx_istore, rx_lstore_n, rx_lstore, rx_astore_n, rx_astore, rx_iinc, rx_iadd, rx_isub, rx_imul, rx_iand, rx_ixor, rx_ishr, rx_idiv, rx_irem, rx_ladd, rx_lsub, rx_land, rx_lor, rx_lxor, rx_lmul, rx_ldiv, rx_lrem, rx_lushr, rx_lshl, rx_lshr, rx_lneg, rx_i2l, rx_l2i, rx_i2b, rx_lcmp, rx_dup_i, rx_dup_a, rx_pop_i, rx_pop_a, rx_if_eq, rx_if_ne, rx_if_lt, rx_if_ge, rx_if_gt, rx_if_le, rx_icmp_eq, rx_icmp_ne, rx_icmp_lt, rx_icmp_ge, rx_icmp_gt, rx_icmp_le, rx_goto, rx_tsw, rx_ireturn, rx_lreturn, rx_return_, rx_getfield, rx_putfield, rx_invokevirtual, rx_invokespecial, rx_invokestatic, rx_ldc, rx_ldc2_w, rx_iaload, rx_iastore, rx_baload, rx_bastore, Nat.reduceBEq, Nat.reduceAdd, Nat.reduceSub, Nat.reduceMul, Nat.reduceLeDiff, Nat.reduceEqDiff, Nat.reduceLT, Int.reduceLT, Int.reduceLE, Int.reduceNeg, Int.reduceToNat, Int.reduceAdd, Fin.isValue, Fin.val_zero, Fin.val_one, Fin.reduceFinMk, Fin.val_ofNat, Bool.or_true, Bool.true_or, Bool.or_false, Bool.false_or, Bool.and_true, Bool.true_and, Bool.and_false, Bool.false_and, cond_true, cond_false, ↓reduceIte, eq_self, ne_eq, not_true_eq_false, not_false_eq_true, true_and, and_true, Option.toList_some, Option.toList_none, List.cons_append, List.nil_append, Option.some.injEq, Value.int.injEq, Value.long.injEq, rx_l0, rx_l1, rx_fv0, rx_fv1, rx_fv2, rx_fv3, nI_c1, nI_c2, nI_c4, nI_c8, nI_c9, nI_c24, nI_c64, Nat.le_refl, bI_z, bI_0, bI_1, Classical.not_not, lg_cmp_ge, lg_cmp_le, lg_cmp_gt, lg_cmp_lt, lg_cmp_eq]
      simp only [pw_iff]
      exact ⟨fun h => h, fun h => h⟩)
  · cases hf
def pX2_isMultiple : rx_P := [(0, .lload_n 0, 0), (1, .lload_n 2, 0), (2, .lconst 1, 0), (3, .lsub, 0), (4, .land, 0), (5, .lconst 0, 0), (6, .lcmp, 0), (7, .ifCond .ne 7, 14), (10, .iconst 1, 0), (11, .goto 4, 15), (14, .iconst 0, 0), (15, .ireturn, 0)]
theorem pX2_isMultiple_ok : ∀ q ∈ pX2_isMultiple, rx_ok cX2_isMultiple q := rx_ok_all (by decide +kernel)
abbrev rX2_isMultiple : Room := { frames := 0, cells := 0, slots := 0, locals := 0 }
noncomputable def fX2_isMultiple : rx_F cS := fun w as => match as with
  | [.long x, .long y] => some (True, w, some (.int (bI (x &&& (y - lN 1) = lN 0))))
  | _ => none
noncomputable def eX2_isMultiple (ad : Nat → Nat) : rx_E cS := rx_any []
set_option maxHeartbeats 4000000 in
set_option maxRecDepth 100000 in
theorem eo_X2_isMultiple (l : Launch) (D : va_G) (ad : Nat → Nat) (cB : ClassId) : ∀ (p : Program) (e : Env) (s : State) (m : MethodId) (args : Array Value) (below : List Frame) (meth : Method) (c : Code) (Qw : State → Prop), CallFix p m c cX2_isMultiple 4 s args (Cond.code yX2_isMultiple cX2_isMultiple 4 (some .boolean) :: wsA) RX2 → cK D cB s → rx_Eok (fun H locs g => W p l e rX2_isMultiple s m args below meth c H locs 0 0 Qw g) m cX2_isMultiple 4 (tr_I D vwCl (cA ad) s (cW ad cB)) (eX2_isMultiple ad) := by
  intro p e s m args below meth c Qw S hK
  have ht : ∀ w ∈ wsA, w.before args s = true := fun w h => S.2.2.2.2 w (wsA_in h)
  exact rx_any_0
set_option maxHeartbeats 4000000 in
set_option maxRecDepth 100000 in
theorem ct_X2_isMultiple (l : Launch) (D : va_G) (ad : Nat → Nat) (cB : ClassId) : ctC l yX2_isMultiple cX2_isMultiple 4 (some .boolean) rX2_isMultiple D ad cB [] fX2_isMultiple := by
  intro w as g w1 r hf hg
  unfold fX2_isMultiple at hf
  split at hf
  · next x y =>
    cases hf
    exact tr_of rx_nc 0 200 0 (by decide) rfl rfl (Nat.le_of_ble_eq_true rfl) pX2_isMultiple_ok (rt_z _) (eo_X2_isMultiple l D ad cB) (fun pc g h => by cases h) (by
      simp only [pX2_isMultiple, eX2_isMultiple, rx_n, rx_s, rx_to, rx_get, rx_f1, rx_f2, rx_two, rx_ext, rx_any, rx_hV, rx_hS, rx_hG, rx_hP, rx_hAi, rx_hAb, rx_hL, rx_hLi, rx_got, rx_pop, rx_sum, rx_len, rx_c, rx_m1, lv_args, Value.category, rx_cut_n, rx_cut_1, rx_iconst, rx_bipush, rx_sipush, rx_lconst, rx_iload_n, rx_iload, rx_lload_n, rx_lload, rx_aload_n, rx_aload, rx_istore_n, rx_istore, rx_lstore_n, rx_lstore, rx_astore_n, rx_astore, rx_iinc, rx_iadd, rx_isub, rx_imul, rx_iand, rx_ixor, rx_ishr, rx_idiv, rx_irem, rx_ladd, rx_lsub, rx_land, rx_lor, rx_lxor, rx_lmul, rx_ldiv, rx_lrem, rx_lushr, rx_lshl, rx_lshr, rx_lneg, rx_i2l, rx_l2i, rx_i2b, rx_lcmp, rx_dup_i, rx_dup_a, rx_pop_i, rx_pop_a, rx_if_eq, rx_if_ne, rx_if_lt, rx_if_ge, rx_if_gt, rx_if_le, rx_icmp_eq, rx_icmp_ne, rx_icmp_lt, rx_icmp_ge, rx_icmp_gt, rx_icmp_le, rx_goto, rx_tsw, rx_ireturn, rx_lreturn, rx_return_, rx_getfield, rx_putfield, rx_invokevirtual, rx_invokespecial, rx_invokestatic, rx_ldc, rx_ldc2_w, rx_iaload, rx_iastore, rx_baload, rx_bastore, Nat.reduceBEq, Nat.reduceAdd, Nat.reduceSub, Nat.reduceMul, Nat.reduceLeDiff, Nat.reduceEqDiff, Nat.reduceLT, Int.reduceLT, Int.reduceLE, Int.reduceNeg, Int.reduceToNat, Int.reduceAdd, Fin.isValue, Fin.val_zero, Fin.val_one, Fin.reduceFinMk, Fin.val_ofNat, Bool.or_true, Bool.true_or, Bool.or_false, Bool.false_or, Bool.and_true, Bool.true_and, Bool.and_false, Bool.false_and, cond_true, cond_false, ↓reduceIte, eq_self, ne_eq, not_true_eq_false, not_false_eq_true, true_and, and_true, Option.toList_some, Option.toList_none, List.cons_append, List.nil_append, Option.some.injEq, Value.int.injEq, Value.long.injEq, rx_l0, rx_l1, rx_fv0, rx_fv1, rx_fv2, rx_fv3, nI_c1, nI_c2, nI_c4, nI_c8, nI_c9, nI_c24, nI_c64, Nat.le_refl, bI_z, bI_0, bI_1, Classical.not_not, lg_cmp_ge, lg_cmp_le, lg_cmp_gt, lg_cmp_lt, lg_cmp_eq]
      exact ⟨fun h => h, fun h => h⟩)
  · cases hf
def pX2_endsInMemory : rx_P := [(0, .lload_n 0, 0), (1, .lconst 0, 0), (2, .lcmp, 0), (3, .ifCond .eq 12, 15), (6, .lload_n 0, 0), (7, .lneg, 0), (8, .lload_n 2, 0), (9, .invokestatic 135, 0), (12, .ifCond .ne 7, 19), (15, .iconst 1, 0), (16, .goto 4, 20), (19, .iconst 0, 0), (20, .ireturn, 0)]
theorem pX2_endsInMemory_ok : ∀ q ∈ pX2_endsInMemory, rx_ok cX2_endsInMemory q := rx_ok_all (by decide +kernel)
abbrev rX2_endsInMemory : Room := { frames := 1, cells := 0, slots := 0, locals := 23 }
noncomputable def fX2_endsInMemory : rx_F cS := fun w as => match as with
  | [.long x, .long y] => some (True, w, some (.int (bI (uN x + uN y ≤ 18446744073709551616))))
  | _ => none
noncomputable def eX2_endsInMemory (ad : Nat → Nat) : rx_E cS := rx_any [rx_hS 135 2 fX1_isBelow]
set_option maxHeartbeats 4000000 in
set_option maxRecDepth 100000 in
theorem eo_X2_endsInMemory (l : Launch) (D : va_G) (ad : Nat → Nat) (cB : ClassId) : ∀ (p : Program) (e : Env) (s : State) (m : MethodId) (args : Array Value) (below : List Frame) (meth : Method) (c : Code) (Qw : State → Prop), CallFix p m c cX2_endsInMemory 4 s args (Cond.code yX2_endsInMemory cX2_endsInMemory 4 (some .boolean) :: wsA) RX2 → cK D cB s → rx_Eok (fun H locs g => W p l e rX2_endsInMemory s m args below meth c H locs 0 0 Qw g) m cX2_endsInMemory 4 (tr_I D vwCl (cA ad) s (cW ad cB)) (eX2_endsInMemory ad) := by
  intro p e s m args below meth c Qw S hK
  have ht : ∀ w ∈ wsA, w.before args s = true := fun w h => S.2.2.2.2 w (wsA_in h)
  exact rx_any_c (rx_hS_ok S ⟨Nat.zero_le _, Nat.zero_le _⟩ cK_tr hK (va_cwS 2 S.2.2.2.2 (wsA_S wkX2_135 wsX1_isBelow winiX1 wX1_isBelow) rfl rfl rfl (by decide +kernel) ⟨by decide, by decide⟩) (ct_X1_isBelow l D ad cB)) (rx_any_0)
set_option maxHeartbeats 4000000 in
set_option maxRecDepth 100000 in
theorem ct_X2_endsInMemory (l : Launch) (D : va_G) (ad : Nat → Nat) (cB : ClassId) : ctC l yX2_endsInMemory cX2_endsInMemory 4 (some .boolean) rX2_endsInMemory D ad cB [] fX2_endsInMemory := by
  intro w as g w1 r hf hg
  unfold fX2_endsInMemory at hf
  split at hf
  · next x y =>
    cases hf
    exact tr_of rx_nc 0 200 0 (by decide) rfl rfl (Nat.le_of_ble_eq_true rfl) pX2_endsInMemory_ok (rt_z _) (eo_X2_endsInMemory l D ad cB) (fun pc g h => by cases h) (by
      simp only [pX2_endsInMemory, eX2_endsInMemory, fX1_isBelow, rx_n, rx_s, rx_to, rx_get, rx_f1, rx_f2, rx_two, rx_ext, rx_any, rx_hV, rx_hS, rx_hG, rx_hP, rx_hAi, rx_hAb, rx_hL, rx_hLi, rx_got, rx_pop, rx_sum, rx_len, rx_c, rx_m1, lv_args, Value.category, rx_cut_n, rx_cut_1, rx_iconst, rx_bipush, rx_sipush, rx_lconst, rx_iload_n, rx_iload, rx_lload_n, rx_lload, rx_aload_n, rx_aload, rx_istore_n, rx_istore, rx_lstore_n, rx_lstore, rx_astore_n, rx_astore, rx_iinc, rx_iadd, rx_isub, rx_imul, rx_iand, rx_ixor, rx_ishr, rx_idiv, rx_irem, rx_ladd, rx_lsub, rx_land, rx_lor, rx_lxor, rx_lmul, rx_ldiv, rx_lrem, rx_lushr, rx_lshl, rx_lshr, rx_lneg, rx_i2l, rx_l2i, rx_i2b, rx_lcmp, rx_dup_i, rx_dup_a, rx_pop_i, rx_pop_a, rx_if_eq, rx_if_ne, rx_if_lt, rx_if_ge, rx_if_gt, rx_if_le, rx_icmp_eq, rx_icmp_ne, rx_icmp_lt, rx_icmp_ge, rx_icmp_gt, rx_icmp_le, rx_goto, rx_tsw, rx_ireturn, rx_lreturn, rx_return_, rx_getfield, rx_putfield, rx_invokevirtual, rx_invokespecial, rx_invokestatic, rx_ldc, rx_ldc2_w, rx_iaload, rx_iastore, rx_baload, rx_bastore, Nat.reduceBEq, Nat.reduceAdd, Nat.reduceSub, Nat.reduceMul, Nat.reduceLeDiff, Nat.reduceEqDiff, Nat.reduceLT, Int.reduceLT, Int.reduceLE, Int.reduceNeg, Int.reduceToNat, Int.reduceAdd, Fin.isValue, Fin.val_zero, Fin.val_one, Fin.reduceFinMk, Fin.val_ofNat, Bool.or_true, Bool.true_or, Bool.or_false, Bool.false_or, Bool.and_true, Bool.true_and, Bool.and_false, Bool.false_and, cond_true, cond_false, ↓reduceIte, eq_self, ne_eq, not_true_eq_false, not_false_eq_true, true_and, and_true, Option.toList_some, Option.toList_none, List.cons_append, List.nil_append, Option.some.injEq, Value.int.injEq, Value.long.injEq, rx_l0, rx_l1, rx_fv0, rx_fv1, rx_fv2, rx_fv3, nI_c1, nI_c2, nI_c4, nI_c8, nI_c9, nI_c24, nI_c64, Nat.le_refl, bI_z, bI_0, bI_1, Classical.not_not, lg_cmp_ge, lg_cmp_le, lg_cmp_gt, lg_cmp_lt, lg_cmp_eq]
      have h1 := uN_lt x
      have h2 := uN_lt y
      simp only [uN_z, uN_neg]
      refine ⟨fun h => ?_, fun h => ⟨fun h => ?_, fun h => ?_⟩⟩ <;> omega)
  · cases hf
def pX2_segmentIsGood : rx_P := [(0, .aload_n 0, 0), (1, .getfield 9, 0), (4, .iload_n 1, 0), (5, .bipush 8, 0), (7, .iadd, 0), (8, .bipush 8, 0), (10, .invokevirtual 76, 0), (13, .lstore_n 2, 0), (14, .aload_n 0, 0), (15, .getfield 9, 0), (18, .iload_n 1, 0), (19, .bipush 16, 0), (21, .iadd, 0), (22, .bipush 8, 0), (24, .invokevirtual 76, 0), (27, .lstore 4, 0), (29, .aload_n 0, 0), (30, .getfield 9, 0), (33, .iload_n 1, 0), (34, .bipush 32, 0), (36, .iadd, 0), (37, .bipush 8, 0), (39, .invokevirtual 76, 0), (42, .lstore 6, 0), (44, .aload_n 0, 0), (45, .getfield 9, 0), (48, .iload_n 1, 0), (49, .bipush 40, 0), (51, .iadd, 0), (52, .bipush 8, 0), (54, .invokevirtual 76, 0), (57, .lstore 8, 0), (59, .aload_n 0, 0), (60, .getfield 9, 0), (63, .iload_n 1, 0), (64, .bipush 48, 0), (66, .iadd, 0), (67, .bipush 8, 0), (69, .invokevirtual 76, 0), (72, .lstore 10, 0), (74, .lload 10, 0), (76, .invokestatic 131, 0), (79, .ifCond .eq 59, 138), (82, .aload_n 0, 0), (83, .getfield 9, 0), (86, .lload_n 2, 0), (87, .lload 6, 0), (89, .invokevirtual 120, 0), (92, .ifCond .eq 46, 138), (95, .lload 8, 0), (97, .lload 6, 0), (99, .invokestatic 135, 0), (102, .ifCond .ne 36, 138), (105, .lload 4, 0), (107, .lload 8, 0), (109, .invokestatic 138, 0), (112, .ifCond .eq 26, 138), (115, .lload 10, 0), (117, .lconst 0, 0), (118, .lcmp, 0), (119, .ifCond .eq 15, 134), (122, .lload 4, 0), (124, .lload_n 2, 0), (125, .lsub, 0), (126, .lload 10, 0), (128, .invokestatic 141, 0), (131, .ifCond .eq 7, 138), (134, .iconst 1, 0), (135, .goto 4, 139), (138, .iconst 0, 0), (139, .ireturn, 0)]
theorem pX2_segmentIsGood_ok : ∀ q ∈ pX2_segmentIsGood, rx_ok cX2_segmentIsGood q := rx_ok_all (by decide +kernel)
abbrev rX2_segmentIsGood : Room := { frames := 2, cells := 0, slots := 0, locals := 47 }
noncomputable def fX2_segmentIsGood : rx_F cS := fun w as => match as with
  | [.int x] => some (True, w, some (.int (bI (gOK (bn w.1) (nm w.1 (x + nI 8) 8) (nm w.1 (x + nI 16) 8) (nm w.1 (x + nI 32) 8) (nm w.1 (x + nI 40) 8) (nm w.1 (x + nI 48) 8)))))
  | _ => none
noncomputable def eX2_segmentIsGood (ad : Nat → Nat) : rx_E cS := rx_any [rx_hG 9 (ad 3) (fun w => .ref (ad 1)), rx_hV 76 2 (ad 1) fX1_number, rx_hS 131 1 fX2_isZeroOrPowerOfTwo, rx_hV 120 2 (ad 1) fX1_hasRoom, rx_hS 135 2 fX1_isBelow, rx_hS 138 2 fX2_endsInMemory, rx_hS 141 2 fX2_isMultiple]
set_option maxHeartbeats 4000000 in
set_option maxRecDepth 100000 in
theorem eo_X2_segmentIsGood (l : Launch) (D : va_G) (ad : Nat → Nat) (cB : ClassId) : ∀ (p : Program) (e : Env) (s : State) (m : MethodId) (args : Array Value) (below : List Frame) (meth : Method) (c : Code) (Qw : State → Prop), CallFix p m c cX2_segmentIsGood 12 s args (Cond.code yX2_segmentIsGood cX2_segmentIsGood 12 (some .boolean) :: wsA) RX2 → cK D cB s → rx_Eok (fun H locs g => W p l e rX2_segmentIsGood s m args below meth c H locs 0 0 Qw g) m cX2_segmentIsGood 12 (tr_I D vwCl (cA ad) s (cW ad cB)) (eX2_segmentIsGood ad) := by
  intro p e s m args below meth c Qw S hK
  have ht : ∀ w ∈ wsA, w.before args s = true := fun w h => S.2.2.2.2 w (wsA_in h)
  exact rx_any_c (rx_hG_ok (fun w H locs pc ls rest hI hd k => va_get (D := D) (ci := 2) (C := RX2) (T := TX2) (N := 3) S.1 S.2.1 ht inX2 S.2.2.2.1 hK.1 hI.1 3 rfl rfl 0 (by decide) (ht _ wfX2_9) (fun _ h9 => h9) rfl hd k)) (rx_any_c (rx_hV_ok S ⟨Nat.zero_le _, Nat.zero_le _⟩ cK_tr hK (cwV 2 S.2.2.2.2 (wsA_V wkX2_76 wiX1_number weX1_number winiX1 wX1_number) rfl rfl rfl (by decide +kernel) ⟨by decide, by decide⟩) (ct_X1_number l D ad cB) (fun w H hP => va_recv hK.1 hP (rfl : vwCl[1]? = some (RX1, TX1, 2)) (rfl : (cW ad cB w)[1]? = some _))) (rx_any_c (rx_hS_ok S ⟨Nat.zero_le _, Nat.zero_le _⟩ cK_tr hK (va_cwS 1 S.2.2.2.2 (wsA_S wkX2_131 wsX2_isZeroOrPowerOfTwo winiX2 wX2_isZeroOrPowerOfTwo) rfl rfl rfl (by decide +kernel) ⟨by decide, by decide⟩) (ct_X2_isZeroOrPowerOfTwo l D ad cB)) (rx_any_c (rx_hV_ok S ⟨Nat.zero_le _, Nat.zero_le _⟩ cK_tr hK (cwV 2 S.2.2.2.2 (wsA_V wkX2_120 wiX1_hasRoom weX1_hasRoom winiX1 wX1_hasRoom) rfl rfl rfl (by decide +kernel) ⟨by decide, by decide⟩) (ct_X1_hasRoom l D ad cB) (fun w H hP => va_recv hK.1 hP (rfl : vwCl[1]? = some (RX1, TX1, 2)) (rfl : (cW ad cB w)[1]? = some _))) (rx_any_c (rx_hS_ok S ⟨Nat.zero_le _, Nat.zero_le _⟩ cK_tr hK (va_cwS 2 S.2.2.2.2 (wsA_S wkX2_135 wsX1_isBelow winiX1 wX1_isBelow) rfl rfl rfl (by decide +kernel) ⟨by decide, by decide⟩) (ct_X1_isBelow l D ad cB)) (rx_any_c (rx_hS_ok S ⟨Nat.zero_le _, Nat.zero_le _⟩ cK_tr hK (va_cwS 2 S.2.2.2.2 (wsA_S wkX2_138 wsX2_endsInMemory winiX2 wX2_endsInMemory) rfl rfl rfl (by decide +kernel) ⟨by decide, by decide⟩) (ct_X2_endsInMemory l D ad cB)) (rx_any_c (rx_hS_ok S ⟨Nat.zero_le _, Nat.zero_le _⟩ cK_tr hK (va_cwS 2 S.2.2.2.2 (wsA_S wkX2_141 wsX2_isMultiple winiX2 wX2_isMultiple) rfl rfl rfl (by decide +kernel) ⟨by decide, by decide⟩) (ct_X2_isMultiple l D ad cB)) (rx_any_0)))))))
set_option maxHeartbeats 4000000 in
set_option maxRecDepth 100000 in
theorem ct_X2_segmentIsGood (l : Launch) (D : va_G) (ad : Nat → Nat) (cB : ClassId) : ctC l yX2_segmentIsGood cX2_segmentIsGood 12 (some .boolean) rX2_segmentIsGood D ad cB [.ref (ad 3)] fX2_segmentIsGood := by
  intro w as g w1 r hf hg
  unfold fX2_segmentIsGood at hf
  split at hf
  · next x =>
    cases hf
    exact tr_of rx_nc 0 200 0 (by decide) rfl rfl (Nat.le_of_ble_eq_true rfl) pX2_segmentIsGood_ok (rt_z _) (eo_X2_segmentIsGood l D ad cB) (fun pc g h => by cases h) (by
      simp only [pX2_segmentIsGood, eX2_segmentIsGood, fX1_hasRoom, fX1_isBelow, fX1_number, fX2_endsInMemory, fX2_isMultiple, fX2_isZeroOrPowerOfTwo, rx_n, rx_s, rx_to, rx_get, rx_f1, rx_f2, rx_two, rx_ext, rx_any, rx_hV, rx_hS, rx_hG, rx_hP, rx_hAi, rx_hAb, rx_hL, rx_hLi, rx_got, rx_pop, rx_sum, rx_len, rx_c, rx_m1, lv_args, Value.category, rx_cut_n, rx_cut_1, rx_iconst, rx_bipush, rx_sipush, rx_lconst, rx_iload_n, rx_iload, rx_lload_n, rx_lload, rx_aload_n, rx_aload, rx_istore_n, rx_istore, rx_lstore_n, rx_lstore, rx_astore_n, rx_astore, rx_iinc, rx_iadd, rx_isub, rx_imul, rx_iand, rx_ixor, rx_ishr, rx_idiv, rx_irem, rx_ladd, rx_lsub, rx_land, rx_lor, rx_lxor, rx_lmul, rx_ldiv, rx_lrem, rx_lushr, rx_lshl, rx_lshr, rx_lneg, rx_i2l, rx_l2i, rx_i2b, rx_lcmp, rx_dup_i, rx_dup_a, rx_pop_i, rx_pop_a, rx_if_eq, rx_if_ne, rx_if_lt, rx_if_ge, rx_if_gt, rx_if_le, rx_icmp_eq, rx_icmp_ne, rx_icmp_lt, rx_icmp_ge, rx_icmp_gt, rx_icmp_le, rx_goto, rx_tsw, rx_ireturn, rx_lreturn, rx_return_, rx_getfield, rx_putfield, rx_invokevirtual, rx_invokespecial, rx_invokestatic, rx_ldc, rx_ldc2_w, rx_iaload, rx_iastore, rx_baload, rx_bastore, Nat.reduceBEq, Nat.reduceAdd, Nat.reduceSub, Nat.reduceMul, Nat.reduceLeDiff, Nat.reduceEqDiff, Nat.reduceLT, Int.reduceLT, Int.reduceLE, Int.reduceNeg, Int.reduceToNat, Int.reduceAdd, Fin.isValue, Fin.val_zero, Fin.val_one, Fin.reduceFinMk, Fin.val_ofNat, Bool.or_true, Bool.true_or, Bool.or_false, Bool.false_or, Bool.and_true, Bool.true_and, Bool.and_false, Bool.false_and, cond_true, cond_false, ↓reduceIte, eq_self, ne_eq, not_true_eq_false, not_false_eq_true, true_and, and_true, Option.toList_some, Option.toList_none, List.cons_append, List.nil_append, Option.some.injEq, Value.int.injEq, Value.long.injEq, rx_l0, rx_l1, rx_fv0, rx_fv1, rx_fv2, rx_fv3, nI_c1, nI_c2, nI_c4, nI_c8, nI_c9, nI_c24, nI_c64, Nat.le_refl, bI_z, bI_0, bI_1, Classical.not_not, lg_cmp_ge, lg_cmp_le, lg_cmp_gt, lg_cmp_lt, lg_cmp_eq]
      have h1 := nm_8 w.1 (x + nI 8)
      have h2 := nm_8 w.1 (x + nI 16)
      have h3 := nm_8 w.1 (x + nI 32)
      have h4 := nm_8 w.1 (x + nI 40)
      have h5 := nm_8 w.1 (x + nI 48)
      generalize nm w.1 (x + nI 8) 8 = pl at h1 ⊢
      generalize nm w.1 (x + nI 16) 8 = ad' at h2 ⊢
      generalize nm w.1 (x + nI 32) 8 = fl at h3 ⊢
      generalize nm w.1 (x + nI 40) 8 = ml at h4 ⊢
      generalize nm w.1 (x + nI 48) 8 = al at h5 ⊢
      simp only [uN_z, uN_lN h1, uN_lN h2, uN_lN h3, uN_lN h4, uN_lN h5]
      unfold gOK
      refine ⟨fun a q => a q.1, fun a => ⟨fun b q => b q.2.1, fun b => ⟨fun c q => by omega, fun c => ⟨fun d q => d q.2.2.2.1, fun d => ⟨fun e => ⟨a, b, by omega, d, Or.inl e⟩, fun e => ?_⟩⟩⟩⟩⟩
      rw [← uN_z, al_2 a e h5 h2 h1]
      exact ⟨fun f q => q.2.2.2.2.elim e f, fun f => ⟨a, b, by omega, d, Or.inr f⟩⟩)
  · cases hf
def pX2_beginsBehind : rx_P := [(0, .aload_n 0, 0), (1, .getfield 9, 0), (4, .iload_n 1, 0), (5, .bipush 16, 0), (7, .iadd, 0), (8, .bipush 8, 0), (10, .invokevirtual 76, 0), (13, .lstore_n 3, 0), (14, .aload_n 0, 0), (15, .getfield 9, 0), (18, .iload_n 2, 0), (19, .bipush 16, 0), (21, .iadd, 0), (22, .bipush 8, 0), (24, .invokevirtual 76, 0), (27, .lstore 5, 0), (29, .aload_n 0, 0), (30, .getfield 9, 0), (33, .iload_n 2, 0), (34, .bipush 40, 0), (36, .iadd, 0), (37, .bipush 8, 0), (39, .invokevirtual 76, 0), (42, .lstore 7, 0), (44, .lload_n 3, 0), (45, .lload 5, 0), (47, .invokestatic 135, 0), (50, .ifCond .ne 19, 69), (53, .lload_n 3, 0), (54, .lload 5, 0), (56, .lsub, 0), (57, .lload 7, 0), (59, .invokestatic 135, 0), (62, .ifCond .ne 7, 69), (65, .iconst 1, 0), (66, .goto 4, 70), (69, .iconst 0, 0), (70, .ireturn, 0)]
theorem pX2_beginsBehind_ok : ∀ q ∈ pX2_beginsBehind, rx_ok cX2_beginsBehind q := rx_ok_all (by decide +kernel)
abbrev rX2_beginsBehind : Room := { frames := 1, cells := 0, slots := 0, locals := 25 }
noncomputable def fX2_beginsBehind : rx_F cS := fun w as => match as with
  | [.int x, .int y] => some (True, w, some (.int (bI (nm w.1 (y + nI 16) 8 + nm w.1 (y + nI 40) 8 ≤ nm w.1 (x + nI 16) 8))))
  | _ => none
noncomputable def eX2_beginsBehind (ad : Nat → Nat) : rx_E cS := rx_any [rx_hG 9 (ad 3) (fun w => .ref (ad 1)), rx_hV 76 2 (ad 1) fX1_number, rx_hS 135 2 fX1_isBelow]
set_option maxHeartbeats 4000000 in
set_option maxRecDepth 100000 in
theorem eo_X2_beginsBehind (l : Launch) (D : va_G) (ad : Nat → Nat) (cB : ClassId) : ∀ (p : Program) (e : Env) (s : State) (m : MethodId) (args : Array Value) (below : List Frame) (meth : Method) (c : Code) (Qw : State → Prop), CallFix p m c cX2_beginsBehind 9 s args (Cond.code yX2_beginsBehind cX2_beginsBehind 9 (some .boolean) :: wsA) RX2 → cK D cB s → rx_Eok (fun H locs g => W p l e rX2_beginsBehind s m args below meth c H locs 0 0 Qw g) m cX2_beginsBehind 9 (tr_I D vwCl (cA ad) s (cW ad cB)) (eX2_beginsBehind ad) := by
  intro p e s m args below meth c Qw S hK
  have ht : ∀ w ∈ wsA, w.before args s = true := fun w h => S.2.2.2.2 w (wsA_in h)
  exact rx_any_c (rx_hG_ok (fun w H locs pc ls rest hI hd k => va_get (D := D) (ci := 2) (C := RX2) (T := TX2) (N := 3) S.1 S.2.1 ht inX2 S.2.2.2.1 hK.1 hI.1 3 rfl rfl 0 (by decide) (ht _ wfX2_9) (fun _ h9 => h9) rfl hd k)) (rx_any_c (rx_hV_ok S ⟨Nat.zero_le _, Nat.zero_le _⟩ cK_tr hK (cwV 2 S.2.2.2.2 (wsA_V wkX2_76 wiX1_number weX1_number winiX1 wX1_number) rfl rfl rfl (by decide +kernel) ⟨by decide, by decide⟩) (ct_X1_number l D ad cB) (fun w H hP => va_recv hK.1 hP (rfl : vwCl[1]? = some (RX1, TX1, 2)) (rfl : (cW ad cB w)[1]? = some _))) (rx_any_c (rx_hS_ok S ⟨Nat.zero_le _, Nat.zero_le _⟩ cK_tr hK (va_cwS 2 S.2.2.2.2 (wsA_S wkX2_135 wsX1_isBelow winiX1 wX1_isBelow) rfl rfl rfl (by decide +kernel) ⟨by decide, by decide⟩) (ct_X1_isBelow l D ad cB)) (rx_any_0)))
set_option maxHeartbeats 4000000 in
set_option maxRecDepth 100000 in
theorem ct_X2_beginsBehind (l : Launch) (D : va_G) (ad : Nat → Nat) (cB : ClassId) : ctC l yX2_beginsBehind cX2_beginsBehind 9 (some .boolean) rX2_beginsBehind D ad cB [.ref (ad 3)] fX2_beginsBehind := by
  intro w as g w1 r hf hg
  unfold fX2_beginsBehind at hf
  split at hf
  · next x y =>
    cases hf
    exact tr_of rx_nc 0 200 0 (by decide) rfl rfl (Nat.le_of_ble_eq_true rfl) pX2_beginsBehind_ok (rt_z _) (eo_X2_beginsBehind l D ad cB) (fun pc g h => by cases h) (by
      simp only [pX2_beginsBehind, eX2_beginsBehind, fX1_isBelow, fX1_number, rx_n, rx_s, rx_to, rx_get, rx_f1, rx_f2, rx_two, rx_ext, rx_any, rx_hV, rx_hS, rx_hG, rx_hP, rx_hAi, rx_hAb, rx_hL, rx_hLi, rx_got, rx_pop, rx_sum, rx_len, rx_c, rx_m1, lv_args, Value.category, rx_cut_n, rx_cut_1, rx_iconst, rx_bipush, rx_sipush, rx_lconst, rx_iload_n, rx_iload, rx_lload_n, rx_lload, rx_aload_n, rx_aload, rx_istore_n, rx_istore, rx_lstore_n, rx_lstore, rx_astore_n, rx_astore, rx_iinc, rx_iadd, rx_isub, rx_imul, rx_iand, rx_ixor, rx_ishr, rx_idiv, rx_irem, rx_ladd, rx_lsub, rx_land, rx_lor, rx_lxor, rx_lmul, rx_ldiv, rx_lrem, rx_lushr, rx_lshl, rx_lshr, rx_lneg, rx_i2l, rx_l2i, rx_i2b, rx_lcmp, rx_dup_i, rx_dup_a, rx_pop_i, rx_pop_a, rx_if_eq, rx_if_ne, rx_if_lt, rx_if_ge, rx_if_gt, rx_if_le, rx_icmp_eq, rx_icmp_ne, rx_icmp_lt, rx_icmp_ge, rx_icmp_gt, rx_icmp_le, rx_goto, rx_tsw, rx_ireturn, rx_lreturn, rx_return_, rx_getfield, rx_putfield, rx_invokevirtual, rx_invokespecial, rx_invokestatic, rx_ldc, rx_ldc2_w, rx_iaload, rx_iastore, rx_baload, rx_bastore, Nat.reduceBEq, Nat.reduceAdd, Nat.reduceSub, Nat.reduceMul, Nat.reduceLeDiff, Nat.reduceEqDiff, Nat.reduceLT, Int.reduceLT, Int.reduceLE, Int.reduceNeg, Int.reduceToNat, Int.reduceAdd, Fin.isValue, Fin.val_zero, Fin.val_one, Fin.reduceFinMk, Fin.val_ofNat, Bool.or_true, Bool.true_or, Bool.or_false, Bool.false_or, Bool.and_true, Bool.true_and, Bool.and_false, Bool.false_and, cond_true, cond_false, ↓reduceIte, eq_self, ne_eq, not_true_eq_false, not_false_eq_true, true_and, and_true, Option.toList_some, Option.toList_none, List.cons_append, List.nil_append, Option.some.injEq, Value.int.injEq, Value.long.injEq, rx_l0, rx_l1, rx_fv0, rx_fv1, rx_fv2, rx_fv3, nI_c1, nI_c2, nI_c4, nI_c8, nI_c9, nI_c24, nI_c64, Nat.le_refl, bI_z, bI_0, bI_1, Classical.not_not, lg_cmp_ge, lg_cmp_le, lg_cmp_gt, lg_cmp_lt, lg_cmp_eq]
      have h1 := nm_8 w.1 (x + nI 16)
      have h2 := nm_8 w.1 (y + nI 16)
      have h3 := nm_8 w.1 (y + nI 40)
      simp only [uN_lN h1, uN_lN h2, uN_lN h3, uN_sub]
      refine ⟨fun h => ?_, fun h => ⟨fun h => ?_, fun h => ?_⟩⟩ <;> omega)
  · cases hf
def pX2_sectionIsGood : rx_P := [(0, .aload_n 0, 0), (1, .getfield 9, 0), (4, .iload_n 1, 0), (5, .bipush 16, 0), (7, .iadd, 0), (8, .bipush 8, 0), (10, .invokevirtual 76, 0), (13, .lstore_n 2, 0), (14, .aload_n 0, 0), (15, .getfield 9, 0), (18, .iload_n 1, 0), (19, .bipush 48, 0), (21, .iadd, 0), (22, .bipush 8, 0), (24, .invokevirtual 76, 0), (27, .lstore 4, 0), (29, .aload_n 0, 0), (30, .getfield 15, 0), (33, .iload_n 1, 0), (34, .invokevirtual 156, 0), (37, .ldc2_w 160, 0), (40, .lcmp, 0), (41, .ifCond .gt 57, 98), (44, .lload 4, 0), (46, .invokestatic 131, 0), (49, .ifCond .eq 49, 98), (52, .aload_n 0, 0), (53, .getfield 9, 0), (56, .aload_n 0, 0), (57, .getfield 15, 0), (60, .iload_n 1, 0), (61, .invokevirtual 162, 0), (64, .aload_n 0, 0), (65, .getfield 15, 0), (68, .iload_n 1, 0), (69, .invokevirtual 165, 0), (72, .invokevirtual 120, 0), (75, .ifCond .eq 23, 98), (78, .lload 4, 0), (80, .lconst 0, 0), (81, .lcmp, 0), (82, .ifCond .eq 12, 94), (85, .lload_n 2, 0), (86, .lload 4, 0), (88, .invokestatic 141, 0), (91, .ifCond .eq 7, 98), (94, .iconst 1, 0), (95, .goto 4, 99), (98, .iconst 0, 0), (99, .ireturn, 0)]
theorem pX2_sectionIsGood_ok : ∀ q ∈ pX2_sectionIsGood, rx_ok cX2_sectionIsGood q := rx_ok_all (by decide +kernel)
abbrev rX2_sectionIsGood : Room := { frames := 2, cells := 0, slots := 0, locals := 48 }
noncomputable def fX2_sectionIsGood : rx_F cS := fun w as => match as with
  | [.int x] => some (True, w, some (.int (bI (nm w.1 (x + nI 4) 4 ≤ 11 ∧ pw (nm w.1 (x + nI 48) 8) ∧ nm w.1 (x + nI 24) 8 + rl w.1 x ≤ bn w.1 ∧ (nm w.1 (x + nI 48) 8 = 0 ∨ nm w.1 (x + nI 16) 8 % nm w.1 (x + nI 48) 8 = 0)))))
  | _ => none
noncomputable def eX2_sectionIsGood (ad : Nat → Nat) : rx_E cS := rx_any [rx_hG 9 (ad 3) (fun w => .ref (ad 1)), rx_hV 76 2 (ad 1) fX1_number, rx_hG 15 (ad 3) (fun w => .ref (ad 2)), rx_hV 156 1 (ad 2) fX0_sectionKind, rx_hL 160 (lN 11), rx_hS 131 1 fX2_isZeroOrPowerOfTwo, rx_hV 162 1 (ad 2) fX0_roomPlace, rx_hV 165 1 (ad 2) fX0_roomLength, rx_hV 120 2 (ad 1) fX1_hasRoom, rx_hS 141 2 fX2_isMultiple]
set_option maxHeartbeats 4000000 in
set_option maxRecDepth 100000 in
theorem eo_X2_sectionIsGood (l : Launch) (D : va_G) (ad : Nat → Nat) (cB : ClassId) : ∀ (p : Program) (e : Env) (s : State) (m : MethodId) (args : Array Value) (below : List Frame) (meth : Method) (c : Code) (Qw : State → Prop), CallFix p m c cX2_sectionIsGood 6 s args (Cond.code yX2_sectionIsGood cX2_sectionIsGood 6 (some .boolean) :: wsA) RX2 → cK D cB s → rx_Eok (fun H locs g => W p l e rX2_sectionIsGood s m args below meth c H locs 0 0 Qw g) m cX2_sectionIsGood 6 (tr_I D vwCl (cA ad) s (cW ad cB)) (eX2_sectionIsGood ad) := by
  intro p e s m args below meth c Qw S hK
  have ht : ∀ w ∈ wsA, w.before args s = true := fun w h => S.2.2.2.2 w (wsA_in h)
  exact rx_any_c (rx_hG_ok (fun w H locs pc ls rest hI hd k => va_get (D := D) (ci := 2) (C := RX2) (T := TX2) (N := 3) S.1 S.2.1 ht inX2 S.2.2.2.1 hK.1 hI.1 3 rfl rfl 0 (by decide) (ht _ wfX2_9) (fun _ h9 => h9) rfl hd k)) (rx_any_c (rx_hV_ok S ⟨Nat.zero_le _, Nat.zero_le _⟩ cK_tr hK (cwV 2 S.2.2.2.2 (wsA_V wkX2_76 wiX1_number weX1_number winiX1 wX1_number) rfl rfl rfl (by decide +kernel) ⟨by decide, by decide⟩) (ct_X1_number l D ad cB) (fun w H hP => va_recv hK.1 hP (rfl : vwCl[1]? = some (RX1, TX1, 2)) (rfl : (cW ad cB w)[1]? = some _))) (rx_any_c (rx_hG_ok (fun w H locs pc ls rest hI hd k => va_get (D := D) (ci := 2) (C := RX2) (T := TX2) (N := 3) S.1 S.2.1 ht inX2 S.2.2.2.1 hK.1 hI.1 3 rfl rfl 1 (by decide) (ht _ wfX2_15) (fun _ h9 => h9) rfl hd k)) (rx_any_c (rx_hV_ok S ⟨Nat.zero_le _, Nat.zero_le _⟩ cK_tr hK (cwV 1 S.2.2.2.2 (wsA_V wkX2_156 wiX0_sectionKind weX0_sectionKind winiX0 wX0_sectionKind) rfl rfl rfl (by decide +kernel) ⟨by decide, by decide⟩) (ct_X0_sectionKind l D ad cB) (fun w H hP => va_recv hK.1 hP (rfl : vwCl[0]? = some (RX0, TX0, 1)) (rfl : (cW ad cB w)[2]? = some _))) (rx_any_c (rx_hL_ok S (ht _ wcX2_160)) (rx_any_c (rx_hS_ok S ⟨Nat.zero_le _, Nat.zero_le _⟩ cK_tr hK (va_cwS 1 S.2.2.2.2 (wsA_S wkX2_131 wsX2_isZeroOrPowerOfTwo winiX2 wX2_isZeroOrPowerOfTwo) rfl rfl rfl (by decide +kernel) ⟨by decide, by decide⟩) (ct_X2_isZeroOrPowerOfTwo l D ad cB)) (rx_any_c (rx_hV_ok S ⟨Nat.zero_le _, Nat.zero_le _⟩ cK_tr hK (cwV 1 S.2.2.2.2 (wsA_V wkX2_162 wiX0_roomPlace weX0_roomPlace winiX0 wX0_roomPlace) rfl rfl rfl (by decide +kernel) ⟨by decide, by decide⟩) (ct_X0_roomPlace l D ad cB) (fun w H hP => va_recv hK.1 hP (rfl : vwCl[0]? = some (RX0, TX0, 1)) (rfl : (cW ad cB w)[2]? = some _))) (rx_any_c (rx_hV_ok S ⟨Nat.zero_le _, Nat.zero_le _⟩ cK_tr hK (cwV 1 S.2.2.2.2 (wsA_V wkX2_165 wiX0_roomLength weX0_roomLength winiX0 wX0_roomLength) rfl rfl rfl (by decide +kernel) ⟨by decide, by decide⟩) (ct_X0_roomLength l D ad cB) (fun w H hP => va_recv hK.1 hP (rfl : vwCl[0]? = some (RX0, TX0, 1)) (rfl : (cW ad cB w)[2]? = some _))) (rx_any_c (rx_hV_ok S ⟨Nat.zero_le _, Nat.zero_le _⟩ cK_tr hK (cwV 2 S.2.2.2.2 (wsA_V wkX2_120 wiX1_hasRoom weX1_hasRoom winiX1 wX1_hasRoom) rfl rfl rfl (by decide +kernel) ⟨by decide, by decide⟩) (ct_X1_hasRoom l D ad cB) (fun w H hP => va_recv hK.1 hP (rfl : vwCl[1]? = some (RX1, TX1, 2)) (rfl : (cW ad cB w)[1]? = some _))) (rx_any_c (rx_hS_ok S ⟨Nat.zero_le _, Nat.zero_le _⟩ cK_tr hK (va_cwS 2 S.2.2.2.2 (wsA_S wkX2_141 wsX2_isMultiple winiX2 wX2_isMultiple) rfl rfl rfl (by decide +kernel) ⟨by decide, by decide⟩) (ct_X2_isMultiple l D ad cB)) (rx_any_0))))))))))
set_option maxHeartbeats 4000000 in
set_option maxRecDepth 100000 in
theorem ct_X2_sectionIsGood (l : Launch) (D : va_G) (ad : Nat → Nat) (cB : ClassId) : ctC l yX2_sectionIsGood cX2_sectionIsGood 6 (some .boolean) rX2_sectionIsGood D ad cB [.ref (ad 3)] fX2_sectionIsGood := by
  intro w as g w1 r hf hg
  unfold fX2_sectionIsGood at hf
  split at hf
  · next x =>
    cases hf
    exact tr_of rx_nc 0 200 0 (by decide) rfl rfl (Nat.le_of_ble_eq_true rfl) pX2_sectionIsGood_ok (rt_z _) (eo_X2_sectionIsGood l D ad cB) (fun pc g h => by cases h) (by
      simp only [pX2_sectionIsGood, eX2_sectionIsGood, fX0_roomLength, fX0_roomPlace, fX0_sectionKind, fX1_hasRoom, fX1_number, fX2_isMultiple, fX2_isZeroOrPowerOfTwo, rx_n, rx_s, rx_to, rx_get, rx_f1, rx_f2, rx_two, rx_ext, rx_any, rx_hV, rx_hS, rx_hG, rx_hP, rx_hAi, rx_hAb, rx_hL, rx_hLi, rx_got, rx_pop, rx_sum, rx_len, rx_c, rx_m1, lv_args, Value.category, rx_cut_n, rx_cut_1, rx_iconst, rx_bipush, rx_sipush, rx_lconst, rx_iload_n, rx_iload, rx_lload_n, rx_lload, rx_aload_n, rx_aload, rx_istore_n, rx_istore, rx_lstore_n, rx_lstore, rx_astore_n, rx_astore, rx_iinc, rx_iadd, rx_isub, rx_imul, rx_iand, rx_ixor, rx_ishr, rx_idiv, rx_irem, rx_ladd, rx_lsub, rx_land, rx_lor, rx_lxor, rx_lmul, rx_ldiv, rx_lrem, rx_lushr, rx_lshl, rx_lshr, rx_lneg, rx_i2l, rx_l2i, rx_i2b, rx_lcmp, rx_dup_i, rx_dup_a, rx_pop_i, rx_pop_a, rx_if_eq, rx_if_ne, rx_if_lt, rx_if_ge, rx_if_gt, rx_if_le, rx_icmp_eq, rx_icmp_ne, rx_icmp_lt, rx_icmp_ge, rx_icmp_gt, rx_icmp_le, rx_goto, rx_tsw, rx_ireturn, rx_lreturn, rx_return_, rx_getfield, rx_putfield, rx_invokevirtual, rx_invokespecial, rx_invokestatic, rx_ldc, rx_ldc2_w, rx_iaload, rx_iastore, rx_baload, rx_bastore, Nat.reduceBEq, Nat.reduceAdd, Nat.reduceSub, Nat.reduceMul, Nat.reduceLeDiff, Nat.reduceEqDiff, Nat.reduceLT, Int.reduceLT, Int.reduceLE, Int.reduceNeg, Int.reduceToNat, Int.reduceAdd, Fin.isValue, Fin.val_zero, Fin.val_one, Fin.reduceFinMk, Fin.val_ofNat, Bool.or_true, Bool.true_or, Bool.or_false, Bool.false_or, Bool.and_true, Bool.true_and, Bool.and_false, Bool.false_and, cond_true, cond_false, ↓reduceIte, eq_self, ne_eq, not_true_eq_false, not_false_eq_true, true_and, and_true, Option.toList_some, Option.toList_none, List.cons_append, List.nil_append, Option.some.injEq, Value.int.injEq, Value.long.injEq, rx_l0, rx_l1, rx_fv0, rx_fv1, rx_fv2, rx_fv3, nI_c1, nI_c2, nI_c4, nI_c8, nI_c9, nI_c24, nI_c64, Nat.le_refl, bI_z, bI_0, bI_1, Classical.not_not, lg_cmp_ge, lg_cmp_le, lg_cmp_gt, lg_cmp_lt, lg_cmp_eq]
      have h1 := nm_4 w.1 (x + nI 4)
      have h2 := nm_8 w.1 (x + nI 16)
      have h3 := nm_8 w.1 (x + nI 24)
      have h5 := nm_8 w.1 (x + nI 48)
      have h4 : rl w.1 x < 18446744073709551616 := by
        unfold rl
        have := nm_8 w.1 (x + nI 32)
        split <;> omega
      generalize rl w.1 x = rr at h4 ⊢
      generalize nm w.1 (x + nI 4) 4 = kk at h1 ⊢
      generalize nm w.1 (x + nI 16) 8 = ad' at h2 ⊢
      generalize nm w.1 (x + nI 24) 8 = pl at h3 ⊢
      generalize nm w.1 (x + nI 48) 8 = al at h5 ⊢
      simp (disch := omega) only [uN_z, uN_lN h2, uN_lN h3, uN_lN h4, uN_lN h5, pk_lLT]
      refine ⟨fun a q => by omega, fun a => ⟨fun b q => b q.2.1, fun b => ⟨fun c q => c q.2.2.1, fun c => ⟨fun d => ⟨by omega, b, c, Or.inl d⟩, fun d => ?_⟩⟩⟩⟩
      have e := al_0 (x := lN ad') b d h5
      rw [uN_z, uN_lN h2] at e
      rw [e]
      exact ⟨fun f q => q.2.2.2.elim d f, fun f => ⟨by omega, b, c, Or.inr f⟩⟩)
  · cases hf
def pX2_textsAreClosed : rx_P := [(0, .lload_n 3, 0), (1, .lconst 0, 0), (2, .lcmp, 0), (3, .ifCond .le 41, 44), (6, .aload_n 0, 0), (7, .getfield 9, 0), (10, .lload_n 1, 0), (11, .l2i, 0), (12, .iconst 1, 0), (13, .invokevirtual 76, 0), (16, .lconst 0, 0), (17, .lcmp, 0), (18, .ifCond .ne 26, 44), (21, .aload_n 0, 0), (22, .getfield 9, 0), (25, .lload_n 1, 0), (26, .lload_n 3, 0), (27, .ladd, 0), (28, .lconst 1, 0), (29, .lsub, 0), (30, .l2i, 0), (31, .iconst 1, 0), (32, .invokevirtual 76, 0), (35, .lconst 0, 0), (36, .lcmp, 0), (37, .ifCond .ne 7, 44), (40, .iconst 1, 0), (41, .goto 4, 45), (44, .iconst 0, 0), (45, .ireturn, 0)]
theorem pX2_textsAreClosed_ok : ∀ q ∈ pX2_textsAreClosed, rx_ok cX2_textsAreClosed q := rx_ok_all (by decide +kernel)
abbrev rX2_textsAreClosed : Room := { frames := 1, cells := 0, slots := 0, locals := 25 }
noncomputable def fX2_textsAreClosed : rx_F cS := fun w as => match as with
  | [.long x, .long y] => some (uN x + uN y ≤ 640, w, some (.int (bI (0 < uN y ∧ nu w.1 (uN x) 1 = 0 ∧ nu w.1 (uN x + uN y - 1) 1 = 0))))
  | _ => none
noncomputable def eX2_textsAreClosed (ad : Nat → Nat) : rx_E cS := rx_any [rx_hG 9 (ad 3) (fun w => .ref (ad 1)), rx_hV 76 2 (ad 1) fX1_number]
set_option maxHeartbeats 4000000 in
set_option maxRecDepth 100000 in
theorem eo_X2_textsAreClosed (l : Launch) (D : va_G) (ad : Nat → Nat) (cB : ClassId) : ∀ (p : Program) (e : Env) (s : State) (m : MethodId) (args : Array Value) (below : List Frame) (meth : Method) (c : Code) (Qw : State → Prop), CallFix p m c cX2_textsAreClosed 5 s args (Cond.code yX2_textsAreClosed cX2_textsAreClosed 5 (some .boolean) :: wsA) RX2 → cK D cB s → rx_Eok (fun H locs g => W p l e rX2_textsAreClosed s m args below meth c H locs 0 0 Qw g) m cX2_textsAreClosed 5 (tr_I D vwCl (cA ad) s (cW ad cB)) (eX2_textsAreClosed ad) := by
  intro p e s m args below meth c Qw S hK
  have ht : ∀ w ∈ wsA, w.before args s = true := fun w h => S.2.2.2.2 w (wsA_in h)
  exact rx_any_c (rx_hG_ok (fun w H locs pc ls rest hI hd k => va_get (D := D) (ci := 2) (C := RX2) (T := TX2) (N := 3) S.1 S.2.1 ht inX2 S.2.2.2.1 hK.1 hI.1 3 rfl rfl 0 (by decide) (ht _ wfX2_9) (fun _ h9 => h9) rfl hd k)) (rx_any_c (rx_hV_ok S ⟨Nat.zero_le _, Nat.zero_le _⟩ cK_tr hK (cwV 2 S.2.2.2.2 (wsA_V wkX2_76 wiX1_number weX1_number winiX1 wX1_number) rfl rfl rfl (by decide +kernel) ⟨by decide, by decide⟩) (ct_X1_number l D ad cB) (fun w H hP => va_recv hK.1 hP (rfl : vwCl[1]? = some (RX1, TX1, 2)) (rfl : (cW ad cB w)[1]? = some _))) (rx_any_0))
set_option maxHeartbeats 4000000 in
set_option maxRecDepth 100000 in
theorem ct_X2_textsAreClosed (l : Launch) (D : va_G) (ad : Nat → Nat) (cB : ClassId) : ctC l yX2_textsAreClosed cX2_textsAreClosed 5 (some .boolean) rX2_textsAreClosed D ad cB [.ref (ad 3)] fX2_textsAreClosed := by
  intro w as g w1 r hf hg
  unfold fX2_textsAreClosed at hf
  split at hf
  · next x y =>
    cases hf
    exact tr_of rx_nc 0 200 0 (by decide) rfl rfl (Nat.le_of_ble_eq_true rfl) pX2_textsAreClosed_ok (rt_z _) (eo_X2_textsAreClosed l D ad cB) (fun pc g h => by cases h) (by
      simp only [pX2_textsAreClosed, eX2_textsAreClosed, fX1_number, rx_n, rx_s, rx_to, rx_get, rx_f1, rx_f2, rx_two, rx_ext, rx_any, rx_hV, rx_hS, rx_hG, rx_hP, rx_hAi, rx_hAb, rx_hL, rx_hLi, rx_got, rx_pop, rx_sum, rx_len, rx_c, rx_m1, lv_args, Value.category, rx_cut_n, rx_cut_1, rx_iconst, rx_bipush, rx_sipush, rx_lconst, rx_iload_n, rx_iload, rx_lload_n, rx_lload, rx_aload_n, rx_aload, rx_istore_n, rx_istore, rx_lstore_n, rx_lstore, rx_astore_n, rx_astore, rx_iinc, rx_iadd, rx_isub, rx_imul, rx_iand, rx_ixor, rx_ishr, rx_idiv, rx_irem, rx_ladd, rx_lsub, rx_land, rx_lor, rx_lxor, rx_lmul, rx_ldiv, rx_lrem, rx_lushr, rx_lshl, rx_lshr, rx_lneg, rx_i2l, rx_l2i, rx_i2b, rx_lcmp, rx_dup_i, rx_dup_a, rx_pop_i, rx_pop_a, rx_if_eq, rx_if_ne, rx_if_lt, rx_if_ge, rx_if_gt, rx_if_le, rx_icmp_eq, rx_icmp_ne, rx_icmp_lt, rx_icmp_ge, rx_icmp_gt, rx_icmp_le, rx_goto, rx_tsw, rx_ireturn, rx_lreturn, rx_return_, rx_getfield, rx_putfield, rx_invokevirtual, rx_invokespecial, rx_invokestatic, rx_ldc, rx_ldc2_w, rx_iaload, rx_iastore, rx_baload, rx_bastore, Nat.reduceBEq, Nat.reduceAdd, Nat.reduceSub, Nat.reduceMul, Nat.reduceLeDiff, Nat.reduceEqDiff, Nat.reduceLT, Int.reduceLT, Int.reduceLE, Int.reduceNeg, Int.reduceToNat, Int.reduceAdd, Fin.isValue, Fin.val_zero, Fin.val_one, Fin.reduceFinMk, Fin.val_ofNat, Bool.or_true, Bool.true_or, Bool.or_false, Bool.false_or, Bool.and_true, Bool.true_and, Bool.and_false, Bool.false_and, cond_true, cond_false, ↓reduceIte, eq_self, ne_eq, not_true_eq_false, not_false_eq_true, true_and, and_true, Option.toList_some, Option.toList_none, List.cons_append, List.nil_append, Option.some.injEq, Value.int.injEq, Value.long.injEq, rx_l0, rx_l1, rx_fv0, rx_fv1, rx_fv2, rx_fv3, nI_c1, nI_c2, nI_c4, nI_c8, nI_c9, nI_c24, nI_c64, Nat.le_refl, bI_z, bI_0, bI_1, Classical.not_not, lg_cmp_ge, lg_cmp_le, lg_cmp_gt, lg_cmp_lt, lg_cmp_eq]
      obtain ⟨X, hX⟩ : ∃ X, X = uN x := ⟨_, rfl⟩
      obtain ⟨Y, hY⟩ : ∃ Y, Y = uN y := ⟨_, rfl⟩
      have ex : x = lN X := by rw [hX, lN_uN]
      have ey : y = lN Y := by rw [hY, lN_uN]
      rw [← hX, ← hY] at hg ⊢
      rw [ex, ey]
      rw [pk_lLE (by omega) (by omega), lN_i]
      by_cases h : Y = 0
      · exact ⟨fun _ => by omega, fun q => absurd (by omega) q⟩
      · have h1 := nu_1 w.1 X
        have h2 := nu_1 w.1 (X + Y - 1)
        rw [lN_add, lN_sub (by omega), lN_i, nm_nI (by omega), nm_nI (by omega), pk_lEQ (by omega) (by omega), pk_lEQ (by omega) (by omega)]
        refine ⟨fun q => ?_, fun q => ⟨fun q => ?_, fun q => ⟨fun q => ?_, fun q => ?_⟩⟩⟩ <;> omega)
  · cases hf
def pX2_symbolIsGood : rx_P := [(0, .aload_n 0, 0), (1, .getfield 9, 0), (4, .iload_n 1, 0), (5, .bipush 6, 0), (7, .iadd, 0), (8, .iconst 2, 0), (9, .invokevirtual 76, 0), (12, .lstore 4, 0), (14, .lload 4, 0), (16, .aload_n 0, 0), (17, .getfield 15, 0), (20, .invokevirtual 107, 0), (23, .i2l, 0), (24, .lcmp, 0), (25, .ifCond .lt 21, 46), (28, .lload 4, 0), (30, .ldc2_w 215, 0), (33, .lcmp, 0), (34, .ifCond .eq 12, 46), (37, .lload 4, 0), (39, .ldc2_w 217, 0), (42, .lcmp, 0), (43, .ifCond .ne 7, 50), (46, .iconst 1, 0), (47, .goto 4, 51), (50, .iconst 0, 0), (51, .istore 6, 0), (53, .iload 6, 0), (55, .ifCond .eq 23, 78), (58, .aload_n 0, 0), (59, .getfield 9, 0), (62, .iload_n 1, 0), (63, .iconst 0, 0), (64, .iadd, 0), (65, .iconst 4, 0), (66, .invokevirtual 76, 0), (69, .lload_n 2, 0), (70, .lcmp, 0), (71, .ifCond .ge 7, 78), (74, .iconst 1, 0), (75, .goto 4, 79), (78, .iconst 0, 0), (79, .ireturn, 0)]
theorem pX2_symbolIsGood_ok : ∀ q ∈ pX2_symbolIsGood, rx_ok cX2_symbolIsGood q := rx_ok_all (by decide +kernel)
abbrev rX2_symbolIsGood : Room := { frames := 2, cells := 0, slots := 0, locals := 45 }
noncomputable def fX2_symbolIsGood : rx_F cS := fun w as => match as with
  | [.int y, .long t] => some (uN t < 9223372036854775808, w, some (.int (bI ((nm w.1 (y + nI 6) 2 < nu w.1 60 2 ∨ nm w.1 (y + nI 6) 2 = 65521 ∨ nm w.1 (y + nI 6) 2 = 65522) ∧ nm w.1 y 4 < uN t))))
  | _ => none
noncomputable def eX2_symbolIsGood (ad : Nat → Nat) : rx_E cS := rx_any [rx_hG 9 (ad 3) (fun w => .ref (ad 1)), rx_hV 76 2 (ad 1) fX1_number, rx_hG 15 (ad 3) (fun w => .ref (ad 2)), rx_hV 107 0 (ad 2) fX0_sectionCount, rx_hL 215 (lN 65521), rx_hL 217 (lN 65522)]
set_option maxHeartbeats 4000000 in
set_option maxRecDepth 100000 in
theorem eo_X2_symbolIsGood (l : Launch) (D : va_G) (ad : Nat → Nat) (cB : ClassId) : ∀ (p : Program) (e : Env) (s : State) (m : MethodId) (args : Array Value) (below : List Frame) (meth : Method) (c : Code) (Qw : State → Prop), CallFix p m c cX2_symbolIsGood 7 s args (Cond.code yX2_symbolIsGood cX2_symbolIsGood 7 (some .boolean) :: wsA) RX2 → cK D cB s → rx_Eok (fun H locs g => W p l e rX2_symbolIsGood s m args below meth c H locs 0 0 Qw g) m cX2_symbolIsGood 7 (tr_I D vwCl (cA ad) s (cW ad cB)) (eX2_symbolIsGood ad) := by
  intro p e s m args below meth c Qw S hK
  have ht : ∀ w ∈ wsA, w.before args s = true := fun w h => S.2.2.2.2 w (wsA_in h)
  exact rx_any_c (rx_hG_ok (fun w H locs pc ls rest hI hd k => va_get (D := D) (ci := 2) (C := RX2) (T := TX2) (N := 3) S.1 S.2.1 ht inX2 S.2.2.2.1 hK.1 hI.1 3 rfl rfl 0 (by decide) (ht _ wfX2_9) (fun _ h9 => h9) rfl hd k)) (rx_any_c (rx_hV_ok S ⟨Nat.zero_le _, Nat.zero_le _⟩ cK_tr hK (cwV 2 S.2.2.2.2 (wsA_V wkX2_76 wiX1_number weX1_number winiX1 wX1_number) rfl rfl rfl (by decide +kernel) ⟨by decide, by decide⟩) (ct_X1_number l D ad cB) (fun w H hP => va_recv hK.1 hP (rfl : vwCl[1]? = some (RX1, TX1, 2)) (rfl : (cW ad cB w)[1]? = some _))) (rx_any_c (rx_hG_ok (fun w H locs pc ls rest hI hd k => va_get (D := D) (ci := 2) (C := RX2) (T := TX2) (N := 3) S.1 S.2.1 ht inX2 S.2.2.2.1 hK.1 hI.1 3 rfl rfl 1 (by decide) (ht _ wfX2_15) (fun _ h9 => h9) rfl hd k)) (rx_any_c (rx_hV_ok S ⟨Nat.zero_le _, Nat.zero_le _⟩ cK_tr hK (cwV 0 S.2.2.2.2 (wsA_V wkX2_107 wiX0_sectionCount weX0_sectionCount winiX0 wX0_sectionCount) rfl rfl rfl (by decide +kernel) ⟨by decide, by decide⟩) (ct_X0_sectionCount l D ad cB) (fun w H hP => va_recv hK.1 hP (rfl : vwCl[0]? = some (RX0, TX0, 1)) (rfl : (cW ad cB w)[2]? = some _))) (rx_any_c (rx_hL_ok S (ht _ wcX2_215)) (rx_any_c (rx_hL_ok S (ht _ wcX2_217)) (rx_any_0))))))
set_option maxHeartbeats 4000000 in
set_option maxRecDepth 100000 in
theorem ct_X2_symbolIsGood (l : Launch) (D : va_G) (ad : Nat → Nat) (cB : ClassId) : ctC l yX2_symbolIsGood cX2_symbolIsGood 7 (some .boolean) rX2_symbolIsGood D ad cB [.ref (ad 3)] fX2_symbolIsGood := by
  intro w as g w1 r hf hg
  unfold fX2_symbolIsGood at hf
  split at hf
  · next y t =>
    cases hf
    exact tr_of rx_nc 0 200 0 (by decide) rfl rfl (Nat.le_of_ble_eq_true rfl) pX2_symbolIsGood_ok (rt_z _) (eo_X2_symbolIsGood l D ad cB) (fun pc g h => by cases h) (by
      simp only [pX2_symbolIsGood, eX2_symbolIsGood, fX0_sectionCount, fX1_number, rx_n, rx_s, rx_to, rx_get, rx_f1, rx_f2, rx_two, rx_ext, rx_any, rx_hV, rx_hS, rx_hG, rx_hP, rx_hAi, rx_hAb, rx_hL, rx_hLi, rx_got, rx_pop, rx_sum, rx_len, rx_c, rx_m1, lv_args, Value.category, rx_cut_n, rx_cut_1, rx_iconst, rx_bipush, rx_sipush, rx_lconst, rx_iload_n, rx_iload, rx_lload_n, rx_lload, rx_aload_n, rx_aload, rx_istore_n, rx_istore, rx_lstore_n, rx_lstore, rx_astore_n, rx_astore, rx_iinc, rx_iadd, rx_isub, rx_imul, rx_iand, rx_ixor, rx_ishr, rx_idiv, rx_irem, rx_ladd, rx_lsub, rx_land, rx_lor, rx_lxor, rx_lmul, rx_ldiv, rx_lrem, rx_lushr, rx_lshl, rx_lshr, rx_lneg, rx_i2l, rx_l2i, rx_i2b, rx_lcmp, rx_dup_i, rx_dup_a, rx_pop_i, rx_pop_a, rx_if_eq, rx_if_ne, rx_if_lt, rx_if_ge, rx_if_gt, rx_if_le, rx_icmp_eq, rx_icmp_ne, rx_icmp_lt, rx_icmp_ge, rx_icmp_gt, rx_icmp_le, rx_goto, rx_tsw, rx_ireturn, rx_lreturn, rx_return_, rx_getfield, rx_putfield, rx_invokevirtual, rx_invokespecial, rx_invokestatic, rx_ldc, rx_ldc2_w, rx_iaload, rx_iastore, rx_baload, rx_bastore, Nat.reduceBEq, Nat.reduceAdd, Nat.reduceSub, Nat.reduceMul, Nat.reduceLeDiff, Nat.reduceEqDiff, Nat.reduceLT, Int.reduceLT, Int.reduceLE, Int.reduceNeg, Int.reduceToNat, Int.reduceAdd, Fin.isValue, Fin.val_zero, Fin.val_one, Fin.reduceFinMk, Fin.val_ofNat, Bool.or_true, Bool.true_or, Bool.or_false, Bool.false_or, Bool.and_true, Bool.true_and, Bool.and_false, Bool.false_and, cond_true, cond_false, ↓reduceIte, eq_self, ne_eq, not_true_eq_false, not_false_eq_true, true_and, and_true, Option.toList_some, Option.toList_none, List.cons_append, List.nil_append, Option.some.injEq, Value.int.injEq, Value.long.injEq, rx_l0, rx_l1, rx_fv0, rx_fv1, rx_fv2, rx_fv3, nI_c1, nI_c2, nI_c4, nI_c8, nI_c9, nI_c24, nI_c64, Nat.le_refl, bI_z, bI_0, bI_1, Classical.not_not, lg_cmp_ge, lg_cmp_le, lg_cmp_gt, lg_cmp_lt, lg_cmp_eq]
      have h1 := nm_2 w.1 (y + nI 6)
      have h2 := nu_2 w.1 60
      have h3 := nm_4 w.1 y
      obtain ⟨T, hT⟩ : ∃ T, T = uN t := ⟨_, rfl⟩
      have et : t = lN T := by rw [hT, lN_uN]
      rw [← hT] at hg ⊢
      rw [et]
      simp (disch := omega) only [rx_i1, rx_i0, nI_add0, nI_l, pk_lLT, pk_lLE, pk_lEQ, false_implies, true_implies, not_true_eq_false, not_false_eq_true, true_and, and_true]
      omega)
  · cases hf
def pX2_overlapsHeadOrTable : rx_P := [(0, .bipush 56, 0), (2, .aload_n 0, 0), (3, .getfield 15, 0), (6, .invokevirtual 100, 0), (9, .imul, 0), (10, .istore 5, 0), (12, .bipush 64, 0), (14, .aload_n 0, 0), (15, .getfield 15, 0), (18, .invokevirtual 107, 0), (21, .imul, 0), (22, .istore 6, 0), (24, .lconst 0, 0), (25, .ldc2_w 98, 0), (28, .lload_n 1, 0), (29, .lload_n 3, 0), (30, .invokestatic 114, 0), (33, .ifCond .ne 43, 76), (36, .aload_n 0, 0), (37, .getfield 15, 0), (40, .iconst 0, 0), (41, .invokevirtual 124, 0), (44, .i2l, 0), (45, .iload 5, 0), (47, .i2l, 0), (48, .lload_n 1, 0), (49, .lload_n 3, 0), (50, .invokestatic 114, 0), (53, .ifCond .ne 23, 76), (56, .aload_n 0, 0), (57, .getfield 15, 0), (60, .iconst 0, 0), (61, .invokevirtual 150, 0), (64, .i2l, 0), (65, .iload 6, 0), (67, .i2l, 0), (68, .lload_n 1, 0), (69, .lload_n 3, 0), (70, .invokestatic 114, 0), (73, .ifCond .eq 7, 80), (76, .iconst 1, 0), (77, .goto 4, 81), (80, .iconst 0, 0), (81, .ireturn, 0)]
theorem pX2_overlapsHeadOrTable_ok : ∀ q ∈ pX2_overlapsHeadOrTable, rx_ok cX2_overlapsHeadOrTable q := rx_ok_all (by decide +kernel)
abbrev rX2_overlapsHeadOrTable : Room := { frames := 2, cells := 0, slots := 0, locals := 46 }
noncomputable def fX2_overlapsHeadOrTable : rx_F cS := fun w as => match as with
  | [.long x, .long y] => some (t6 w.1 ∧ uN x + uN y ≤ 640, w, some (.int (bI (ovl 0 64 (uN x) (uN y) ∨ ovl (bl w.1 32 8) (56 * gC w.1) (uN x) (uN y) ∨ ovl (bl w.1 40 8) (64 * sC w.1) (uN x) (uN y)))))
  | _ => none
noncomputable def eX2_overlapsHeadOrTable (ad : Nat → Nat) : rx_E cS := rx_any [rx_hG 15 (ad 3) (fun w => .ref (ad 2)), rx_hV 100 0 (ad 2) fX0_segmentCount, rx_hV 107 0 (ad 2) fX0_sectionCount, rx_hL 98 (lN 64), rx_hS 114 4 fX2_overlap, rx_hV 124 1 (ad 2) fX0_segmentStart, rx_hV 150 1 (ad 2) fX0_sectionStart]
set_option maxHeartbeats 4000000 in
set_option maxRecDepth 100000 in
theorem eo_X2_overlapsHeadOrTable (l : Launch) (D : va_G) (ad : Nat → Nat) (cB : ClassId) : ∀ (p : Program) (e : Env) (s : State) (m : MethodId) (args : Array Value) (below : List Frame) (meth : Method) (c : Code) (Qw : State → Prop), CallFix p m c cX2_overlapsHeadOrTable 7 s args (Cond.code yX2_overlapsHeadOrTable cX2_overlapsHeadOrTable 7 (some .boolean) :: wsA) RX2 → cK D cB s → rx_Eok (fun H locs g => W p l e rX2_overlapsHeadOrTable s m args below meth c H locs 0 0 Qw g) m cX2_overlapsHeadOrTable 7 (tr_I D vwCl (cA ad) s (cW ad cB)) (eX2_overlapsHeadOrTable ad) := by
  intro p e s m args below meth c Qw S hK
  have ht : ∀ w ∈ wsA, w.before args s = true := fun w h => S.2.2.2.2 w (wsA_in h)
  exact rx_any_c (rx_hG_ok (fun w H locs pc ls rest hI hd k => va_get (D := D) (ci := 2) (C := RX2) (T := TX2) (N := 3) S.1 S.2.1 ht inX2 S.2.2.2.1 hK.1 hI.1 3 rfl rfl 1 (by decide) (ht _ wfX2_15) (fun _ h9 => h9) rfl hd k)) (rx_any_c (rx_hV_ok S ⟨Nat.zero_le _, Nat.zero_le _⟩ cK_tr hK (cwV 0 S.2.2.2.2 (wsA_V wkX2_100 wiX0_segmentCount weX0_segmentCount winiX0 wX0_segmentCount) rfl rfl rfl (by decide +kernel) ⟨by decide, by decide⟩) (ct_X0_segmentCount l D ad cB) (fun w H hP => va_recv hK.1 hP (rfl : vwCl[0]? = some (RX0, TX0, 1)) (rfl : (cW ad cB w)[2]? = some _))) (rx_any_c (rx_hV_ok S ⟨Nat.zero_le _, Nat.zero_le _⟩ cK_tr hK (cwV 0 S.2.2.2.2 (wsA_V wkX2_107 wiX0_sectionCount weX0_sectionCount winiX0 wX0_sectionCount) rfl rfl rfl (by decide +kernel) ⟨by decide, by decide⟩) (ct_X0_sectionCount l D ad cB) (fun w H hP => va_recv hK.1 hP (rfl : vwCl[0]? = some (RX0, TX0, 1)) (rfl : (cW ad cB w)[2]? = some _))) (rx_any_c (rx_hL_ok S (ht _ wcX2_98)) (rx_any_c (rx_hS_ok S ⟨Nat.zero_le _, Nat.zero_le _⟩ cK_tr hK (va_cwS 4 S.2.2.2.2 (wsA_S wkX2_114 wsX2_overlap winiX2 wX2_overlap) rfl rfl rfl (by decide +kernel) ⟨by decide, by decide⟩) (ct_X2_overlap l D ad cB)) (rx_any_c (rx_hV_ok S ⟨Nat.zero_le _, Nat.zero_le _⟩ cK_tr hK (cwV 1 S.2.2.2.2 (wsA_V wkX2_124 wiX0_segmentStart weX0_segmentStart winiX0 wX0_segmentStart) rfl rfl rfl (by decide +kernel) ⟨by decide, by decide⟩) (ct_X0_segmentStart l D ad cB) (fun w H hP => va_recv hK.1 hP (rfl : vwCl[0]? = some (RX0, TX0, 1)) (rfl : (cW ad cB w)[2]? = some _))) (rx_any_c (rx_hV_ok S ⟨Nat.zero_le _, Nat.zero_le _⟩ cK_tr hK (cwV 1 S.2.2.2.2 (wsA_V wkX2_150 wiX0_sectionStart weX0_sectionStart winiX0 wX0_sectionStart) rfl rfl rfl (by decide +kernel) ⟨by decide, by decide⟩) (ct_X0_sectionStart l D ad cB) (fun w H hP => va_recv hK.1 hP (rfl : vwCl[0]? = some (RX0, TX0, 1)) (rfl : (cW ad cB w)[2]? = some _))) (rx_any_0)))))))
set_option maxHeartbeats 4000000 in
set_option maxRecDepth 100000 in
theorem ct_X2_overlapsHeadOrTable (l : Launch) (D : va_G) (ad : Nat → Nat) (cB : ClassId) : ctC l yX2_overlapsHeadOrTable cX2_overlapsHeadOrTable 7 (some .boolean) rX2_overlapsHeadOrTable D ad cB [.ref (ad 3)] fX2_overlapsHeadOrTable := by
  intro w as g w1 r hf hg
  unfold fX2_overlapsHeadOrTable at hf
  split at hf
  · next x y =>
    cases hf
    exact tr_of rx_nc 0 200 0 (by decide) rfl rfl (Nat.le_of_ble_eq_true rfl) pX2_overlapsHeadOrTable_ok (rt_z _) (eo_X2_overlapsHeadOrTable l D ad cB) (fun pc g h => by cases h) (by
      simp only [pX2_overlapsHeadOrTable, eX2_overlapsHeadOrTable, fX0_sectionCount, fX0_sectionStart, fX0_segmentCount, fX0_segmentStart, fX2_overlap, rx_n, rx_s, rx_to, rx_get, rx_f1, rx_f2, rx_two, rx_ext, rx_any, rx_hV, rx_hS, rx_hG, rx_hP, rx_hAi, rx_hAb, rx_hL, rx_hLi, rx_got, rx_pop, rx_sum, rx_len, rx_c, rx_m1, lv_args, Value.category, rx_cut_n, rx_cut_1, rx_iconst, rx_bipush, rx_sipush, rx_lconst, rx_iload_n, rx_iload, rx_lload_n, rx_lload, rx_aload_n, rx_aload, rx_istore_n, rx_istore, rx_lstore_n, rx_lstore, rx_astore_n, rx_astore, rx_iinc, rx_iadd, rx_isub, rx_imul, rx_iand, rx_ixor, rx_ishr, rx_idiv, rx_irem, rx_ladd, rx_lsub, rx_land, rx_lor, rx_lxor, rx_lmul, rx_ldiv, rx_lrem, rx_lushr, rx_lshl, rx_lshr, rx_lneg, rx_i2l, rx_l2i, rx_i2b, rx_lcmp, rx_dup_i, rx_dup_a, rx_pop_i, rx_pop_a, rx_if_eq, rx_if_ne, rx_if_lt, rx_if_ge, rx_if_gt, rx_if_le, rx_icmp_eq, rx_icmp_ne, rx_icmp_lt, rx_icmp_ge, rx_icmp_gt, rx_icmp_le, rx_goto, rx_tsw, rx_ireturn, rx_lreturn, rx_return_, rx_getfield, rx_putfield, rx_invokevirtual, rx_invokespecial, rx_invokestatic, rx_ldc, rx_ldc2_w, rx_iaload, rx_iastore, rx_baload, rx_bastore, Nat.reduceBEq, Nat.reduceAdd, Nat.reduceSub, Nat.reduceMul, Nat.reduceLeDiff, Nat.reduceEqDiff, Nat.reduceLT, Int.reduceLT, Int.reduceLE, Int.reduceNeg, Int.reduceToNat, Int.reduceAdd, Fin.isValue, Fin.val_zero, Fin.val_one, Fin.reduceFinMk, Fin.val_ofNat, Bool.or_true, Bool.true_or, Bool.or_false, Bool.false_or, Bool.and_true, Bool.true_and, Bool.and_false, Bool.false_and, cond_true, cond_false, ↓reduceIte, eq_self, ne_eq, not_true_eq_false, not_false_eq_true, true_and, and_true, Option.toList_some, Option.toList_none, List.cons_append, List.nil_append, Option.some.injEq, Value.int.injEq, Value.long.injEq, rx_l0, rx_l1, rx_fv0, rx_fv1, rx_fv2, rx_fv3, nI_c1, nI_c2, nI_c4, nI_c8, nI_c9, nI_c24, nI_c64, Nat.le_refl, bI_z, bI_0, bI_1, Classical.not_not, lg_cmp_ge, lg_cmp_le, lg_cmp_gt, lg_cmp_lt, lg_cmp_eq]
      obtain ⟨⟨g0, g1, g2⟩, hg⟩ := hg
      obtain ⟨X, hX, ex⟩ := uN_ex x
      obtain ⟨Y, hY, ey⟩ := uN_ex y
      rw [← hX, ← hY] at hg ⊢
      have h5 := bn_le w.1
      have c1 : gC w.1 < 65536 := bl_lt w.1 56 2
      have c2 : sC w.1 < 65536 := bl_lt w.1 60 2
      have e1 : nu w.1 56 2 = gC w.1 := nu_in (by omega)
      have e2 : nu w.1 60 2 = sC w.1 := nu_in (by omega)
      have e3 : nu w.1 32 8 = bl w.1 32 8 := nu_in (by omega)
      have e4 : nu w.1 40 8 = bl w.1 40 8 := nu_in (by omega)
      simp only [ex, ey, gS, sS, e1, e2, e3, e4, pk_mul, nI_add, Nat.mul_zero, Nat.add_zero]
      rw [ov_m (p := 0) (l := 64) (q := X) (by omega) (by omega) (by omega) (by omega), ov_t (X := X) (by omega) (by omega) (by omega), ov_t (X := X) (by omega) (by omega) (by omega)]
      grind)
  · cases hf
