def pX0_segmentCount : rx_P := [(0, .aload_n 0, 0), (1, .getfield 9, 0), (4, .bipush 56, 0), (6, .iconst 2, 0), (7, .invokevirtual 15, 0), (10, .l2i, 0), (11, .ireturn, 0)]
theorem pX0_segmentCount_ok : ∀ q ∈ pX0_segmentCount, rx_ok cX0_segmentCount q := rx_ok_all (by decide +kernel)
abbrev rX0_segmentCount : Room := { frames := 1, cells := 0, slots := 0, locals := 25 }
noncomputable def fX0_segmentCount : rx_F cS := fun w as => match as with
  | [] => some (True, w, some (.int (nI (nu w.1 56 2))))
  | _ => none
noncomputable def eX0_segmentCount (ad : Nat → Nat) : rx_E cS := rx_any [rx_hG 9 (ad 2) (fun w => .ref (ad 1)), rx_hV 15 2 (ad 1) fX1_number]
set_option maxHeartbeats 4000000 in
set_option maxRecDepth 100000 in
theorem eo_X0_segmentCount (l : Launch) (D : va_G) (ad : Nat → Nat) (cB : ClassId) : ∀ (p : Program) (e : Env) (s : State) (m : MethodId) (args : Array Value) (below : List Frame) (meth : Method) (c : Code) (Qw : State → Prop), CallFix p m c cX0_segmentCount 1 s args (Cond.code yX0_segmentCount cX0_segmentCount 1 (some .int) :: wsA) RX0 → cK D cB s → rx_Eok (fun H locs g => W p l e rX0_segmentCount s m args below meth c H locs 0 0 Qw g) m cX0_segmentCount 1 (tr_I D vwCl (cA ad) s (cW ad cB)) (eX0_segmentCount ad) := by
  intro p e s m args below meth c Qw S hK
  have ht : ∀ w ∈ wsA, w.before args s = true := fun w h => S.2.2.2.2 w (wsA_in h)
  exact rx_any_c (rx_hG_ok (fun w H locs pc ls rest hI hd k => va_get (D := D) (ci := 0) (C := RX0) (T := TX0) (N := 1) S.1 S.2.1 ht inX0 S.2.2.2.1 hK.1 hI.1 2 rfl rfl 0 (by decide) (ht _ wfX0_9) (fun _ h9 => h9) rfl hd k)) (rx_any_c (rx_hV_ok S ⟨Nat.zero_le _, Nat.zero_le _⟩ cK_tr hK (cwV 2 S.2.2.2.2 (wsA_V wkX0_15 wiX1_number weX1_number winiX1 wX1_number) rfl rfl rfl (by decide +kernel) ⟨by decide, by decide⟩) (ct_X1_number l D ad cB) (fun w H hP => va_recv hK.1 hP (rfl : vwCl[1]? = some (RX1, TX1, 2)) (rfl : (cW ad cB w)[1]? = some _))) (rx_any_0))
set_option maxHeartbeats 4000000 in
set_option maxRecDepth 100000 in
theorem ct_X0_segmentCount (l : Launch) (D : va_G) (ad : Nat → Nat) (cB : ClassId) : ctC l yX0_segmentCount cX0_segmentCount 1 (some .int) rX0_segmentCount D ad cB [.ref (ad 2)] fX0_segmentCount := by
  intro w as g w1 r hf hg
  unfold fX0_segmentCount at hf
  split at hf
  · cases hf
    exact tr_of rx_nc 0 200 0 (by decide) rfl rfl (Nat.le_of_ble_eq_true rfl) pX0_segmentCount_ok (rt_i _) (eo_X0_segmentCount l D ad cB) (fun pc g h => by cases h) (by
      simp only [pX0_segmentCount, eX0_segmentCount, fX1_number, rx_n, rx_s, rx_to, rx_get, rx_f1, rx_f2, rx_two, rx_ext, rx_any, rx_hV, rx_hS, rx_hG, rx_hP, rx_hAi, rx_hAb, rx_hL, rx_hLi, rx_got, rx_pop, rx_sum, rx_len, rx_c, rx_m1, lv_args, Value.category, rx_cut_n, rx_cut_1, rx_iconst, rx_bipush, rx_sipush, rx_lconst, rx_iload_n, rx_iload, rx_lload_n, rx_lload, rx_aload_n, rx_aload, rx_istore_n, rx_istore, rx_lstore_n, rx_lstore, rx_astore_n, rx_astore, rx_iinc, rx_iadd, rx_isub, rx_imul, rx_iand, rx_ixor, rx_ishr, rx_idiv, rx_irem, rx_ladd, rx_lsub, rx_land, rx_lor, rx_lxor, rx_lmul, rx_ldiv, rx_lrem, rx_lushr, rx_lshl, rx_lshr, rx_lneg, rx_i2l, rx_l2i, rx_i2b, rx_lcmp, rx_dup_i, rx_dup_a, rx_pop_i, rx_pop_a, rx_if_eq, rx_if_ne, rx_if_lt, rx_if_ge, rx_if_gt, rx_if_le, rx_icmp_eq, rx_icmp_ne, rx_icmp_lt, rx_icmp_ge, rx_icmp_gt, rx_icmp_le, rx_goto, rx_tsw, rx_ireturn, rx_lreturn, rx_return_, rx_getfield, rx_putfield, rx_invokevirtual, rx_invokespecial, rx_invokestatic, rx_ldc, rx_ldc2_w, rx_iaload, rx_iastore, rx_baload, rx_bastore, Nat.reduceBEq, Nat.reduceAdd, Nat.reduceSub, Nat.reduceMul, Nat.reduceLeDiff, Nat.reduceEqDiff, Nat.reduceLT, Int.reduceLT, Int.reduceLE, Int.reduceNeg, Int.reduceToNat, Int.reduceAdd, Fin.isValue, Fin.val_zero, Fin.val_one, Fin.reduceFinMk, Fin.val_ofNat, Bool.or_true, Bool.true_or, Bool.or_false, Bool.false_or, Bool.and_true, Bool.true_and, Bool.and_false, Bool.false_and, cond_true, cond_false, ↓reduceIte, eq_self, ne_eq, not_true_eq_false, not_false_eq_true, true_and, and_true, Option.toList_some, Option.toList_none, List.cons_append, List.nil_append, Option.some.injEq, Value.int.injEq, Value.long.injEq, rx_l0, rx_l1, rx_fv0, rx_fv1, rx_fv2, rx_fv3, nI_c1, nI_c2, nI_c4, nI_c8, nI_c9, nI_c24, nI_c64, Nat.le_refl, bI_z, bI_0, bI_1, Classical.not_not, lg_cmp_ge, lg_cmp_le, lg_cmp_gt, lg_cmp_lt, lg_cmp_eq]
      simp only [lN_i, nm_K, nI_add0, gS, sS, nS, lS, yS])
  · cases hf
def pX0_sectionCount : rx_P := [(0, .aload_n 0, 0), (1, .getfield 9, 0), (4, .bipush 60, 0), (6, .iconst 2, 0), (7, .invokevirtual 15, 0), (10, .l2i, 0), (11, .ireturn, 0)]
theorem pX0_sectionCount_ok : ∀ q ∈ pX0_sectionCount, rx_ok cX0_sectionCount q := rx_ok_all (by decide +kernel)
abbrev rX0_sectionCount : Room := { frames := 1, cells := 0, slots := 0, locals := 25 }
noncomputable def fX0_sectionCount : rx_F cS := fun w as => match as with
  | [] => some (True, w, some (.int (nI (nu w.1 60 2))))
  | _ => none
noncomputable def eX0_sectionCount (ad : Nat → Nat) : rx_E cS := rx_any [rx_hG 9 (ad 2) (fun w => .ref (ad 1)), rx_hV 15 2 (ad 1) fX1_number]
set_option maxHeartbeats 4000000 in
set_option maxRecDepth 100000 in
theorem eo_X0_sectionCount (l : Launch) (D : va_G) (ad : Nat → Nat) (cB : ClassId) : ∀ (p : Program) (e : Env) (s : State) (m : MethodId) (args : Array Value) (below : List Frame) (meth : Method) (c : Code) (Qw : State → Prop), CallFix p m c cX0_sectionCount 1 s args (Cond.code yX0_sectionCount cX0_sectionCount 1 (some .int) :: wsA) RX0 → cK D cB s → rx_Eok (fun H locs g => W p l e rX0_sectionCount s m args below meth c H locs 0 0 Qw g) m cX0_sectionCount 1 (tr_I D vwCl (cA ad) s (cW ad cB)) (eX0_sectionCount ad) := by
  intro p e s m args below meth c Qw S hK
  have ht : ∀ w ∈ wsA, w.before args s = true := fun w h => S.2.2.2.2 w (wsA_in h)
  exact rx_any_c (rx_hG_ok (fun w H locs pc ls rest hI hd k => va_get (D := D) (ci := 0) (C := RX0) (T := TX0) (N := 1) S.1 S.2.1 ht inX0 S.2.2.2.1 hK.1 hI.1 2 rfl rfl 0 (by decide) (ht _ wfX0_9) (fun _ h9 => h9) rfl hd k)) (rx_any_c (rx_hV_ok S ⟨Nat.zero_le _, Nat.zero_le _⟩ cK_tr hK (cwV 2 S.2.2.2.2 (wsA_V wkX0_15 wiX1_number weX1_number winiX1 wX1_number) rfl rfl rfl (by decide +kernel) ⟨by decide, by decide⟩) (ct_X1_number l D ad cB) (fun w H hP => va_recv hK.1 hP (rfl : vwCl[1]? = some (RX1, TX1, 2)) (rfl : (cW ad cB w)[1]? = some _))) (rx_any_0))
set_option maxHeartbeats 4000000 in
set_option maxRecDepth 100000 in
theorem ct_X0_sectionCount (l : Launch) (D : va_G) (ad : Nat → Nat) (cB : ClassId) : ctC l yX0_sectionCount cX0_sectionCount 1 (some .int) rX0_sectionCount D ad cB [.ref (ad 2)] fX0_sectionCount := by
  intro w as g w1 r hf hg
  unfold fX0_sectionCount at hf
  split at hf
  · cases hf
    exact tr_of rx_nc 0 200 0 (by decide) rfl rfl (Nat.le_of_ble_eq_true rfl) pX0_sectionCount_ok (rt_i _) (eo_X0_sectionCount l D ad cB) (fun pc g h => by cases h) (by
      simp only [pX0_sectionCount, eX0_sectionCount, fX1_number, rx_n, rx_s, rx_to, rx_get, rx_f1, rx_f2, rx_two, rx_ext, rx_any, rx_hV, rx_hS, rx_hG, rx_hP, rx_hAi, rx_hAb, rx_hL, rx_hLi, rx_got, rx_pop, rx_sum, rx_len, rx_c, rx_m1, lv_args, Value.category, rx_cut_n, rx_cut_1, rx_iconst, rx_bipush, rx_sipush, rx_lconst, rx_iload_n, rx_iload, rx_lload_n, rx_lload, rx_aload_n, rx_aload, rx_istore_n, rx_istore, rx_lstore_n, rx_lstore, rx_astore_n, rx_astore, rx_iinc, rx_iadd, rx_isub, rx_imul, rx_iand, rx_ixor, rx_ishr, rx_idiv, rx_irem, rx_ladd, rx_lsub, rx_land, rx_lor, rx_lxor, rx_lmul, rx_ldiv, rx_lrem, rx_lushr, rx_lshl, rx_lshr, rx_lneg, rx_i2l, rx_l2i, rx_i2b, rx_lcmp, rx_dup_i, rx_dup_a, rx_pop_i, rx_pop_a, rx_if_eq, rx_if_ne, rx_if_lt, rx_if_ge, rx_if_gt, rx_if_le, rx_icmp_eq, rx_icmp_ne, rx_icmp_lt, rx_icmp_ge, rx_icmp_gt, rx_icmp_le, rx_goto, rx_tsw, rx_ireturn, rx_lreturn, rx_return_, rx_getfield, rx_putfield, rx_invokevirtual, rx_invokespecial, rx_invokestatic, rx_ldc, rx_ldc2_w, rx_iaload, rx_iastore, rx_baload, rx_bastore, Nat.reduceBEq, Nat.reduceAdd, Nat.reduceSub, Nat.reduceMul, Nat.reduceLeDiff, Nat.reduceEqDiff, Nat.reduceLT, Int.reduceLT, Int.reduceLE, Int.reduceNeg, Int.reduceToNat, Int.reduceAdd, Fin.isValue, Fin.val_zero, Fin.val_one, Fin.reduceFinMk, Fin.val_ofNat, Bool.or_true, Bool.true_or, Bool.or_false, Bool.false_or, Bool.and_true, Bool.true_and, Bool.and_false, Bool.false_and, cond_true, cond_false, ↓reduceIte, eq_self, ne_eq, not_true_eq_false, not_false_eq_true, true_and, and_true, Option.toList_some, Option.toList_none, List.cons_append, List.nil_append, Option.some.injEq, Value.int.injEq, Value.long.injEq, rx_l0, rx_l1, rx_fv0, rx_fv1, rx_fv2, rx_fv3, nI_c1, nI_c2, nI_c4, nI_c8, nI_c9, nI_c24, nI_c64, Nat.le_refl, bI_z, bI_0, bI_1, Classical.not_not, lg_cmp_ge, lg_cmp_le, lg_cmp_gt, lg_cmp_lt, lg_cmp_eq]
      simp only [lN_i, nm_K, nI_add0, gS, sS, nS, lS, yS])
  · cases hf
def pX0_segmentStart : rx_P := [(0, .aload_n 0, 0), (1, .getfield 9, 0), (4, .bipush 32, 0), (6, .bipush 8, 0), (8, .invokevirtual 15, 0), (11, .l2i, 0), (12, .bipush 56, 0), (14, .iload_n 1, 0), (15, .imul, 0), (16, .iadd, 0), (17, .ireturn, 0)]
theorem pX0_segmentStart_ok : ∀ q ∈ pX0_segmentStart, rx_ok cX0_segmentStart q := rx_ok_all (by decide +kernel)
abbrev rX0_segmentStart : Room := { frames := 1, cells := 0, slots := 0, locals := 25 }
noncomputable def fX0_segmentStart : rx_F cS := fun w as => match as with
  | [.int k] => some (True, w, some (.int (gS w.1 k)))
  | _ => none
noncomputable def eX0_segmentStart (ad : Nat → Nat) : rx_E cS := rx_any [rx_hG 9 (ad 2) (fun w => .ref (ad 1)), rx_hV 15 2 (ad 1) fX1_number]
set_option maxHeartbeats 4000000 in
set_option maxRecDepth 100000 in
theorem eo_X0_segmentStart (l : Launch) (D : va_G) (ad : Nat → Nat) (cB : ClassId) : ∀ (p : Program) (e : Env) (s : State) (m : MethodId) (args : Array Value) (below : List Frame) (meth : Method) (c : Code) (Qw : State → Prop), CallFix p m c cX0_segmentStart 2 s args (Cond.code yX0_segmentStart cX0_segmentStart 2 (some .int) :: wsA) RX0 → cK D cB s → rx_Eok (fun H locs g => W p l e rX0_segmentStart s m args below meth c H locs 0 0 Qw g) m cX0_segmentStart 2 (tr_I D vwCl (cA ad) s (cW ad cB)) (eX0_segmentStart ad) := by
  intro p e s m args below meth c Qw S hK
  have ht : ∀ w ∈ wsA, w.before args s = true := fun w h => S.2.2.2.2 w (wsA_in h)
  exact rx_any_c (rx_hG_ok (fun w H locs pc ls rest hI hd k => va_get (D := D) (ci := 0) (C := RX0) (T := TX0) (N := 1) S.1 S.2.1 ht inX0 S.2.2.2.1 hK.1 hI.1 2 rfl rfl 0 (by decide) (ht _ wfX0_9) (fun _ h9 => h9) rfl hd k)) (rx_any_c (rx_hV_ok S ⟨Nat.zero_le _, Nat.zero_le _⟩ cK_tr hK (cwV 2 S.2.2.2.2 (wsA_V wkX0_15 wiX1_number weX1_number winiX1 wX1_number) rfl rfl rfl (by decide +kernel) ⟨by decide, by decide⟩) (ct_X1_number l D ad cB) (fun w H hP => va_recv hK.1 hP (rfl : vwCl[1]? = some (RX1, TX1, 2)) (rfl : (cW ad cB w)[1]? = some _))) (rx_any_0))
set_option maxHeartbeats 4000000 in
set_option maxRecDepth 100000 in
theorem ct_X0_segmentStart (l : Launch) (D : va_G) (ad : Nat → Nat) (cB : ClassId) : ctC l yX0_segmentStart cX0_segmentStart 2 (some .int) rX0_segmentStart D ad cB [.ref (ad 2)] fX0_segmentStart := by
  intro w as g w1 r hf hg
  unfold fX0_segmentStart at hf
  split at hf
  · next k =>
    cases hf
    exact tr_of rx_nc 0 200 0 (by decide) rfl rfl (Nat.le_of_ble_eq_true rfl) pX0_segmentStart_ok (rt_i _) (eo_X0_segmentStart l D ad cB) (fun pc g h => by cases h) (by
      simp only [pX0_segmentStart, eX0_segmentStart, fX1_number, rx_n, rx_s, rx_to, rx_get, rx_f1, rx_f2, rx_two, rx_ext, rx_any, rx_hV, rx_hS, rx_hG, rx_hP, rx_hAi, rx_hAb, rx_hL, rx_hLi, rx_got, rx_pop, rx_sum, rx_len, rx_c, rx_m1, lv_args, Value.category, rx_cut_n, rx_cut_1, rx_iconst, rx_bipush, rx_sipush, rx_lconst, rx_iload_n, rx_iload, rx_lload_n, rx_lload, rx_aload_n, rx_aload, rx_istore_n, rx_istore, rx_lstore_n, rx_lstore, rx_astore_n, rx_astore, rx_iinc, rx_iadd, rx_isub, rx_imul, rx_iand, rx_ixor, rx_ishr, rx_idiv, rx_irem, rx_ladd, rx_lsub, rx_land, rx_lor, rx_lxor, rx_lmul, rx_ldiv, rx_lrem, rx_lushr, rx_lshl, rx_lshr, rx_lneg, rx_i2l, rx_l2i, rx_i2b, rx_lcmp, rx_dup_i, rx_dup_a, rx_pop_i, rx_pop_a, rx_if_eq, rx_if_ne, rx_if_lt, rx_if_ge, rx_if_gt, rx_if_le, rx_icmp_eq, rx_icmp_ne, rx_icmp_lt, rx_icmp_ge, rx_icmp_gt, rx_icmp_le, rx_goto, rx_tsw, rx_ireturn, rx_lreturn, rx_return_, rx_getfield, rx_putfield, rx_invokevirtual, rx_invokespecial, rx_invokestatic, rx_ldc, rx_ldc2_w, rx_iaload, rx_iastore, rx_baload, rx_bastore, Nat.reduceBEq, Nat.reduceAdd, Nat.reduceSub, Nat.reduceMul, Nat.reduceLeDiff, Nat.reduceEqDiff, Nat.reduceLT, Int.reduceLT, Int.reduceLE, Int.reduceNeg, Int.reduceToNat, Int.reduceAdd, Fin.isValue, Fin.val_zero, Fin.val_one, Fin.reduceFinMk, Fin.val_ofNat, Bool.or_true, Bool.true_or, Bool.or_false, Bool.false_or, Bool.and_true, Bool.true_and, Bool.and_false, Bool.false_and, cond_true, cond_false, ↓reduceIte, eq_self, ne_eq, not_true_eq_false, not_false_eq_true, true_and, and_true, Option.toList_some, Option.toList_none, List.cons_append, List.nil_append, Option.some.injEq, Value.int.injEq, Value.long.injEq, rx_l0, rx_l1, rx_fv0, rx_fv1, rx_fv2, rx_fv3, nI_c1, nI_c2, nI_c4, nI_c8, nI_c9, nI_c24, nI_c64, Nat.le_refl, bI_z, bI_0, bI_1, Classical.not_not, lg_cmp_ge, lg_cmp_le, lg_cmp_gt, lg_cmp_lt, lg_cmp_eq]
      simp only [lN_i, nm_K, nI_add0, gS, sS, nS, lS, yS])
  · cases hf
def pX0_sectionStart : rx_P := [(0, .aload_n 0, 0), (1, .getfield 9, 0), (4, .bipush 40, 0), (6, .bipush 8, 0), (8, .invokevirtual 15, 0), (11, .l2i, 0), (12, .bipush 64, 0), (14, .iload_n 1, 0), (15, .imul, 0), (16, .iadd, 0), (17, .ireturn, 0)]
theorem pX0_sectionStart_ok : ∀ q ∈ pX0_sectionStart, rx_ok cX0_sectionStart q := rx_ok_all (by decide +kernel)
abbrev rX0_sectionStart : Room := { frames := 1, cells := 0, slots := 0, locals := 25 }
noncomputable def fX0_sectionStart : rx_F cS := fun w as => match as with
  | [.int k] => some (True, w, some (.int (sS w.1 k)))
  | _ => none
noncomputable def eX0_sectionStart (ad : Nat → Nat) : rx_E cS := rx_any [rx_hG 9 (ad 2) (fun w => .ref (ad 1)), rx_hV 15 2 (ad 1) fX1_number]
set_option maxHeartbeats 4000000 in
set_option maxRecDepth 100000 in
theorem eo_X0_sectionStart (l : Launch) (D : va_G) (ad : Nat → Nat) (cB : ClassId) : ∀ (p : Program) (e : Env) (s : State) (m : MethodId) (args : Array Value) (below : List Frame) (meth : Method) (c : Code) (Qw : State → Prop), CallFix p m c cX0_sectionStart 2 s args (Cond.code yX0_sectionStart cX0_sectionStart 2 (some .int) :: wsA) RX0 → cK D cB s → rx_Eok (fun H locs g => W p l e rX0_sectionStart s m args below meth c H locs 0 0 Qw g) m cX0_sectionStart 2 (tr_I D vwCl (cA ad) s (cW ad cB)) (eX0_sectionStart ad) := by
  intro p e s m args below meth c Qw S hK
  have ht : ∀ w ∈ wsA, w.before args s = true := fun w h => S.2.2.2.2 w (wsA_in h)
  exact rx_any_c (rx_hG_ok (fun w H locs pc ls rest hI hd k => va_get (D := D) (ci := 0) (C := RX0) (T := TX0) (N := 1) S.1 S.2.1 ht inX0 S.2.2.2.1 hK.1 hI.1 2 rfl rfl 0 (by decide) (ht _ wfX0_9) (fun _ h9 => h9) rfl hd k)) (rx_any_c (rx_hV_ok S ⟨Nat.zero_le _, Nat.zero_le _⟩ cK_tr hK (cwV 2 S.2.2.2.2 (wsA_V wkX0_15 wiX1_number weX1_number winiX1 wX1_number) rfl rfl rfl (by decide +kernel) ⟨by decide, by decide⟩) (ct_X1_number l D ad cB) (fun w H hP => va_recv hK.1 hP (rfl : vwCl[1]? = some (RX1, TX1, 2)) (rfl : (cW ad cB w)[1]? = some _))) (rx_any_0))
set_option maxHeartbeats 4000000 in
set_option maxRecDepth 100000 in
theorem ct_X0_sectionStart (l : Launch) (D : va_G) (ad : Nat → Nat) (cB : ClassId) : ctC l yX0_sectionStart cX0_sectionStart 2 (some .int) rX0_sectionStart D ad cB [.ref (ad 2)] fX0_sectionStart := by
  intro w as g w1 r hf hg
  unfold fX0_sectionStart at hf
  split at hf
  · next k =>
    cases hf
    exact tr_of rx_nc 0 200 0 (by decide) rfl rfl (Nat.le_of_ble_eq_true rfl) pX0_sectionStart_ok (rt_i _) (eo_X0_sectionStart l D ad cB) (fun pc g h => by cases h) (by
      simp only [pX0_sectionStart, eX0_sectionStart, fX1_number, rx_n, rx_s, rx_to, rx_get, rx_f1, rx_f2, rx_two, rx_ext, rx_any, rx_hV, rx_hS, rx_hG, rx_hP, rx_hAi, rx_hAb, rx_hL, rx_hLi, rx_got, rx_pop, rx_sum, rx_len, rx_c, rx_m1, lv_args, Value.category, rx_cut_n, rx_cut_1, rx_iconst, rx_bipush, rx_sipush, rx_lconst, rx_iload_n, rx_iload, rx_lload_n, rx_lload, rx_aload_n, rx_aload, rx_istore_n, rx_istore, rx_lstore_n, rx_lstore, rx_astore_n, rx_astore, rx_iinc, rx_iadd, rx_isub, rx_imul, rx_iand, rx_ixor, rx_ishr, rx_idiv, rx_irem, rx_ladd, rx_lsub, rx_land, rx_lor, rx_lxor, rx_lmul, rx_ldiv, rx_lrem, rx_lushr, rx_lshl, rx_lshr, rx_lneg, rx_i2l, rx_l2i, rx_i2b, rx_lcmp, rx_dup_i, rx_dup_a, rx_pop_i, rx_pop_a, rx_if_eq, rx_if_ne, rx_if_lt, rx_if_ge, rx_if_gt, rx_if_le, rx_icmp_eq, rx_icmp_ne, rx_icmp_lt, rx_icmp_ge, rx_icmp_gt, rx_icmp_le, rx_goto, rx_tsw, rx_ireturn, rx_lreturn, rx_return_, rx_getfield, rx_putfield, rx_invokevirtual, rx_invokespecial, rx_invokestatic, rx_ldc, rx_ldc2_w, rx_iaload, rx_iastore, rx_baload, rx_bastore, Nat.reduceBEq, Nat.reduceAdd, Nat.reduceSub, Nat.reduceMul, Nat.reduceLeDiff, Nat.reduceEqDiff, Nat.reduceLT, Int.reduceLT, Int.reduceLE, Int.reduceNeg, Int.reduceToNat, Int.reduceAdd, Fin.isValue, Fin.val_zero, Fin.val_one, Fin.reduceFinMk, Fin.val_ofNat, Bool.or_true, Bool.true_or, Bool.or_false, Bool.false_or, Bool.and_true, Bool.true_and, Bool.and_false, Bool.false_and, cond_true, cond_false, ↓reduceIte, eq_self, ne_eq, not_true_eq_false, not_false_eq_true, true_and, and_true, Option.toList_some, Option.toList_none, List.cons_append, List.nil_append, Option.some.injEq, Value.int.injEq, Value.long.injEq, rx_l0, rx_l1, rx_fv0, rx_fv1, rx_fv2, rx_fv3, nI_c1, nI_c2, nI_c4, nI_c8, nI_c9, nI_c24, nI_c64, Nat.le_refl, bI_z, bI_0, bI_1, Classical.not_not, lg_cmp_ge, lg_cmp_le, lg_cmp_gt, lg_cmp_lt, lg_cmp_eq]
      simp only [lN_i, nm_K, nI_add0, gS, sS, nS, lS, yS])
  · cases hf
def pX0_isLoaded : rx_P := [(0, .aload_n 0, 0), (1, .getfield 9, 0), (4, .iload_n 1, 0), (5, .iconst 0, 0), (6, .iadd, 0), (7, .iconst 4, 0), (8, .invokevirtual 15, 0), (11, .lconst 1, 0), (12, .lcmp, 0), (13, .ifCond .ne 7, 20), (16, .iconst 1, 0), (17, .goto 4, 21), (20, .iconst 0, 0), (21, .ireturn, 0)]
theorem pX0_isLoaded_ok : ∀ q ∈ pX0_isLoaded, rx_ok cX0_isLoaded q := rx_ok_all (by decide +kernel)
abbrev rX0_isLoaded : Room := { frames := 1, cells := 0, slots := 0, locals := 25 }
noncomputable def fX0_isLoaded : rx_F cS := fun w as => match as with
  | [.int x] => some (True, w, some (.int (bI (nm w.1 x 4 = 1))))
  | _ => none
noncomputable def eX0_isLoaded (ad : Nat → Nat) : rx_E cS := rx_any [rx_hG 9 (ad 2) (fun w => .ref (ad 1)), rx_hV 15 2 (ad 1) fX1_number]
set_option maxHeartbeats 4000000 in
set_option maxRecDepth 100000 in
theorem eo_X0_isLoaded (l : Launch) (D : va_G) (ad : Nat → Nat) (cB : ClassId) : ∀ (p : Program) (e : Env) (s : State) (m : MethodId) (args : Array Value) (below : List Frame) (meth : Method) (c : Code) (Qw : State → Prop), CallFix p m c cX0_isLoaded 2 s args (Cond.code yX0_isLoaded cX0_isLoaded 2 (some .boolean) :: wsA) RX0 → cK D cB s → rx_Eok (fun H locs g => W p l e rX0_isLoaded s m args below meth c H locs 0 0 Qw g) m cX0_isLoaded 2 (tr_I D vwCl (cA ad) s (cW ad cB)) (eX0_isLoaded ad) := by
  intro p e s m args below meth c Qw S hK
  have ht : ∀ w ∈ wsA, w.before args s = true := fun w h => S.2.2.2.2 w (wsA_in h)
  exact rx_any_c (rx_hG_ok (fun w H locs pc ls rest hI hd k => va_get (D := D) (ci := 0) (C := RX0) (T := TX0) (N := 1) S.1 S.2.1 ht inX0 S.2.2.2.1 hK.1 hI.1 2 rfl rfl 0 (by decide) (ht _ wfX0_9) (fun _ h9 => h9) rfl hd k)) (rx_any_c (rx_hV_ok S ⟨Nat.zero_le _, Nat.zero_le _⟩ cK_tr hK (cwV 2 S.2.2.2.2 (wsA_V wkX0_15 wiX1_number weX1_number winiX1 wX1_number) rfl rfl rfl (by decide +kernel) ⟨by decide, by decide⟩) (ct_X1_number l D ad cB) (fun w H hP => va_recv hK.1 hP (rfl : vwCl[1]? = some (RX1, TX1, 2)) (rfl : (cW ad cB w)[1]? = some _))) (rx_any_0))
set_option maxHeartbeats 4000000 in
set_option maxRecDepth 100000 in
theorem ct_X0_isLoaded (l : Launch) (D : va_G) (ad : Nat → Nat) (cB : ClassId) : ctC l yX0_isLoaded cX0_isLoaded 2 (some .boolean) rX0_isLoaded D ad cB [.ref (ad 2)] fX0_isLoaded := by
  intro w as g w1 r hf hg
  unfold fX0_isLoaded at hf
  split at hf
  · next x =>
    cases hf
    exact tr_of rx_nc 0 200 0 (by decide) rfl rfl (Nat.le_of_ble_eq_true rfl) pX0_isLoaded_ok (rt_z _) (eo_X0_isLoaded l D ad cB) (fun pc g h => by cases h) (by
      simp only [pX0_isLoaded, eX0_isLoaded, fX1_number, rx_n, rx_s, rx_to, rx_get, rx_f1, rx_f2, rx_two, rx_ext, rx_any, rx_hV, rx_hS, rx_hG, rx_hP, rx_hAi, rx_hAb, rx_hL, rx_hLi, rx_got, rx_pop, rx_sum, rx_len, rx_c, rx_m1, lv_args, Value.category, rx_cut_n, rx_cut_1, rx_iconst, rx_bipush, rx_sipush, rx_lconst, rx_iload_n, rx_iload, rx_lload_n, rx_lload, rx_aload_n, rx_aload, rx_istore_n, rx_istore, rx_lstore_n, rx_lstore, rx_astore_n, rx_astore, rx_iinc, rx_iadd, rx_isub, rx_imul, rx_iand, rx_ixor, rx_ishr, rx_idiv, rx_irem, rx_ladd, rx_lsub, rx_land, rx_lor, rx_lxor, rx_lmul, rx_ldiv, rx_lrem, rx_lushr, rx_lshl, rx_lshr, rx_lneg, rx_i2l, rx_l2i, rx_i2b, rx_lcmp, rx_dup_i, rx_dup_a, rx_pop_i, rx_pop_a, rx_if_eq, rx_if_ne, rx_if_lt, rx_if_ge, rx_if_gt, rx_if_le, rx_icmp_eq, rx_icmp_ne, rx_icmp_lt, rx_icmp_ge, rx_icmp_gt, rx_icmp_le, rx_goto, rx_tsw, rx_ireturn, rx_lreturn, rx_return_, rx_getfield, rx_putfield, rx_invokevirtual, rx_invokespecial, rx_invokestatic, rx_ldc, rx_ldc2_w, rx_iaload, rx_iastore, rx_baload, rx_bastore, Nat.reduceBEq, Nat.reduceAdd, Nat.reduceSub, Nat.reduceMul, Nat.reduceLeDiff, Nat.reduceEqDiff, Nat.reduceLT, Int.reduceLT, Int.reduceLE, Int.reduceNeg, Int.reduceToNat, Int.reduceAdd, Fin.isValue, Fin.val_zero, Fin.val_one, Fin.reduceFinMk, Fin.val_ofNat, Bool.or_true, Bool.true_or, Bool.or_false, Bool.false_or, Bool.and_true, Bool.true_and, Bool.and_false, Bool.false_and, cond_true, cond_false, ↓reduceIte, eq_self, ne_eq, not_true_eq_false, not_false_eq_true, true_and, and_true, Option.toList_some, Option.toList_none, List.cons_append, List.nil_append, Option.some.injEq, Value.int.injEq, Value.long.injEq, rx_l0, rx_l1, rx_fv0, rx_fv1, rx_fv2, rx_fv3, nI_c1, nI_c2, nI_c4, nI_c8, nI_c9, nI_c24, nI_c64, Nat.le_refl, bI_z, bI_0, bI_1, Classical.not_not, lg_cmp_ge, lg_cmp_le, lg_cmp_gt, lg_cmp_lt, lg_cmp_eq]
      have h := nm_4 w.1 x
      simp only [nI_add0]
      rw [pk_lEQ (by omega) (by omega)]
      exact ⟨fun h => h, fun h => h⟩)
  · cases hf
def pX0_mayBeRun : rx_P := [(0, .aload_n 0, 0), (1, .getfield 9, 0), (4, .iload_n 1, 0), (5, .iconst 4, 0), (6, .iadd, 0), (7, .iconst 4, 0), (8, .invokevirtual 15, 0), (11, .lconst 1, 0), (12, .land, 0), (13, .lconst 1, 0), (14, .lcmp, 0), (15, .ifCond .ne 7, 22), (18, .iconst 1, 0), (19, .goto 4, 23), (22, .iconst 0, 0), (23, .ireturn, 0)]
theorem pX0_mayBeRun_ok : ∀ q ∈ pX0_mayBeRun, rx_ok cX0_mayBeRun q := rx_ok_all (by decide +kernel)
abbrev rX0_mayBeRun : Room := { frames := 1, cells := 0, slots := 0, locals := 25 }
noncomputable def fX0_mayBeRun : rx_F cS := fun w as => match as with
  | [.int x] => some (True, w, some (.int (bI (nm w.1 (x + nI 4) 4 % 2 = 1))))
  | _ => none
noncomputable def eX0_mayBeRun (ad : Nat → Nat) : rx_E cS := rx_any [rx_hG 9 (ad 2) (fun w => .ref (ad 1)), rx_hV 15 2 (ad 1) fX1_number]
set_option maxHeartbeats 4000000 in
set_option maxRecDepth 100000 in
theorem eo_X0_mayBeRun (l : Launch) (D : va_G) (ad : Nat → Nat) (cB : ClassId) : ∀ (p : Program) (e : Env) (s : State) (m : MethodId) (args : Array Value) (below : List Frame) (meth : Method) (c : Code) (Qw : State → Prop), CallFix p m c cX0_mayBeRun 2 s args (Cond.code yX0_mayBeRun cX0_mayBeRun 2 (some .boolean) :: wsA) RX0 → cK D cB s → rx_Eok (fun H locs g => W p l e rX0_mayBeRun s m args below meth c H locs 0 0 Qw g) m cX0_mayBeRun 2 (tr_I D vwCl (cA ad) s (cW ad cB)) (eX0_mayBeRun ad) := by
  intro p e s m args below meth c Qw S hK
  have ht : ∀ w ∈ wsA, w.before args s = true := fun w h => S.2.2.2.2 w (wsA_in h)
  exact rx_any_c (rx_hG_ok (fun w H locs pc ls rest hI hd k => va_get (D := D) (ci := 0) (C := RX0) (T := TX0) (N := 1) S.1 S.2.1 ht inX0 S.2.2.2.1 hK.1 hI.1 2 rfl rfl 0 (by decide) (ht _ wfX0_9) (fun _ h9 => h9) rfl hd k)) (rx_any_c (rx_hV_ok S ⟨Nat.zero_le _, Nat.zero_le _⟩ cK_tr hK (cwV 2 S.2.2.2.2 (wsA_V wkX0_15 wiX1_number weX1_number winiX1 wX1_number) rfl rfl rfl (by decide +kernel) ⟨by decide, by decide⟩) (ct_X1_number l D ad cB) (fun w H hP => va_recv hK.1 hP (rfl : vwCl[1]? = some (RX1, TX1, 2)) (rfl : (cW ad cB w)[1]? = some _))) (rx_any_0))
set_option maxHeartbeats 4000000 in
set_option maxRecDepth 100000 in
theorem ct_X0_mayBeRun (l : Launch) (D : va_G) (ad : Nat → Nat) (cB : ClassId) : ctC l yX0_mayBeRun cX0_mayBeRun 2 (some .boolean) rX0_mayBeRun D ad cB [.ref (ad 2)] fX0_mayBeRun := by
  intro w as g w1 r hf hg
  unfold fX0_mayBeRun at hf
  split at hf
  · next x =>
    cases hf
    exact tr_of rx_nc 0 200 0 (by decide) rfl rfl (Nat.le_of_ble_eq_true rfl) pX0_mayBeRun_ok (rt_z _) (eo_X0_mayBeRun l D ad cB) (fun pc g h => by cases h) (by
      simp only [pX0_mayBeRun, eX0_mayBeRun, fX1_number, rx_n, rx_s, rx_to, rx_get, rx_f1, rx_f2, rx_two, rx_ext, rx_any, rx_hV, rx_hS, rx_hG, rx_hP, rx_hAi, rx_hAb, rx_hL, rx_hLi, rx_got, rx_pop, rx_sum, rx_len, rx_c, rx_m1, lv_args, Value.category, rx_cut_n, rx_cut_1, rx_iconst, rx_bipush, rx_sipush, rx_lconst, rx_iload_n, rx_iload, rx_lload_n, rx_lload, rx_aload_n, rx_aload, rx_istore_n, rx_istore, rx_lstore_n, rx_lstore, rx_astore_n, rx_astore, rx_iinc, rx_iadd, rx_isub, rx_imul, rx_iand, rx_ixor, rx_ishr, rx_idiv, rx_irem, rx_ladd, rx_lsub, rx_land, rx_lor, rx_lxor, rx_lmul, rx_ldiv, rx_lrem, rx_lushr, rx_lshl, rx_lshr, rx_lneg, rx_i2l, rx_l2i, rx_i2b, rx_lcmp, rx_dup_i, rx_dup_a, rx_pop_i, rx_pop_a, rx_if_eq, rx_if_ne, rx_if_lt, rx_if_ge, rx_if_gt, rx_if_le, rx_icmp_eq, rx_icmp_ne, rx_icmp_lt, rx_icmp_ge, rx_icmp_gt, rx_icmp_le, rx_goto, rx_tsw, rx_ireturn, rx_lreturn, rx_return_, rx_getfield, rx_putfield, rx_invokevirtual, rx_invokespecial, rx_invokestatic, rx_ldc, rx_ldc2_w, rx_iaload, rx_iastore, rx_baload, rx_bastore, Nat.reduceBEq, Nat.reduceAdd, Nat.reduceSub, Nat.reduceMul, Nat.reduceLeDiff, Nat.reduceEqDiff, Nat.reduceLT, Int.reduceLT, Int.reduceLE, Int.reduceNeg, Int.reduceToNat, Int.reduceAdd, Fin.isValue, Fin.val_zero, Fin.val_one, Fin.reduceFinMk, Fin.val_ofNat, Bool.or_true, Bool.true_or, Bool.or_false, Bool.false_or, Bool.and_true, Bool.true_and, Bool.and_false, Bool.false_and, cond_true, cond_false, ↓reduceIte, eq_self, ne_eq, not_true_eq_false, not_false_eq_true, true_and, and_true, Option.toList_some, Option.toList_none, List.cons_append, List.nil_append, Option.some.injEq, Value.int.injEq, Value.long.injEq, rx_l0, rx_l1, rx_fv0, rx_fv1, rx_fv2, rx_fv3, nI_c1, nI_c2, nI_c4, nI_c8, nI_c9, nI_c24, nI_c64, Nat.le_refl, bI_z, bI_0, bI_1, Classical.not_not, lg_cmp_ge, lg_cmp_le, lg_cmp_gt, lg_cmp_lt, lg_cmp_eq]
      have h := nm_4 w.1 (x + nI 4)
      rw [lN_and1 (by omega), pk_lEQ (by omega) (by omega)]
      exact ⟨fun h => h, fun h => h⟩)
  · cases hf
def pX0_liesInMemory : rx_P := [(0, .aload_n 0, 0), (1, .getfield 9, 0), (4, .iload_n 3, 0), (5, .bipush 16, 0), (7, .iadd, 0), (8, .bipush 8, 0), (10, .invokevirtual 15, 0), (13, .lstore 4, 0), (15, .aload_n 0, 0), (16, .getfield 9, 0), (19, .iload_n 3, 0), (20, .bipush 40, 0), (22, .iadd, 0), (23, .bipush 8, 0), (25, .invokevirtual 15, 0), (28, .lstore 6, 0), (30, .lload_n 1, 0), (31, .lload 4, 0), (33, .invokestatic 21, 0), (36, .ifCond .ne 19, 55), (39, .lload_n 1, 0), (40, .lload 4, 0), (42, .lsub, 0), (43, .lload 6, 0), (45, .invokestatic 21, 0), (48, .ifCond .eq 7, 55), (51, .iconst 1, 0), (52, .goto 4, 56), (55, .iconst 0, 0), (56, .ireturn, 0)]
theorem pX0_liesInMemory_ok : ∀ q ∈ pX0_liesInMemory, rx_ok cX0_liesInMemory q := rx_ok_all (by decide +kernel)
abbrev rX0_liesInMemory : Room := { frames := 1, cells := 0, slots := 0, locals := 25 }
noncomputable def fX0_liesInMemory : rx_F cS := fun w as => match as with
  | [.long a, .int x] => some (True, w, some (.int (bI (nm w.1 (x + nI 16) 8 ≤ uN a ∧ uN a < nm w.1 (x + nI 16) 8 + nm w.1 (x + nI 40) 8))))
  | _ => none
noncomputable def eX0_liesInMemory (ad : Nat → Nat) : rx_E cS := rx_any [rx_hG 9 (ad 2) (fun w => .ref (ad 1)), rx_hV 15 2 (ad 1) fX1_number, rx_hS 21 2 fX1_isBelow]
set_option maxHeartbeats 4000000 in
set_option maxRecDepth 100000 in
theorem eo_X0_liesInMemory (l : Launch) (D : va_G) (ad : Nat → Nat) (cB : ClassId) : ∀ (p : Program) (e : Env) (s : State) (m : MethodId) (args : Array Value) (below : List Frame) (meth : Method) (c : Code) (Qw : State → Prop), CallFix p m c cX0_liesInMemory 8 s args (Cond.code yX0_liesInMemory cX0_liesInMemory 8 (some .boolean) :: wsA) RX0 → cK D cB s → rx_Eok (fun H locs g => W p l e rX0_liesInMemory s m args below meth c H locs 0 0 Qw g) m cX0_liesInMemory 8 (tr_I D vwCl (cA ad) s (cW ad cB)) (eX0_liesInMemory ad) := by
  intro p e s m args below meth c Qw S hK
  have ht : ∀ w ∈ wsA, w.before args s = true := fun w h => S.2.2.2.2 w (wsA_in h)
  exact rx_any_c (rx_hG_ok (fun w H locs pc ls rest hI hd k => va_get (D := D) (ci := 0) (C := RX0) (T := TX0) (N := 1) S.1 S.2.1 ht inX0 S.2.2.2.1 hK.1 hI.1 2 rfl rfl 0 (by decide) (ht _ wfX0_9) (fun _ h9 => h9) rfl hd k)) (rx_any_c (rx_hV_ok S ⟨Nat.zero_le _, Nat.zero_le _⟩ cK_tr hK (cwV 2 S.2.2.2.2 (wsA_V wkX0_15 wiX1_number weX1_number winiX1 wX1_number) rfl rfl rfl (by decide +kernel) ⟨by decide, by decide⟩) (ct_X1_number l D ad cB) (fun w H hP => va_recv hK.1 hP (rfl : vwCl[1]? = some (RX1, TX1, 2)) (rfl : (cW ad cB w)[1]? = some _))) (rx_any_c (rx_hS_ok S ⟨Nat.zero_le _, Nat.zero_le _⟩ cK_tr hK (va_cwS 2 S.2.2.2.2 (wsA_S wkX0_21 wsX1_isBelow winiX1 wX1_isBelow) rfl rfl rfl (by decide +kernel) ⟨by decide, by decide⟩) (ct_X1_isBelow l D ad cB)) (rx_any_0)))
set_option maxHeartbeats 4000000 in
set_option maxRecDepth 100000 in
theorem ct_X0_liesInMemory (l : Launch) (D : va_G) (ad : Nat → Nat) (cB : ClassId) : ctC l yX0_liesInMemory cX0_liesInMemory 8 (some .boolean) rX0_liesInMemory D ad cB [.ref (ad 2)] fX0_liesInMemory := by
  intro w as g w1 r hf hg
  unfold fX0_liesInMemory at hf
  split at hf
  · next a x =>
    cases hf
    exact tr_of rx_nc 0 200 0 (by decide) rfl rfl (Nat.le_of_ble_eq_true rfl) pX0_liesInMemory_ok (rt_z _) (eo_X0_liesInMemory l D ad cB) (fun pc g h => by cases h) (by
      simp only [pX0_liesInMemory, eX0_liesInMemory, fX1_isBelow, fX1_number, rx_n, rx_s, rx_to, rx_get, rx_f1, rx_f2, rx_two, rx_ext, rx_any, rx_hV, rx_hS, rx_hG, rx_hP, rx_hAi, rx_hAb, rx_hL, rx_hLi, rx_got, rx_pop, rx_sum, rx_len, rx_c, rx_m1, lv_args, Value.category, rx_cut_n, rx_cut_1, rx_iconst, rx_bipush, rx_sipush, rx_lconst, rx_iload_n, rx_iload, rx_lload_n, rx_lload, rx_aload_n, rx_aload, rx_istore_n, rx_istore, rx_lstore_n, rx_lstore, rx_astore_n, rx_astore, rx_iinc, rx_iadd, rx_isub, rx_imul, rx_iand, rx_ixor, rx_ishr, rx_idiv, rx_irem, rx_ladd, rx_lsub, rx_land, rx_lor, rx_lxor, rx_lmul, rx_ldiv, rx_lrem, rx_lushr, rx_lshl, rx_lshr, rx_lneg, rx_i2l, rx_l2i, rx_i2b, rx_lcmp, rx_dup_i, rx_dup_a, rx_pop_i, rx_pop_a, rx_if_eq, rx_if_ne, rx_if_lt, rx_if_ge, rx_if_gt, rx_if_le, rx_icmp_eq, rx_icmp_ne, rx_icmp_lt, rx_icmp_ge, rx_icmp_gt, rx_icmp_le, rx_goto, rx_tsw, rx_ireturn, rx_lreturn, rx_return_, rx_getfield, rx_putfield, rx_invokevirtual, rx_invokespecial, rx_invokestatic, rx_ldc, rx_ldc2_w, rx_iaload, rx_iastore, rx_baload, rx_bastore, Nat.reduceBEq, Nat.reduceAdd, Nat.reduceSub, Nat.reduceMul, Nat.reduceLeDiff, Nat.reduceEqDiff, Nat.reduceLT, Int.reduceLT, Int.reduceLE, Int.reduceNeg, Int.reduceToNat, Int.reduceAdd, Fin.isValue, Fin.val_zero, Fin.val_one, Fin.reduceFinMk, Fin.val_ofNat, Bool.or_true, Bool.true_or, Bool.or_false, Bool.false_or, Bool.and_true, Bool.true_and, Bool.and_false, Bool.false_and, cond_true, cond_false, ↓reduceIte, eq_self, ne_eq, not_true_eq_false, not_false_eq_true, true_and, and_true, Option.toList_some, Option.toList_none, List.cons_append, List.nil_append, Option.some.injEq, Value.int.injEq, Value.long.injEq, rx_l0, rx_l1, rx_fv0, rx_fv1, rx_fv2, rx_fv3, nI_c1, nI_c2, nI_c4, nI_c8, nI_c9, nI_c24, nI_c64, Nat.le_refl, bI_z, bI_0, bI_1, Classical.not_not, lg_cmp_ge, lg_cmp_le, lg_cmp_gt, lg_cmp_lt, lg_cmp_eq]
      have h1 := nm_8 w.1 (x + nI 16)
      have h2 := nm_8 w.1 (x + nI 40)
      have h3 := uN_lt a
      simp only [uN_lN h1, uN_lN h2, uN_sub]
      refine ⟨fun h => ?_, fun h => ⟨fun h => ?_, fun h => ?_⟩⟩ <;> omega)
  · cases hf
def pX0_sectionKind : rx_P := [(0, .aload_n 0, 0), (1, .getfield 9, 0), (4, .iload_n 1, 0), (5, .iconst 4, 0), (6, .iadd, 0), (7, .iconst 4, 0), (8, .invokevirtual 15, 0), (11, .lreturn, 0)]
theorem pX0_sectionKind_ok : ∀ q ∈ pX0_sectionKind, rx_ok cX0_sectionKind q := rx_ok_all (by decide +kernel)
abbrev rX0_sectionKind : Room := { frames := 1, cells := 0, slots := 0, locals := 25 }
noncomputable def fX0_sectionKind : rx_F cS := fun w as => match as with
  | [.int x] => some (True, w, some (.long (lN (nm w.1 (x + nI 4) 4))))
  | _ => none
noncomputable def eX0_sectionKind (ad : Nat → Nat) : rx_E cS := rx_any [rx_hG 9 (ad 2) (fun w => .ref (ad 1)), rx_hV 15 2 (ad 1) fX1_number]
set_option maxHeartbeats 4000000 in
set_option maxRecDepth 100000 in
theorem eo_X0_sectionKind (l : Launch) (D : va_G) (ad : Nat → Nat) (cB : ClassId) : ∀ (p : Program) (e : Env) (s : State) (m : MethodId) (args : Array Value) (below : List Frame) (meth : Method) (c : Code) (Qw : State → Prop), CallFix p m c cX0_sectionKind 2 s args (Cond.code yX0_sectionKind cX0_sectionKind 2 (some .long) :: wsA) RX0 → cK D cB s → rx_Eok (fun H locs g => W p l e rX0_sectionKind s m args below meth c H locs 0 0 Qw g) m cX0_sectionKind 2 (tr_I D vwCl (cA ad) s (cW ad cB)) (eX0_sectionKind ad) := by
  intro p e s m args below meth c Qw S hK
  have ht : ∀ w ∈ wsA, w.before args s = true := fun w h => S.2.2.2.2 w (wsA_in h)
  exact rx_any_c (rx_hG_ok (fun w H locs pc ls rest hI hd k => va_get (D := D) (ci := 0) (C := RX0) (T := TX0) (N := 1) S.1 S.2.1 ht inX0 S.2.2.2.1 hK.1 hI.1 2 rfl rfl 0 (by decide) (ht _ wfX0_9) (fun _ h9 => h9) rfl hd k)) (rx_any_c (rx_hV_ok S ⟨Nat.zero_le _, Nat.zero_le _⟩ cK_tr hK (cwV 2 S.2.2.2.2 (wsA_V wkX0_15 wiX1_number weX1_number winiX1 wX1_number) rfl rfl rfl (by decide +kernel) ⟨by decide, by decide⟩) (ct_X1_number l D ad cB) (fun w H hP => va_recv hK.1 hP (rfl : vwCl[1]? = some (RX1, TX1, 2)) (rfl : (cW ad cB w)[1]? = some _))) (rx_any_0))
set_option maxHeartbeats 4000000 in
set_option maxRecDepth 100000 in
theorem ct_X0_sectionKind (l : Launch) (D : va_G) (ad : Nat → Nat) (cB : ClassId) : ctC l yX0_sectionKind cX0_sectionKind 2 (some .long) rX0_sectionKind D ad cB [.ref (ad 2)] fX0_sectionKind := by
  intro w as g w1 r hf hg
  unfold fX0_sectionKind at hf
  split at hf
  · next x =>
    cases hf
    exact tr_of rx_nc 0 200 0 (by decide) rfl rfl (Nat.le_of_ble_eq_true rfl) pX0_sectionKind_ok (rt_l _) (eo_X0_sectionKind l D ad cB) (fun pc g h => by cases h) (by
      simp only [pX0_sectionKind, eX0_sectionKind, fX1_number, rx_n, rx_s, rx_to, rx_get, rx_f1, rx_f2, rx_two, rx_ext, rx_any, rx_hV, rx_hS, rx_hG, rx_hP, rx_hAi, rx_hAb, rx_hL, rx_hLi, rx_got, rx_pop, rx_sum, rx_len, rx_c, rx_m1, lv_args, Value.category, rx_cut_n, rx_cut_1, rx_iconst, rx_bipush, rx_sipush, rx_lconst, rx_iload_n, rx_iload, rx_lload_n, rx_lload, rx_aload_n, rx_aload, rx_istore_n, rx_istore, rx_lstore_n, rx_lstore, rx_astore_n, rx_astore, rx_iinc, rx_iadd, rx_isub, rx_imul, rx_iand, rx_ixor, rx_ishr, rx_idiv, rx_irem, rx_ladd, rx_lsub, rx_land, rx_lor, rx_lxor, rx_lmul, rx_ldiv, rx_lrem, rx_lushr, rx_lshl, rx_lshr, rx_lneg, rx_i2l, rx_l2i, rx_i2b, rx_lcmp, rx_dup_i, rx_dup_a, rx_pop_i, rx_pop_a, rx_if_eq, rx_if_ne, rx_if_lt, rx_if_ge, rx_if_gt, rx_if_le, rx_icmp_eq, rx_icmp_ne, rx_icmp_lt, rx_icmp_ge, rx_icmp_gt, rx_icmp_le, rx_goto, rx_tsw, rx_ireturn, rx_lreturn, rx_return_, rx_getfield, rx_putfield, rx_invokevirtual, rx_invokespecial, rx_invokestatic, rx_ldc, rx_ldc2_w, rx_iaload, rx_iastore, rx_baload, rx_bastore, Nat.reduceBEq, Nat.reduceAdd, Nat.reduceSub, Nat.reduceMul, Nat.reduceLeDiff, Nat.reduceEqDiff, Nat.reduceLT, Int.reduceLT, Int.reduceLE, Int.reduceNeg, Int.reduceToNat, Int.reduceAdd, Fin.isValue, Fin.val_zero, Fin.val_one, Fin.reduceFinMk, Fin.val_ofNat, Bool.or_true, Bool.true_or, Bool.or_false, Bool.false_or, Bool.and_true, Bool.true_and, Bool.and_false, Bool.false_and, cond_true, cond_false, ↓reduceIte, eq_self, ne_eq, not_true_eq_false, not_false_eq_true, true_and, and_true, Option.toList_some, Option.toList_none, List.cons_append, List.nil_append, Option.some.injEq, Value.int.injEq, Value.long.injEq, rx_l0, rx_l1, rx_fv0, rx_fv1, rx_fv2, rx_fv3, nI_c1, nI_c2, nI_c4, nI_c8, nI_c9, nI_c24, nI_c64, Nat.le_refl, bI_z, bI_0, bI_1, Classical.not_not, lg_cmp_ge, lg_cmp_le, lg_cmp_gt, lg_cmp_lt, lg_cmp_eq])
  · cases hf
def pX0_isTexts : rx_P := [(0, .lload_n 1, 0), (1, .lconst 0, 0), (2, .lcmp, 0), (3, .ifCond .lt 34, 37), (6, .lload_n 1, 0), (7, .aload_n 0, 0), (8, .invokevirtual 25, 0), (11, .i2l, 0), (12, .lcmp, 0), (13, .ifCond .ge 24, 37), (16, .aload_n 0, 0), (17, .aload_n 0, 0), (18, .lload_n 1, 0), (19, .l2i, 0), (20, .invokevirtual 29, 0), (23, .invokevirtual 33, 0), (26, .ldc2_w 37, 0), (29, .lcmp, 0), (30, .ifCond .ne 7, 37), (33, .iconst 1, 0), (34, .goto 4, 38), (37, .iconst 0, 0), (38, .ireturn, 0)]
theorem pX0_isTexts_ok : ∀ q ∈ pX0_isTexts, rx_ok cX0_isTexts q := rx_ok_all (by decide +kernel)
abbrev rX0_isTexts : Room := { frames := 2, cells := 0, slots := 0, locals := 46 }
noncomputable def fX0_isTexts : rx_F cS := fun w as => match as with
  | [.long k] => some (True, w, some (.int (bI (iT w.1 (uN k)))))
  | _ => none
noncomputable def eX0_isTexts (ad : Nat → Nat) : rx_E cS := rx_any [rx_hV 25 0 (ad 2) fX0_sectionCount, rx_hV 29 1 (ad 2) fX0_sectionStart, rx_hV 33 1 (ad 2) fX0_sectionKind, rx_hL 37 (lN 3)]
set_option maxHeartbeats 4000000 in
set_option maxRecDepth 100000 in
theorem eo_X0_isTexts (l : Launch) (D : va_G) (ad : Nat → Nat) (cB : ClassId) : ∀ (p : Program) (e : Env) (s : State) (m : MethodId) (args : Array Value) (below : List Frame) (meth : Method) (c : Code) (Qw : State → Prop), CallFix p m c cX0_isTexts 3 s args (Cond.code yX0_isTexts cX0_isTexts 3 (some .boolean) :: wsA) RX0 → cK D cB s → rx_Eok (fun H locs g => W p l e rX0_isTexts s m args below meth c H locs 0 0 Qw g) m cX0_isTexts 3 (tr_I D vwCl (cA ad) s (cW ad cB)) (eX0_isTexts ad) := by
  intro p e s m args below meth c Qw S hK
  have ht : ∀ w ∈ wsA, w.before args s = true := fun w h => S.2.2.2.2 w (wsA_in h)
  exact rx_any_c (rx_hV_ok S ⟨Nat.zero_le _, Nat.zero_le _⟩ cK_tr hK (cwV 0 S.2.2.2.2 (wsA_V wkX0_25 wiX0_sectionCount weX0_sectionCount winiX0 wX0_sectionCount) rfl rfl rfl (by decide +kernel) ⟨by decide, by decide⟩) (ct_X0_sectionCount l D ad cB) (fun w H hP => va_recv hK.1 hP (rfl : vwCl[0]? = some (RX0, TX0, 1)) (rfl : (cW ad cB w)[2]? = some _))) (rx_any_c (rx_hV_ok S ⟨Nat.zero_le _, Nat.zero_le _⟩ cK_tr hK (cwV 1 S.2.2.2.2 (wsA_V wkX0_29 wiX0_sectionStart weX0_sectionStart winiX0 wX0_sectionStart) rfl rfl rfl (by decide +kernel) ⟨by decide, by decide⟩) (ct_X0_sectionStart l D ad cB) (fun w H hP => va_recv hK.1 hP (rfl : vwCl[0]? = some (RX0, TX0, 1)) (rfl : (cW ad cB w)[2]? = some _))) (rx_any_c (rx_hV_ok S ⟨Nat.zero_le _, Nat.zero_le _⟩ cK_tr hK (cwV 1 S.2.2.2.2 (wsA_V wkX0_33 wiX0_sectionKind weX0_sectionKind winiX0 wX0_sectionKind) rfl rfl rfl (by decide +kernel) ⟨by decide, by decide⟩) (ct_X0_sectionKind l D ad cB) (fun w H hP => va_recv hK.1 hP (rfl : vwCl[0]? = some (RX0, TX0, 1)) (rfl : (cW ad cB w)[2]? = some _))) (rx_any_c (rx_hL_ok S (ht _ wcX0_37)) (rx_any_0))))
set_option maxHeartbeats 4000000 in
set_option maxRecDepth 100000 in
theorem ct_X0_isTexts (l : Launch) (D : va_G) (ad : Nat → Nat) (cB : ClassId) : ctC l yX0_isTexts cX0_isTexts 3 (some .boolean) rX0_isTexts D ad cB [.ref (ad 2)] fX0_isTexts := by
  intro w as g w1 r hf hg
  unfold fX0_isTexts at hf
  split at hf
  · next k =>
    cases hf
    exact tr_of rx_nc 0 200 0 (by decide) rfl rfl (Nat.le_of_ble_eq_true rfl) pX0_isTexts_ok (rt_z _) (eo_X0_isTexts l D ad cB) (fun pc g h => by cases h) (by
      simp only [pX0_isTexts, eX0_isTexts, fX0_sectionCount, fX0_sectionKind, fX0_sectionStart, rx_n, rx_s, rx_to, rx_get, rx_f1, rx_f2, rx_two, rx_ext, rx_any, rx_hV, rx_hS, rx_hG, rx_hP, rx_hAi, rx_hAb, rx_hL, rx_hLi, rx_got, rx_pop, rx_sum, rx_len, rx_c, rx_m1, lv_args, Value.category, rx_cut_n, rx_cut_1, rx_iconst, rx_bipush, rx_sipush, rx_lconst, rx_iload_n, rx_iload, rx_lload_n, rx_lload, rx_aload_n, rx_aload, rx_istore_n, rx_istore, rx_lstore_n, rx_lstore, rx_astore_n, rx_astore, rx_iinc, rx_iadd, rx_isub, rx_imul, rx_iand, rx_ixor, rx_ishr, rx_idiv, rx_irem, rx_ladd, rx_lsub, rx_land, rx_lor, rx_lxor, rx_lmul, rx_ldiv, rx_lrem, rx_lushr, rx_lshl, rx_lshr, rx_lneg, rx_i2l, rx_l2i, rx_i2b, rx_lcmp, rx_dup_i, rx_dup_a, rx_pop_i, rx_pop_a, rx_if_eq, rx_if_ne, rx_if_lt, rx_if_ge, rx_if_gt, rx_if_le, rx_icmp_eq, rx_icmp_ne, rx_icmp_lt, rx_icmp_ge, rx_icmp_gt, rx_icmp_le, rx_goto, rx_tsw, rx_ireturn, rx_lreturn, rx_return_, rx_getfield, rx_putfield, rx_invokevirtual, rx_invokespecial, rx_invokestatic, rx_ldc, rx_ldc2_w, rx_iaload, rx_iastore, rx_baload, rx_bastore, Nat.reduceBEq, Nat.reduceAdd, Nat.reduceSub, Nat.reduceMul, Nat.reduceLeDiff, Nat.reduceEqDiff, Nat.reduceLT, Int.reduceLT, Int.reduceLE, Int.reduceNeg, Int.reduceToNat, Int.reduceAdd, Fin.isValue, Fin.val_zero, Fin.val_one, Fin.reduceFinMk, Fin.val_ofNat, Bool.or_true, Bool.true_or, Bool.or_false, Bool.false_or, Bool.and_true, Bool.true_and, Bool.and_false, Bool.false_and, cond_true, cond_false, ↓reduceIte, eq_self, ne_eq, not_true_eq_false, not_false_eq_true, true_and, and_true, Option.toList_some, Option.toList_none, List.cons_append, List.nil_append, Option.some.injEq, Value.int.injEq, Value.long.injEq, rx_l0, rx_l1, rx_fv0, rx_fv1, rx_fv2, rx_fv3, nI_c1, nI_c2, nI_c4, nI_c8, nI_c9, nI_c24, nI_c64, Nat.le_refl, bI_z, bI_0, bI_1, Classical.not_not, lg_cmp_ge, lg_cmp_le, lg_cmp_gt, lg_cmp_lt, lg_cmp_eq]
      have h1 := nu_2 w.1 60
      have h2 := uN_lt k
      have h3 := nm_4 w.1 (sS w.1 k.toInt32 + nI 4)
      have e1 : k < lN 0 ↔ ¬ uN k < 9223372036854775808 := by
        rw [← uN_pos k, Int64.not_le]
        rfl
      have e2 : k.toInt32 = nI (uN k) := by rw [← lN_i, lN_uN]
      rw [e1]
      refine ⟨fun h => ?_, fun h => ?_⟩
      · unfold iT
        omega
      · obtain ⟨v, hv⟩ : ∃ v, v = uN k := ⟨_, rfl⟩
        have e3 : k = lN v := by rw [hv, lN_uN]
        rw [← hv] at h h2 e2 ⊢
        rw [e2] at h3 ⊢
        rw [nI_l (by omega), e3, pk_lLE (by omega) (by omega), pk_lEQ (by omega) (by omega)]
        unfold iT
        refine ⟨fun h => ?_, fun h => ⟨fun h => ?_, fun h => ⟨by omega, h⟩⟩⟩
        · omega
        · exact fun q => h q.2)
  · cases hf
def pX0_roomPlace : rx_P := [(0, .aload_n 0, 0), (1, .getfield 9, 0), (4, .iload_n 1, 0), (5, .bipush 24, 0), (7, .iadd, 0), (8, .bipush 8, 0), (10, .invokevirtual 15, 0), (13, .lreturn, 0)]
theorem pX0_roomPlace_ok : ∀ q ∈ pX0_roomPlace, rx_ok cX0_roomPlace q := rx_ok_all (by decide +kernel)
abbrev rX0_roomPlace : Room := { frames := 1, cells := 0, slots := 0, locals := 25 }
noncomputable def fX0_roomPlace : rx_F cS := fun w as => match as with
  | [.int x] => some (True, w, some (.long (lN (nm w.1 (x + nI 24) 8))))
  | _ => none
noncomputable def eX0_roomPlace (ad : Nat → Nat) : rx_E cS := rx_any [rx_hG 9 (ad 2) (fun w => .ref (ad 1)), rx_hV 15 2 (ad 1) fX1_number]
set_option maxHeartbeats 4000000 in
set_option maxRecDepth 100000 in
theorem eo_X0_roomPlace (l : Launch) (D : va_G) (ad : Nat → Nat) (cB : ClassId) : ∀ (p : Program) (e : Env) (s : State) (m : MethodId) (args : Array Value) (below : List Frame) (meth : Method) (c : Code) (Qw : State → Prop), CallFix p m c cX0_roomPlace 2 s args (Cond.code yX0_roomPlace cX0_roomPlace 2 (some .long) :: wsA) RX0 → cK D cB s → rx_Eok (fun H locs g => W p l e rX0_roomPlace s m args below meth c H locs 0 0 Qw g) m cX0_roomPlace 2 (tr_I D vwCl (cA ad) s (cW ad cB)) (eX0_roomPlace ad) := by
  intro p e s m args below meth c Qw S hK
  have ht : ∀ w ∈ wsA, w.before args s = true := fun w h => S.2.2.2.2 w (wsA_in h)
  exact rx_any_c (rx_hG_ok (fun w H locs pc ls rest hI hd k => va_get (D := D) (ci := 0) (C := RX0) (T := TX0) (N := 1) S.1 S.2.1 ht inX0 S.2.2.2.1 hK.1 hI.1 2 rfl rfl 0 (by decide) (ht _ wfX0_9) (fun _ h9 => h9) rfl hd k)) (rx_any_c (rx_hV_ok S ⟨Nat.zero_le _, Nat.zero_le _⟩ cK_tr hK (cwV 2 S.2.2.2.2 (wsA_V wkX0_15 wiX1_number weX1_number winiX1 wX1_number) rfl rfl rfl (by decide +kernel) ⟨by decide, by decide⟩) (ct_X1_number l D ad cB) (fun w H hP => va_recv hK.1 hP (rfl : vwCl[1]? = some (RX1, TX1, 2)) (rfl : (cW ad cB w)[1]? = some _))) (rx_any_0))
set_option maxHeartbeats 4000000 in
set_option maxRecDepth 100000 in
theorem ct_X0_roomPlace (l : Launch) (D : va_G) (ad : Nat → Nat) (cB : ClassId) : ctC l yX0_roomPlace cX0_roomPlace 2 (some .long) rX0_roomPlace D ad cB [.ref (ad 2)] fX0_roomPlace := by
  intro w as g w1 r hf hg
  unfold fX0_roomPlace at hf
  split at hf
  · next x =>
    cases hf
    exact tr_of rx_nc 0 200 0 (by decide) rfl rfl (Nat.le_of_ble_eq_true rfl) pX0_roomPlace_ok (rt_l _) (eo_X0_roomPlace l D ad cB) (fun pc g h => by cases h) (by
      simp only [pX0_roomPlace, eX0_roomPlace, fX1_number, rx_n, rx_s, rx_to, rx_get, rx_f1, rx_f2, rx_two, rx_ext, rx_any, rx_hV, rx_hS, rx_hG, rx_hP, rx_hAi, rx_hAb, rx_hL, rx_hLi, rx_got, rx_pop, rx_sum, rx_len, rx_c, rx_m1, lv_args, Value.category, rx_cut_n, rx_cut_1, rx_iconst, rx_bipush, rx_sipush, rx_lconst, rx_iload_n, rx_iload, rx_lload_n, rx_lload, rx_aload_n, rx_aload, rx_istore_n, rx_istore, rx_lstore_n, rx_lstore, rx_astore_n, rx_astore, rx_iinc, rx_iadd, rx_isub, rx_imul, rx_iand, rx_ixor, rx_ishr, rx_idiv, rx_irem, rx_ladd, rx_lsub, rx_land, rx_lor, rx_lxor, rx_lmul, rx_ldiv, rx_lrem, rx_lushr, rx_lshl, rx_lshr, rx_lneg, rx_i2l, rx_l2i, rx_i2b, rx_lcmp, rx_dup_i, rx_dup_a, rx_pop_i, rx_pop_a, rx_if_eq, rx_if_ne, rx_if_lt, rx_if_ge, rx_if_gt, rx_if_le, rx_icmp_eq, rx_icmp_ne, rx_icmp_lt, rx_icmp_ge, rx_icmp_gt, rx_icmp_le, rx_goto, rx_tsw, rx_ireturn, rx_lreturn, rx_return_, rx_getfield, rx_putfield, rx_invokevirtual, rx_invokespecial, rx_invokestatic, rx_ldc, rx_ldc2_w, rx_iaload, rx_iastore, rx_baload, rx_bastore, Nat.reduceBEq, Nat.reduceAdd, Nat.reduceSub, Nat.reduceMul, Nat.reduceLeDiff, Nat.reduceEqDiff, Nat.reduceLT, Int.reduceLT, Int.reduceLE, Int.reduceNeg, Int.reduceToNat, Int.reduceAdd, Fin.isValue, Fin.val_zero, Fin.val_one, Fin.reduceFinMk, Fin.val_ofNat, Bool.or_true, Bool.true_or, Bool.or_false, Bool.false_or, Bool.and_true, Bool.true_and, Bool.and_false, Bool.false_and, cond_true, cond_false, ↓reduceIte, eq_self, ne_eq, not_true_eq_false, not_false_eq_true, true_and, and_true, Option.toList_some, Option.toList_none, List.cons_append, List.nil_append, Option.some.injEq, Value.int.injEq, Value.long.injEq, rx_l0, rx_l1, rx_fv0, rx_fv1, rx_fv2, rx_fv3, nI_c1, nI_c2, nI_c4, nI_c8, nI_c9, nI_c24, nI_c64, Nat.le_refl, bI_z, bI_0, bI_1, Classical.not_not, lg_cmp_ge, lg_cmp_le, lg_cmp_gt, lg_cmp_lt, lg_cmp_eq])
  · cases hf
def pX0_roomLength : rx_P := [(0, .aload_n 0, 0), (1, .getfield 9, 0), (4, .iload_n 1, 0), (5, .iconst 4, 0), (6, .iadd, 0), (7, .iconst 4, 0), (8, .invokevirtual 15, 0), (11, .lstore_n 2, 0), (12, .lload_n 2, 0), (13, .lconst 0, 0), (14, .lcmp, 0), (15, .ifCond .eq 11, 26), (18, .lload_n 2, 0), (19, .ldc2_w 39, 0), (22, .lcmp, 0), (23, .ifCond .ne 5, 28), (26, .lconst 0, 0), (27, .lreturn, 0), (28, .aload_n 0, 0), (29, .getfield 9, 0), (32, .iload_n 1, 0), (33, .bipush 32, 0), (35, .iadd, 0), (36, .bipush 8, 0), (38, .invokevirtual 15, 0), (41, .lreturn, 0)]
theorem pX0_roomLength_ok : ∀ q ∈ pX0_roomLength, rx_ok cX0_roomLength q := rx_ok_all (by decide +kernel)
abbrev rX0_roomLength : Room := { frames := 1, cells := 0, slots := 0, locals := 25 }
noncomputable def fX0_roomLength : rx_F cS := fun w as => match as with
  | [.int x] => some (True, w, some (.long (lN (rl w.1 x))))
  | _ => none
noncomputable def eX0_roomLength (ad : Nat → Nat) : rx_E cS := rx_any [rx_hG 9 (ad 2) (fun w => .ref (ad 1)), rx_hV 15 2 (ad 1) fX1_number, rx_hL 39 (lN 8)]
set_option maxHeartbeats 4000000 in
set_option maxRecDepth 100000 in
theorem eo_X0_roomLength (l : Launch) (D : va_G) (ad : Nat → Nat) (cB : ClassId) : ∀ (p : Program) (e : Env) (s : State) (m : MethodId) (args : Array Value) (below : List Frame) (meth : Method) (c : Code) (Qw : State → Prop), CallFix p m c cX0_roomLength 4 s args (Cond.code yX0_roomLength cX0_roomLength 4 (some .long) :: wsA) RX0 → cK D cB s → rx_Eok (fun H locs g => W p l e rX0_roomLength s m args below meth c H locs 0 0 Qw g) m cX0_roomLength 4 (tr_I D vwCl (cA ad) s (cW ad cB)) (eX0_roomLength ad) := by
  intro p e s m args below meth c Qw S hK
  have ht : ∀ w ∈ wsA, w.before args s = true := fun w h => S.2.2.2.2 w (wsA_in h)
  exact rx_any_c (rx_hG_ok (fun w H locs pc ls rest hI hd k => va_get (D := D) (ci := 0) (C := RX0) (T := TX0) (N := 1) S.1 S.2.1 ht inX0 S.2.2.2.1 hK.1 hI.1 2 rfl rfl 0 (by decide) (ht _ wfX0_9) (fun _ h9 => h9) rfl hd k)) (rx_any_c (rx_hV_ok S ⟨Nat.zero_le _, Nat.zero_le _⟩ cK_tr hK (cwV 2 S.2.2.2.2 (wsA_V wkX0_15 wiX1_number weX1_number winiX1 wX1_number) rfl rfl rfl (by decide +kernel) ⟨by decide, by decide⟩) (ct_X1_number l D ad cB) (fun w H hP => va_recv hK.1 hP (rfl : vwCl[1]? = some (RX1, TX1, 2)) (rfl : (cW ad cB w)[1]? = some _))) (rx_any_c (rx_hL_ok S (ht _ wcX0_39)) (rx_any_0)))
set_option maxHeartbeats 4000000 in
set_option maxRecDepth 100000 in
theorem ct_X0_roomLength (l : Launch) (D : va_G) (ad : Nat → Nat) (cB : ClassId) : ctC l yX0_roomLength cX0_roomLength 4 (some .long) rX0_roomLength D ad cB [.ref (ad 2)] fX0_roomLength := by
  intro w as g w1 r hf hg
  unfold fX0_roomLength at hf
  split at hf
  · next x =>
    cases hf
    exact tr_of rx_nc 0 200 0 (by decide) rfl rfl (Nat.le_of_ble_eq_true rfl) pX0_roomLength_ok (rt_l _) (eo_X0_roomLength l D ad cB) (fun pc g h => by cases h) (by
      simp only [pX0_roomLength, eX0_roomLength, fX1_number, rx_n, rx_s, rx_to, rx_get, rx_f1, rx_f2, rx_two, rx_ext, rx_any, rx_hV, rx_hS, rx_hG, rx_hP, rx_hAi, rx_hAb, rx_hL, rx_hLi, rx_got, rx_pop, rx_sum, rx_len, rx_c, rx_m1, lv_args, Value.category, rx_cut_n, rx_cut_1, rx_iconst, rx_bipush, rx_sipush, rx_lconst, rx_iload_n, rx_iload, rx_lload_n, rx_lload, rx_aload_n, rx_aload, rx_istore_n, rx_istore, rx_lstore_n, rx_lstore, rx_astore_n, rx_astore, rx_iinc, rx_iadd, rx_isub, rx_imul, rx_iand, rx_ixor, rx_ishr, rx_idiv, rx_irem, rx_ladd, rx_lsub, rx_land, rx_lor, rx_lxor, rx_lmul, rx_ldiv, rx_lrem, rx_lushr, rx_lshl, rx_lshr, rx_lneg, rx_i2l, rx_l2i, rx_i2b, rx_lcmp, rx_dup_i, rx_dup_a, rx_pop_i, rx_pop_a, rx_if_eq, rx_if_ne, rx_if_lt, rx_if_ge, rx_if_gt, rx_if_le, rx_icmp_eq, rx_icmp_ne, rx_icmp_lt, rx_icmp_ge, rx_icmp_gt, rx_icmp_le, rx_goto, rx_tsw, rx_ireturn, rx_lreturn, rx_return_, rx_getfield, rx_putfield, rx_invokevirtual, rx_invokespecial, rx_invokestatic, rx_ldc, rx_ldc2_w, rx_iaload, rx_iastore, rx_baload, rx_bastore, Nat.reduceBEq, Nat.reduceAdd, Nat.reduceSub, Nat.reduceMul, Nat.reduceLeDiff, Nat.reduceEqDiff, Nat.reduceLT, Int.reduceLT, Int.reduceLE, Int.reduceNeg, Int.reduceToNat, Int.reduceAdd, Fin.isValue, Fin.val_zero, Fin.val_one, Fin.reduceFinMk, Fin.val_ofNat, Bool.or_true, Bool.true_or, Bool.or_false, Bool.false_or, Bool.and_true, Bool.true_and, Bool.and_false, Bool.false_and, cond_true, cond_false, ↓reduceIte, eq_self, ne_eq, not_true_eq_false, not_false_eq_true, true_and, and_true, Option.toList_some, Option.toList_none, List.cons_append, List.nil_append, Option.some.injEq, Value.int.injEq, Value.long.injEq, rx_l0, rx_l1, rx_fv0, rx_fv1, rx_fv2, rx_fv3, nI_c1, nI_c2, nI_c4, nI_c8, nI_c9, nI_c24, nI_c64, Nat.le_refl, bI_z, bI_0, bI_1, Classical.not_not, lg_cmp_ge, lg_cmp_le, lg_cmp_gt, lg_cmp_lt, lg_cmp_eq]
      have h1 := nm_4 w.1 (x + nI 4)
      rw [pk_lEQ (b := 0) (by omega) (by omega), pk_lEQ (b := 8) (by omega) (by omega)]
      unfold rl
      refine ⟨fun h => by rw [if_pos (Or.inl h)], fun h => ⟨fun h2 => by rw [if_neg (by omega)], fun h2 => by rw [if_pos (Or.inr h2)]⟩⟩)
  · cases hf
def pX0_namesStart : rx_P := [(0, .aload_n 0, 0), (1, .aload_n 0, 0), (2, .getfield 9, 0), (5, .bipush 62, 0), (7, .iconst 2, 0), (8, .invokevirtual 15, 0), (11, .l2i, 0), (12, .invokevirtual 29, 0), (15, .ireturn, 0)]
theorem pX0_namesStart_ok : ∀ q ∈ pX0_namesStart, rx_ok cX0_namesStart q := rx_ok_all (by decide +kernel)
abbrev rX0_namesStart : Room := { frames := 2, cells := 0, slots := 0, locals := 46 }
noncomputable def fX0_namesStart : rx_F cS := fun w as => match as with
  | [] => some (True, w, some (.int (nS w.1)))
  | _ => none
noncomputable def eX0_namesStart (ad : Nat → Nat) : rx_E cS := rx_any [rx_hG 9 (ad 2) (fun w => .ref (ad 1)), rx_hV 15 2 (ad 1) fX1_number, rx_hV 29 1 (ad 2) fX0_sectionStart]
set_option maxHeartbeats 4000000 in
set_option maxRecDepth 100000 in
theorem eo_X0_namesStart (l : Launch) (D : va_G) (ad : Nat → Nat) (cB : ClassId) : ∀ (p : Program) (e : Env) (s : State) (m : MethodId) (args : Array Value) (below : List Frame) (meth : Method) (c : Code) (Qw : State → Prop), CallFix p m c cX0_namesStart 1 s args (Cond.code yX0_namesStart cX0_namesStart 1 (some .int) :: wsA) RX0 → cK D cB s → rx_Eok (fun H locs g => W p l e rX0_namesStart s m args below meth c H locs 0 0 Qw g) m cX0_namesStart 1 (tr_I D vwCl (cA ad) s (cW ad cB)) (eX0_namesStart ad) := by
  intro p e s m args below meth c Qw S hK
  have ht : ∀ w ∈ wsA, w.before args s = true := fun w h => S.2.2.2.2 w (wsA_in h)
  exact rx_any_c (rx_hG_ok (fun w H locs pc ls rest hI hd k => va_get (D := D) (ci := 0) (C := RX0) (T := TX0) (N := 1) S.1 S.2.1 ht inX0 S.2.2.2.1 hK.1 hI.1 2 rfl rfl 0 (by decide) (ht _ wfX0_9) (fun _ h9 => h9) rfl hd k)) (rx_any_c (rx_hV_ok S ⟨Nat.zero_le _, Nat.zero_le _⟩ cK_tr hK (cwV 2 S.2.2.2.2 (wsA_V wkX0_15 wiX1_number weX1_number winiX1 wX1_number) rfl rfl rfl (by decide +kernel) ⟨by decide, by decide⟩) (ct_X1_number l D ad cB) (fun w H hP => va_recv hK.1 hP (rfl : vwCl[1]? = some (RX1, TX1, 2)) (rfl : (cW ad cB w)[1]? = some _))) (rx_any_c (rx_hV_ok S ⟨Nat.zero_le _, Nat.zero_le _⟩ cK_tr hK (cwV 1 S.2.2.2.2 (wsA_V wkX0_29 wiX0_sectionStart weX0_sectionStart winiX0 wX0_sectionStart) rfl rfl rfl (by decide +kernel) ⟨by decide, by decide⟩) (ct_X0_sectionStart l D ad cB) (fun w H hP => va_recv hK.1 hP (rfl : vwCl[0]? = some (RX0, TX0, 1)) (rfl : (cW ad cB w)[2]? = some _))) (rx_any_0)))
set_option maxHeartbeats 4000000 in
set_option maxRecDepth 100000 in
theorem ct_X0_namesStart (l : Launch) (D : va_G) (ad : Nat → Nat) (cB : ClassId) : ctC l yX0_namesStart cX0_namesStart 1 (some .int) rX0_namesStart D ad cB [.ref (ad 2)] fX0_namesStart := by
  intro w as g w1 r hf hg
  unfold fX0_namesStart at hf
  split at hf
  · cases hf
    exact tr_of rx_nc 0 200 0 (by decide) rfl rfl (Nat.le_of_ble_eq_true rfl) pX0_namesStart_ok (rt_i _) (eo_X0_namesStart l D ad cB) (fun pc g h => by cases h) (by
      simp only [pX0_namesStart, eX0_namesStart, fX0_sectionStart, fX1_number, rx_n, rx_s, rx_to, rx_get, rx_f1, rx_f2, rx_two, rx_ext, rx_any, rx_hV, rx_hS, rx_hG, rx_hP, rx_hAi, rx_hAb, rx_hL, rx_hLi, rx_got, rx_pop, rx_sum, rx_len, rx_c, rx_m1, lv_args, Value.category, rx_cut_n, rx_cut_1, rx_iconst, rx_bipush, rx_sipush, rx_lconst, rx_iload_n, rx_iload, rx_lload_n, rx_lload, rx_aload_n, rx_aload, rx_istore_n, rx_istore, rx_lstore_n, rx_lstore, rx_astore_n, rx_astore, rx_iinc, rx_iadd, rx_isub, rx_imul, rx_iand, rx_ixor, rx_ishr, rx_idiv, rx_irem, rx_ladd, rx_lsub, rx_land, rx_lor, rx_lxor, rx_lmul, rx_ldiv, rx_lrem, rx_lushr, rx_lshl, rx_lshr, rx_lneg, rx_i2l, rx_l2i, rx_i2b, rx_lcmp, rx_dup_i, rx_dup_a, rx_pop_i, rx_pop_a, rx_if_eq, rx_if_ne, rx_if_lt, rx_if_ge, rx_if_gt, rx_if_le, rx_icmp_eq, rx_icmp_ne, rx_icmp_lt, rx_icmp_ge, rx_icmp_gt, rx_icmp_le, rx_goto, rx_tsw, rx_ireturn, rx_lreturn, rx_return_, rx_getfield, rx_putfield, rx_invokevirtual, rx_invokespecial, rx_invokestatic, rx_ldc, rx_ldc2_w, rx_iaload, rx_iastore, rx_baload, rx_bastore, Nat.reduceBEq, Nat.reduceAdd, Nat.reduceSub, Nat.reduceMul, Nat.reduceLeDiff, Nat.reduceEqDiff, Nat.reduceLT, Int.reduceLT, Int.reduceLE, Int.reduceNeg, Int.reduceToNat, Int.reduceAdd, Fin.isValue, Fin.val_zero, Fin.val_one, Fin.reduceFinMk, Fin.val_ofNat, Bool.or_true, Bool.true_or, Bool.or_false, Bool.false_or, Bool.and_true, Bool.true_and, Bool.and_false, Bool.false_and, cond_true, cond_false, ↓reduceIte, eq_self, ne_eq, not_true_eq_false, not_false_eq_true, true_and, and_true, Option.toList_some, Option.toList_none, List.cons_append, List.nil_append, Option.some.injEq, Value.int.injEq, Value.long.injEq, rx_l0, rx_l1, rx_fv0, rx_fv1, rx_fv2, rx_fv3, nI_c1, nI_c2, nI_c4, nI_c8, nI_c9, nI_c24, nI_c64, Nat.le_refl, bI_z, bI_0, bI_1, Classical.not_not, lg_cmp_ge, lg_cmp_le, lg_cmp_gt, lg_cmp_lt, lg_cmp_eq]
      simp only [lN_i, nm_K, nI_add0, gS, sS, nS, lS, yS])
  · cases hf
def pX0_linkStart : rx_P := [(0, .aload_n 0, 0), (1, .aload_n 0, 0), (2, .getfield 9, 0), (5, .iload_n 1, 0), (6, .bipush 40, 0), (8, .iadd, 0), (9, .iconst 4, 0), (10, .invokevirtual 15, 0), (13, .l2i, 0), (14, .invokevirtual 29, 0), (17, .ireturn, 0)]
theorem pX0_linkStart_ok : ∀ q ∈ pX0_linkStart, rx_ok cX0_linkStart q := rx_ok_all (by decide +kernel)
abbrev rX0_linkStart : Room := { frames := 2, cells := 0, slots := 0, locals := 46 }
noncomputable def fX0_linkStart : rx_F cS := fun w as => match as with
  | [.int x] => some (True, w, some (.int (lS w.1 x)))
  | _ => none
noncomputable def eX0_linkStart (ad : Nat → Nat) : rx_E cS := rx_any [rx_hG 9 (ad 2) (fun w => .ref (ad 1)), rx_hV 15 2 (ad 1) fX1_number, rx_hV 29 1 (ad 2) fX0_sectionStart]
set_option maxHeartbeats 4000000 in
set_option maxRecDepth 100000 in
theorem eo_X0_linkStart (l : Launch) (D : va_G) (ad : Nat → Nat) (cB : ClassId) : ∀ (p : Program) (e : Env) (s : State) (m : MethodId) (args : Array Value) (below : List Frame) (meth : Method) (c : Code) (Qw : State → Prop), CallFix p m c cX0_linkStart 2 s args (Cond.code yX0_linkStart cX0_linkStart 2 (some .int) :: wsA) RX0 → cK D cB s → rx_Eok (fun H locs g => W p l e rX0_linkStart s m args below meth c H locs 0 0 Qw g) m cX0_linkStart 2 (tr_I D vwCl (cA ad) s (cW ad cB)) (eX0_linkStart ad) := by
  intro p e s m args below meth c Qw S hK
  have ht : ∀ w ∈ wsA, w.before args s = true := fun w h => S.2.2.2.2 w (wsA_in h)
  exact rx_any_c (rx_hG_ok (fun w H locs pc ls rest hI hd k => va_get (D := D) (ci := 0) (C := RX0) (T := TX0) (N := 1) S.1 S.2.1 ht inX0 S.2.2.2.1 hK.1 hI.1 2 rfl rfl 0 (by decide) (ht _ wfX0_9) (fun _ h9 => h9) rfl hd k)) (rx_any_c (rx_hV_ok S ⟨Nat.zero_le _, Nat.zero_le _⟩ cK_tr hK (cwV 2 S.2.2.2.2 (wsA_V wkX0_15 wiX1_number weX1_number winiX1 wX1_number) rfl rfl rfl (by decide +kernel) ⟨by decide, by decide⟩) (ct_X1_number l D ad cB) (fun w H hP => va_recv hK.1 hP (rfl : vwCl[1]? = some (RX1, TX1, 2)) (rfl : (cW ad cB w)[1]? = some _))) (rx_any_c (rx_hV_ok S ⟨Nat.zero_le _, Nat.zero_le _⟩ cK_tr hK (cwV 1 S.2.2.2.2 (wsA_V wkX0_29 wiX0_sectionStart weX0_sectionStart winiX0 wX0_sectionStart) rfl rfl rfl (by decide +kernel) ⟨by decide, by decide⟩) (ct_X0_sectionStart l D ad cB) (fun w H hP => va_recv hK.1 hP (rfl : vwCl[0]? = some (RX0, TX0, 1)) (rfl : (cW ad cB w)[2]? = some _))) (rx_any_0)))
set_option maxHeartbeats 4000000 in
set_option maxRecDepth 100000 in
theorem ct_X0_linkStart (l : Launch) (D : va_G) (ad : Nat → Nat) (cB : ClassId) : ctC l yX0_linkStart cX0_linkStart 2 (some .int) rX0_linkStart D ad cB [.ref (ad 2)] fX0_linkStart := by
  intro w as g w1 r hf hg
  unfold fX0_linkStart at hf
  split at hf
  · next x =>
    cases hf
    exact tr_of rx_nc 0 200 0 (by decide) rfl rfl (Nat.le_of_ble_eq_true rfl) pX0_linkStart_ok (rt_i _) (eo_X0_linkStart l D ad cB) (fun pc g h => by cases h) (by
      simp only [pX0_linkStart, eX0_linkStart, fX0_sectionStart, fX1_number, rx_n, rx_s, rx_to, rx_get, rx_f1, rx_f2, rx_two, rx_ext, rx_any, rx_hV, rx_hS, rx_hG, rx_hP, rx_hAi, rx_hAb, rx_hL, rx_hLi, rx_got, rx_pop, rx_sum, rx_len, rx_c, rx_m1, lv_args, Value.category, rx_cut_n, rx_cut_1, rx_iconst, rx_bipush, rx_sipush, rx_lconst, rx_iload_n, rx_iload, rx_lload_n, rx_lload, rx_aload_n, rx_aload, rx_istore_n, rx_istore, rx_lstore_n, rx_lstore, rx_astore_n, rx_astore, rx_iinc, rx_iadd, rx_isub, rx_imul, rx_iand, rx_ixor, rx_ishr, rx_idiv, rx_irem, rx_ladd, rx_lsub, rx_land, rx_lor, rx_lxor, rx_lmul, rx_ldiv, rx_lrem, rx_lushr, rx_lshl, rx_lshr, rx_lneg, rx_i2l, rx_l2i, rx_i2b, rx_lcmp, rx_dup_i, rx_dup_a, rx_pop_i, rx_pop_a, rx_if_eq, rx_if_ne, rx_if_lt, rx_if_ge, rx_if_gt, rx_if_le, rx_icmp_eq, rx_icmp_ne, rx_icmp_lt, rx_icmp_ge, rx_icmp_gt, rx_icmp_le, rx_goto, rx_tsw, rx_ireturn, rx_lreturn, rx_return_, rx_getfield, rx_putfield, rx_invokevirtual, rx_invokespecial, rx_invokestatic, rx_ldc, rx_ldc2_w, rx_iaload, rx_iastore, rx_baload, rx_bastore, Nat.reduceBEq, Nat.reduceAdd, Nat.reduceSub, Nat.reduceMul, Nat.reduceLeDiff, Nat.reduceEqDiff, Nat.reduceLT, Int.reduceLT, Int.reduceLE, Int.reduceNeg, Int.reduceToNat, Int.reduceAdd, Fin.isValue, Fin.val_zero, Fin.val_one, Fin.reduceFinMk, Fin.val_ofNat, Bool.or_true, Bool.true_or, Bool.or_false, Bool.false_or, Bool.and_true, Bool.true_and, Bool.and_false, Bool.false_and, cond_true, cond_false, ↓reduceIte, eq_self, ne_eq, not_true_eq_false, not_false_eq_true, true_and, and_true, Option.toList_some, Option.toList_none, List.cons_append, List.nil_append, Option.some.injEq, Value.int.injEq, Value.long.injEq, rx_l0, rx_l1, rx_fv0, rx_fv1, rx_fv2, rx_fv3, nI_c1, nI_c2, nI_c4, nI_c8, nI_c9, nI_c24, nI_c64, Nat.le_refl, bI_z, bI_0, bI_1, Classical.not_not, lg_cmp_ge, lg_cmp_le, lg_cmp_gt, lg_cmp_lt, lg_cmp_eq]
      simp only [lN_i, nm_K, nI_add0, gS, sS, nS, lS, yS])
  · cases hf
def pX0_sectionNamePlace : rx_P := [(0, .aload_n 0, 0), (1, .aload_n 0, 0), (2, .invokevirtual 41, 0), (5, .invokevirtual 44, 0), (8, .l2i, 0), (9, .aload_n 0, 0), (10, .getfield 9, 0), (13, .iload_n 1, 0), (14, .iconst 0, 0), (15, .iadd, 0), (16, .iconst 4, 0), (17, .invokevirtual 15, 0), (20, .l2i, 0), (21, .iadd, 0), (22, .ireturn, 0)]
theorem pX0_sectionNamePlace_ok : ∀ q ∈ pX0_sectionNamePlace, rx_ok cX0_sectionNamePlace q := rx_ok_all (by decide +kernel)
abbrev rX0_sectionNamePlace : Room := { frames := 3, cells := 0, slots := 0, locals := 66 }
noncomputable def fX0_sectionNamePlace : rx_F cS := fun w as => match as with
  | [.int x] => some (True, w, some (.int (nI (nm w.1 (nS w.1 + nI 24) 8) + nI (nm w.1 x 4))))
  | _ => none
noncomputable def eX0_sectionNamePlace (ad : Nat → Nat) : rx_E cS := rx_any [rx_hV 41 0 (ad 2) fX0_namesStart, rx_hV 44 1 (ad 2) fX0_roomPlace, rx_hG 9 (ad 2) (fun w => .ref (ad 1)), rx_hV 15 2 (ad 1) fX1_number]
set_option maxHeartbeats 4000000 in
set_option maxRecDepth 100000 in
theorem eo_X0_sectionNamePlace (l : Launch) (D : va_G) (ad : Nat → Nat) (cB : ClassId) : ∀ (p : Program) (e : Env) (s : State) (m : MethodId) (args : Array Value) (below : List Frame) (meth : Method) (c : Code) (Qw : State → Prop), CallFix p m c cX0_sectionNamePlace 2 s args (Cond.code yX0_sectionNamePlace cX0_sectionNamePlace 2 (some .int) :: wsA) RX0 → cK D cB s → rx_Eok (fun H locs g => W p l e rX0_sectionNamePlace s m args below meth c H locs 0 0 Qw g) m cX0_sectionNamePlace 2 (tr_I D vwCl (cA ad) s (cW ad cB)) (eX0_sectionNamePlace ad) := by
  intro p e s m args below meth c Qw S hK
  have ht : ∀ w ∈ wsA, w.before args s = true := fun w h => S.2.2.2.2 w (wsA_in h)
  exact rx_any_c (rx_hV_ok S ⟨Nat.zero_le _, Nat.zero_le _⟩ cK_tr hK (cwV 0 S.2.2.2.2 (wsA_V wkX0_41 wiX0_namesStart weX0_namesStart winiX0 wX0_namesStart) rfl rfl rfl (by decide +kernel) ⟨by decide, by decide⟩) (ct_X0_namesStart l D ad cB) (fun w H hP => va_recv hK.1 hP (rfl : vwCl[0]? = some (RX0, TX0, 1)) (rfl : (cW ad cB w)[2]? = some _))) (rx_any_c (rx_hV_ok S ⟨Nat.zero_le _, Nat.zero_le _⟩ cK_tr hK (cwV 1 S.2.2.2.2 (wsA_V wkX0_44 wiX0_roomPlace weX0_roomPlace winiX0 wX0_roomPlace) rfl rfl rfl (by decide +kernel) ⟨by decide, by decide⟩) (ct_X0_roomPlace l D ad cB) (fun w H hP => va_recv hK.1 hP (rfl : vwCl[0]? = some (RX0, TX0, 1)) (rfl : (cW ad cB w)[2]? = some _))) (rx_any_c (rx_hG_ok (fun w H locs pc ls rest hI hd k => va_get (D := D) (ci := 0) (C := RX0) (T := TX0) (N := 1) S.1 S.2.1 ht inX0 S.2.2.2.1 hK.1 hI.1 2 rfl rfl 0 (by decide) (ht _ wfX0_9) (fun _ h9 => h9) rfl hd k)) (rx_any_c (rx_hV_ok S ⟨Nat.zero_le _, Nat.zero_le _⟩ cK_tr hK (cwV 2 S.2.2.2.2 (wsA_V wkX0_15 wiX1_number weX1_number winiX1 wX1_number) rfl rfl rfl (by decide +kernel) ⟨by decide, by decide⟩) (ct_X1_number l D ad cB) (fun w H hP => va_recv hK.1 hP (rfl : vwCl[1]? = some (RX1, TX1, 2)) (rfl : (cW ad cB w)[1]? = some _))) (rx_any_0))))
set_option maxHeartbeats 4000000 in
set_option maxRecDepth 100000 in
theorem ct_X0_sectionNamePlace (l : Launch) (D : va_G) (ad : Nat → Nat) (cB : ClassId) : ctC l yX0_sectionNamePlace cX0_sectionNamePlace 2 (some .int) rX0_sectionNamePlace D ad cB [.ref (ad 2)] fX0_sectionNamePlace := by
  intro w as g w1 r hf hg
  unfold fX0_sectionNamePlace at hf
  split at hf
  · next x =>
    cases hf
    exact tr_of rx_nc 0 200 0 (by decide) rfl rfl (Nat.le_of_ble_eq_true rfl) pX0_sectionNamePlace_ok (rt_i _) (eo_X0_sectionNamePlace l D ad cB) (fun pc g h => by cases h) (by
      simp only [pX0_sectionNamePlace, eX0_sectionNamePlace, fX0_namesStart, fX0_roomPlace, fX1_number, rx_n, rx_s, rx_to, rx_get, rx_f1, rx_f2, rx_two, rx_ext, rx_any, rx_hV, rx_hS, rx_hG, rx_hP, rx_hAi, rx_hAb, rx_hL, rx_hLi, rx_got, rx_pop, rx_sum, rx_len, rx_c, rx_m1, lv_args, Value.category, rx_cut_n, rx_cut_1, rx_iconst, rx_bipush, rx_sipush, rx_lconst, rx_iload_n, rx_iload, rx_lload_n, rx_lload, rx_aload_n, rx_aload, rx_istore_n, rx_istore, rx_lstore_n, rx_lstore, rx_astore_n, rx_astore, rx_iinc, rx_iadd, rx_isub, rx_imul, rx_iand, rx_ixor, rx_ishr, rx_idiv, rx_irem, rx_ladd, rx_lsub, rx_land, rx_lor, rx_lxor, rx_lmul, rx_ldiv, rx_lrem, rx_lushr, rx_lshl, rx_lshr, rx_lneg, rx_i2l, rx_l2i, rx_i2b, rx_lcmp, rx_dup_i, rx_dup_a, rx_pop_i, rx_pop_a, rx_if_eq, rx_if_ne, rx_if_lt, rx_if_ge, rx_if_gt, rx_if_le, rx_icmp_eq, rx_icmp_ne, rx_icmp_lt, rx_icmp_ge, rx_icmp_gt, rx_icmp_le, rx_goto, rx_tsw, rx_ireturn, rx_lreturn, rx_return_, rx_getfield, rx_putfield, rx_invokevirtual, rx_invokespecial, rx_invokestatic, rx_ldc, rx_ldc2_w, rx_iaload, rx_iastore, rx_baload, rx_bastore, Nat.reduceBEq, Nat.reduceAdd, Nat.reduceSub, Nat.reduceMul, Nat.reduceLeDiff, Nat.reduceEqDiff, Nat.reduceLT, Int.reduceLT, Int.reduceLE, Int.reduceNeg, Int.reduceToNat, Int.reduceAdd, Fin.isValue, Fin.val_zero, Fin.val_one, Fin.reduceFinMk, Fin.val_ofNat, Bool.or_true, Bool.true_or, Bool.or_false, Bool.false_or, Bool.and_true, Bool.true_and, Bool.and_false, Bool.false_and, cond_true, cond_false, ↓reduceIte, eq_self, ne_eq, not_true_eq_false, not_false_eq_true, true_and, and_true, Option.toList_some, Option.toList_none, List.cons_append, List.nil_append, Option.some.injEq, Value.int.injEq, Value.long.injEq, rx_l0, rx_l1, rx_fv0, rx_fv1, rx_fv2, rx_fv3, nI_c1, nI_c2, nI_c4, nI_c8, nI_c9, nI_c24, nI_c64, Nat.le_refl, bI_z, bI_0, bI_1, Classical.not_not, lg_cmp_ge, lg_cmp_le, lg_cmp_gt, lg_cmp_lt, lg_cmp_eq]
      simp only [lN_i, nm_K, nI_add0, gS, sS, nS, lS, yS])
  · cases hf
def pX0_symbolCount : rx_P := [(0, .aload_n 0, 0), (1, .iload_n 1, 0), (2, .invokevirtual 33, 0), (5, .ldc2_w 47, 0), (8, .lcmp, 0), (9, .ifCond .ne 16, 25), (12, .aload_n 0, 0), (13, .iload_n 1, 0), (14, .invokevirtual 49, 0), (17, .ldc2_w 52, 0), (20, .ldiv, 0), (21, .l2i, 0), (22, .goto 4, 26), (25, .iconst 0, 0), (26, .ireturn, 0)]
theorem pX0_symbolCount_ok : ∀ q ∈ pX0_symbolCount, rx_ok cX0_symbolCount q := rx_ok_all (by decide +kernel)
abbrev rX0_symbolCount : Room := { frames := 2, cells := 0, slots := 0, locals := 48 }
noncomputable def fX0_symbolCount : rx_F cS := fun w as => match as with
  | [.int x] => some (True, w, some (.int (yC w.1 x)))
  | _ => none
noncomputable def eX0_symbolCount (ad : Nat → Nat) : rx_E cS := rx_any [rx_hV 33 1 (ad 2) fX0_sectionKind, rx_hL 47 (lN 2), rx_hV 49 1 (ad 2) fX0_roomLength, rx_hL 52 (lN 24)]
set_option maxHeartbeats 4000000 in
set_option maxRecDepth 100000 in
theorem eo_X0_symbolCount (l : Launch) (D : va_G) (ad : Nat → Nat) (cB : ClassId) : ∀ (p : Program) (e : Env) (s : State) (m : MethodId) (args : Array Value) (below : List Frame) (meth : Method) (c : Code) (Qw : State → Prop), CallFix p m c cX0_symbolCount 2 s args (Cond.code yX0_symbolCount cX0_symbolCount 2 (some .int) :: wsA) RX0 → cK D cB s → rx_Eok (fun H locs g => W p l e rX0_symbolCount s m args below meth c H locs 0 0 Qw g) m cX0_symbolCount 2 (tr_I D vwCl (cA ad) s (cW ad cB)) (eX0_symbolCount ad) := by
  intro p e s m args below meth c Qw S hK
  have ht : ∀ w ∈ wsA, w.before args s = true := fun w h => S.2.2.2.2 w (wsA_in h)
  exact rx_any_c (rx_hV_ok S ⟨Nat.zero_le _, Nat.zero_le _⟩ cK_tr hK (cwV 1 S.2.2.2.2 (wsA_V wkX0_33 wiX0_sectionKind weX0_sectionKind winiX0 wX0_sectionKind) rfl rfl rfl (by decide +kernel) ⟨by decide, by decide⟩) (ct_X0_sectionKind l D ad cB) (fun w H hP => va_recv hK.1 hP (rfl : vwCl[0]? = some (RX0, TX0, 1)) (rfl : (cW ad cB w)[2]? = some _))) (rx_any_c (rx_hL_ok S (ht _ wcX0_47)) (rx_any_c (rx_hV_ok S ⟨Nat.zero_le _, Nat.zero_le _⟩ cK_tr hK (cwV 1 S.2.2.2.2 (wsA_V wkX0_49 wiX0_roomLength weX0_roomLength winiX0 wX0_roomLength) rfl rfl rfl (by decide +kernel) ⟨by decide, by decide⟩) (ct_X0_roomLength l D ad cB) (fun w H hP => va_recv hK.1 hP (rfl : vwCl[0]? = some (RX0, TX0, 1)) (rfl : (cW ad cB w)[2]? = some _))) (rx_any_c (rx_hL_ok S (ht _ wcX0_52)) (rx_any_0))))
set_option maxHeartbeats 4000000 in
set_option maxRecDepth 100000 in
theorem ct_X0_symbolCount (l : Launch) (D : va_G) (ad : Nat → Nat) (cB : ClassId) : ctC l yX0_symbolCount cX0_symbolCount 2 (some .int) rX0_symbolCount D ad cB [.ref (ad 2)] fX0_symbolCount := by
  intro w as g w1 r hf hg
  unfold fX0_symbolCount at hf
  split at hf
  · next x =>
    cases hf
    exact tr_of rx_nc 0 200 0 (by decide) rfl rfl (Nat.le_of_ble_eq_true rfl) pX0_symbolCount_ok (rt_i _) (eo_X0_symbolCount l D ad cB) (fun pc g h => by cases h) (by
      simp only [pX0_symbolCount, eX0_symbolCount, fX0_roomLength, fX0_sectionKind, rx_n, rx_s, rx_to, rx_get, rx_f1, rx_f2, rx_two, rx_ext, rx_any, rx_hV, rx_hS, rx_hG, rx_hP, rx_hAi, rx_hAb, rx_hL, rx_hLi, rx_got, rx_pop, rx_sum, rx_len, rx_c, rx_m1, lv_args, Value.category, rx_cut_n, rx_cut_1, rx_iconst, rx_bipush, rx_sipush, rx_lconst, rx_iload_n, rx_iload, rx_lload_n, rx_lload, rx_aload_n, rx_aload, rx_istore_n, rx_istore, rx_lstore_n, rx_lstore, rx_astore_n, rx_astore, rx_iinc, rx_iadd, rx_isub, rx_imul, rx_iand, rx_ixor, rx_ishr, rx_idiv, rx_irem, rx_ladd, rx_lsub, rx_land, rx_lor, rx_lxor, rx_lmul, rx_ldiv, rx_lrem, rx_lushr, rx_lshl, rx_lshr, rx_lneg, rx_i2l, rx_l2i, rx_i2b, rx_lcmp, rx_dup_i, rx_dup_a, rx_pop_i, rx_pop_a, rx_if_eq, rx_if_ne, rx_if_lt, rx_if_ge, rx_if_gt, rx_if_le, rx_icmp_eq, rx_icmp_ne, rx_icmp_lt, rx_icmp_ge, rx_icmp_gt, rx_icmp_le, rx_goto, rx_tsw, rx_ireturn, rx_lreturn, rx_return_, rx_getfield, rx_putfield, rx_invokevirtual, rx_invokespecial, rx_invokestatic, rx_ldc, rx_ldc2_w, rx_iaload, rx_iastore, rx_baload, rx_bastore, Nat.reduceBEq, Nat.reduceAdd, Nat.reduceSub, Nat.reduceMul, Nat.reduceLeDiff, Nat.reduceEqDiff, Nat.reduceLT, Int.reduceLT, Int.reduceLE, Int.reduceNeg, Int.reduceToNat, Int.reduceAdd, Fin.isValue, Fin.val_zero, Fin.val_one, Fin.reduceFinMk, Fin.val_ofNat, Bool.or_true, Bool.true_or, Bool.or_false, Bool.false_or, Bool.and_true, Bool.true_and, Bool.and_false, Bool.false_and, cond_true, cond_false, ↓reduceIte, eq_self, ne_eq, not_true_eq_false, not_false_eq_true, true_and, and_true, Option.toList_some, Option.toList_none, List.cons_append, List.nil_append, Option.some.injEq, Value.int.injEq, Value.long.injEq, rx_l0, rx_l1, rx_fv0, rx_fv1, rx_fv2, rx_fv3, nI_c1, nI_c2, nI_c4, nI_c8, nI_c9, nI_c24, nI_c64, Nat.le_refl, bI_z, bI_0, bI_1, Classical.not_not, lg_cmp_ge, lg_cmp_le, lg_cmp_gt, lg_cmp_lt, lg_cmp_eq]
      have h1 := nm_4 w.1 (x + nI 4)
      rw [pk_lEQ (by omega) (by omega)]
      unfold yC
      exact ⟨fun h => by rw [if_neg h], fun h => ⟨by decide, by rw [if_pos h]⟩⟩)
  · cases hf
def pX0_symbolStart : rx_P := [(0, .aload_n 0, 0), (1, .iload_n 1, 0), (2, .invokevirtual 44, 0), (5, .l2i, 0), (6, .bipush 24, 0), (8, .iload_n 2, 0), (9, .imul, 0), (10, .iadd, 0), (11, .ireturn, 0)]
theorem pX0_symbolStart_ok : ∀ q ∈ pX0_symbolStart, rx_ok cX0_symbolStart q := rx_ok_all (by decide +kernel)
abbrev rX0_symbolStart : Room := { frames := 2, cells := 0, slots := 0, locals := 46 }
noncomputable def fX0_symbolStart : rx_F cS := fun w as => match as with
  | [.int x, .int i] => some (True, w, some (.int (yS w.1 x i)))
  | _ => none
noncomputable def eX0_symbolStart (ad : Nat → Nat) : rx_E cS := rx_any [rx_hV 44 1 (ad 2) fX0_roomPlace]
set_option maxHeartbeats 4000000 in
set_option maxRecDepth 100000 in
theorem eo_X0_symbolStart (l : Launch) (D : va_G) (ad : Nat → Nat) (cB : ClassId) : ∀ (p : Program) (e : Env) (s : State) (m : MethodId) (args : Array Value) (below : List Frame) (meth : Method) (c : Code) (Qw : State → Prop), CallFix p m c cX0_symbolStart 3 s args (Cond.code yX0_symbolStart cX0_symbolStart 3 (some .int) :: wsA) RX0 → cK D cB s → rx_Eok (fun H locs g => W p l e rX0_symbolStart s m args below meth c H locs 0 0 Qw g) m cX0_symbolStart 3 (tr_I D vwCl (cA ad) s (cW ad cB)) (eX0_symbolStart ad) := by
  intro p e s m args below meth c Qw S hK
  have ht : ∀ w ∈ wsA, w.before args s = true := fun w h => S.2.2.2.2 w (wsA_in h)
  exact rx_any_c (rx_hV_ok S ⟨Nat.zero_le _, Nat.zero_le _⟩ cK_tr hK (cwV 1 S.2.2.2.2 (wsA_V wkX0_44 wiX0_roomPlace weX0_roomPlace winiX0 wX0_roomPlace) rfl rfl rfl (by decide +kernel) ⟨by decide, by decide⟩) (ct_X0_roomPlace l D ad cB) (fun w H hP => va_recv hK.1 hP (rfl : vwCl[0]? = some (RX0, TX0, 1)) (rfl : (cW ad cB w)[2]? = some _))) (rx_any_0)
set_option maxHeartbeats 4000000 in
set_option maxRecDepth 100000 in
theorem ct_X0_symbolStart (l : Launch) (D : va_G) (ad : Nat → Nat) (cB : ClassId) : ctC l yX0_symbolStart cX0_symbolStart 3 (some .int) rX0_symbolStart D ad cB [.ref (ad 2)] fX0_symbolStart := by
  intro w as g w1 r hf hg
  unfold fX0_symbolStart at hf
  split at hf
  · next x i =>
    cases hf
    exact tr_of rx_nc 0 200 0 (by decide) rfl rfl (Nat.le_of_ble_eq_true rfl) pX0_symbolStart_ok (rt_i _) (eo_X0_symbolStart l D ad cB) (fun pc g h => by cases h) (by
      simp only [pX0_symbolStart, eX0_symbolStart, fX0_roomPlace, rx_n, rx_s, rx_to, rx_get, rx_f1, rx_f2, rx_two, rx_ext, rx_any, rx_hV, rx_hS, rx_hG, rx_hP, rx_hAi, rx_hAb, rx_hL, rx_hLi, rx_got, rx_pop, rx_sum, rx_len, rx_c, rx_m1, lv_args, Value.category, rx_cut_n, rx_cut_1, rx_iconst, rx_bipush, rx_sipush, rx_lconst, rx_iload_n, rx_iload, rx_lload_n, rx_lload, rx_aload_n, rx_aload, rx_istore_n, rx_istore, rx_lstore_n, rx_lstore, rx_astore_n, rx_astore, rx_iinc, rx_iadd, rx_isub, rx_imul, rx_iand, rx_ixor, rx_ishr, rx_idiv, rx_irem, rx_ladd, rx_lsub, rx_land, rx_lor, rx_lxor, rx_lmul, rx_ldiv, rx_lrem, rx_lushr, rx_lshl, rx_lshr, rx_lneg, rx_i2l, rx_l2i, rx_i2b, rx_lcmp, rx_dup_i, rx_dup_a, rx_pop_i, rx_pop_a, rx_if_eq, rx_if_ne, rx_if_lt, rx_if_ge, rx_if_gt, rx_if_le, rx_icmp_eq, rx_icmp_ne, rx_icmp_lt, rx_icmp_ge, rx_icmp_gt, rx_icmp_le, rx_goto, rx_tsw, rx_ireturn, rx_lreturn, rx_return_, rx_getfield, rx_putfield, rx_invokevirtual, rx_invokespecial, rx_invokestatic, rx_ldc, rx_ldc2_w, rx_iaload, rx_iastore, rx_baload, rx_bastore, Nat.reduceBEq, Nat.reduceAdd, Nat.reduceSub, Nat.reduceMul, Nat.reduceLeDiff, Nat.reduceEqDiff, Nat.reduceLT, Int.reduceLT, Int.reduceLE, Int.reduceNeg, Int.reduceToNat, Int.reduceAdd, Fin.isValue, Fin.val_zero, Fin.val_one, Fin.reduceFinMk, Fin.val_ofNat, Bool.or_true, Bool.true_or, Bool.or_false, Bool.false_or, Bool.and_true, Bool.true_and, Bool.and_false, Bool.false_and, cond_true, cond_false, ↓reduceIte, eq_self, ne_eq, not_true_eq_false, not_false_eq_true, true_and, and_true, Option.toList_some, Option.toList_none, List.cons_append, List.nil_append, Option.some.injEq, Value.int.injEq, Value.long.injEq, rx_l0, rx_l1, rx_fv0, rx_fv1, rx_fv2, rx_fv3, nI_c1, nI_c2, nI_c4, nI_c8, nI_c9, nI_c24, nI_c64, Nat.le_refl, bI_z, bI_0, bI_1, Classical.not_not, lg_cmp_ge, lg_cmp_le, lg_cmp_gt, lg_cmp_lt, lg_cmp_eq]
      simp only [lN_i, nm_K, nI_add0, gS, sS, nS, lS, yS])
  · cases hf
def pX0_symbolNamePlace : rx_P := [(0, .aload_n 0, 0), (1, .aload_n 0, 0), (2, .iload_n 1, 0), (3, .invokevirtual 54, 0), (6, .invokevirtual 44, 0), (9, .l2i, 0), (10, .aload_n 0, 0), (11, .getfield 9, 0), (14, .iload_n 2, 0), (15, .iconst 0, 0), (16, .iadd, 0), (17, .iconst 4, 0), (18, .invokevirtual 15, 0), (21, .l2i, 0), (22, .iadd, 0), (23, .ireturn, 0)]
theorem pX0_symbolNamePlace_ok : ∀ q ∈ pX0_symbolNamePlace, rx_ok cX0_symbolNamePlace q := rx_ok_all (by decide +kernel)
abbrev rX0_symbolNamePlace : Room := { frames := 3, cells := 0, slots := 0, locals := 67 }
noncomputable def fX0_symbolNamePlace : rx_F cS := fun w as => match as with
  | [.int x, .int y] => some (True, w, some (.int (nI (nm w.1 (lS w.1 x + nI 24) 8) + nI (nm w.1 y 4))))
  | _ => none
noncomputable def eX0_symbolNamePlace (ad : Nat → Nat) : rx_E cS := rx_any [rx_hV 54 1 (ad 2) fX0_linkStart, rx_hV 44 1 (ad 2) fX0_roomPlace, rx_hG 9 (ad 2) (fun w => .ref (ad 1)), rx_hV 15 2 (ad 1) fX1_number]
set_option maxHeartbeats 4000000 in
set_option maxRecDepth 100000 in
theorem eo_X0_symbolNamePlace (l : Launch) (D : va_G) (ad : Nat → Nat) (cB : ClassId) : ∀ (p : Program) (e : Env) (s : State) (m : MethodId) (args : Array Value) (below : List Frame) (meth : Method) (c : Code) (Qw : State → Prop), CallFix p m c cX0_symbolNamePlace 3 s args (Cond.code yX0_symbolNamePlace cX0_symbolNamePlace 3 (some .int) :: wsA) RX0 → cK D cB s → rx_Eok (fun H locs g => W p l e rX0_symbolNamePlace s m args below meth c H locs 0 0 Qw g) m cX0_symbolNamePlace 3 (tr_I D vwCl (cA ad) s (cW ad cB)) (eX0_symbolNamePlace ad) := by
  intro p e s m args below meth c Qw S hK
  have ht : ∀ w ∈ wsA, w.before args s = true := fun w h => S.2.2.2.2 w (wsA_in h)
  exact rx_any_c (rx_hV_ok S ⟨Nat.zero_le _, Nat.zero_le _⟩ cK_tr hK (cwV 1 S.2.2.2.2 (wsA_V wkX0_54 wiX0_linkStart weX0_linkStart winiX0 wX0_linkStart) rfl rfl rfl (by decide +kernel) ⟨by decide, by decide⟩) (ct_X0_linkStart l D ad cB) (fun w H hP => va_recv hK.1 hP (rfl : vwCl[0]? = some (RX0, TX0, 1)) (rfl : (cW ad cB w)[2]? = some _))) (rx_any_c (rx_hV_ok S ⟨Nat.zero_le _, Nat.zero_le _⟩ cK_tr hK (cwV 1 S.2.2.2.2 (wsA_V wkX0_44 wiX0_roomPlace weX0_roomPlace winiX0 wX0_roomPlace) rfl rfl rfl (by decide +kernel) ⟨by decide, by decide⟩) (ct_X0_roomPlace l D ad cB) (fun w H hP => va_recv hK.1 hP (rfl : vwCl[0]? = some (RX0, TX0, 1)) (rfl : (cW ad cB w)[2]? = some _))) (rx_any_c (rx_hG_ok (fun w H locs pc ls rest hI hd k => va_get (D := D) (ci := 0) (C := RX0) (T := TX0) (N := 1) S.1 S.2.1 ht inX0 S.2.2.2.1 hK.1 hI.1 2 rfl rfl 0 (by decide) (ht _ wfX0_9) (fun _ h9 => h9) rfl hd k)) (rx_any_c (rx_hV_ok S ⟨Nat.zero_le _, Nat.zero_le _⟩ cK_tr hK (cwV 2 S.2.2.2.2 (wsA_V wkX0_15 wiX1_number weX1_number winiX1 wX1_number) rfl rfl rfl (by decide +kernel) ⟨by decide, by decide⟩) (ct_X1_number l D ad cB) (fun w H hP => va_recv hK.1 hP (rfl : vwCl[1]? = some (RX1, TX1, 2)) (rfl : (cW ad cB w)[1]? = some _))) (rx_any_0))))
set_option maxHeartbeats 4000000 in
set_option maxRecDepth 100000 in
theorem ct_X0_symbolNamePlace (l : Launch) (D : va_G) (ad : Nat → Nat) (cB : ClassId) : ctC l yX0_symbolNamePlace cX0_symbolNamePlace 3 (some .int) rX0_symbolNamePlace D ad cB [.ref (ad 2)] fX0_symbolNamePlace := by
  intro w as g w1 r hf hg
  unfold fX0_symbolNamePlace at hf
  split at hf
  · next x y =>
    cases hf
    exact tr_of rx_nc 0 200 0 (by decide) rfl rfl (Nat.le_of_ble_eq_true rfl) pX0_symbolNamePlace_ok (rt_i _) (eo_X0_symbolNamePlace l D ad cB) (fun pc g h => by cases h) (by
      simp only [pX0_symbolNamePlace, eX0_symbolNamePlace, fX0_linkStart, fX0_roomPlace, fX1_number, rx_n, rx_s, rx_to, rx_get, rx_f1, rx_f2, rx_two, rx_ext, rx_any, rx_hV, rx_hS, rx_hG, rx_hP, rx_hAi, rx_hAb, rx_hL, rx_hLi, rx_got, rx_pop, rx_sum, rx_len, rx_c, rx_m1, lv_args, Value.category, rx_cut_n, rx_cut_1, rx_iconst, rx_bipush, rx_sipush, rx_lconst, rx_iload_n, rx_iload, rx_lload_n, rx_lload, rx_aload_n, rx_aload, rx_istore_n, rx_istore, rx_lstore_n, rx_lstore, rx_astore_n, rx_astore, rx_iinc, rx_iadd, rx_isub, rx_imul, rx_iand, rx_ixor, rx_ishr, rx_idiv, rx_irem, rx_ladd, rx_lsub, rx_land, rx_lor, rx_lxor, rx_lmul, rx_ldiv, rx_lrem, rx_lushr, rx_lshl, rx_lshr, rx_lneg, rx_i2l, rx_l2i, rx_i2b, rx_lcmp, rx_dup_i, rx_dup_a, rx_pop_i, rx_pop_a, rx_if_eq, rx_if_ne, rx_if_lt, rx_if_ge, rx_if_gt, rx_if_le, rx_icmp_eq, rx_icmp_ne, rx_icmp_lt, rx_icmp_ge, rx_icmp_gt, rx_icmp_le, rx_goto, rx_tsw, rx_ireturn, rx_lreturn, rx_return_, rx_getfield, rx_putfield, rx_invokevirtual, rx_invokespecial, rx_invokestatic, rx_ldc, rx_ldc2_w, rx_iaload, rx_iastore, rx_baload, rx_bastore, Nat.reduceBEq, Nat.reduceAdd, Nat.reduceSub, Nat.reduceMul, Nat.reduceLeDiff, Nat.reduceEqDiff, Nat.reduceLT, Int.reduceLT, Int.reduceLE, Int.reduceNeg, Int.reduceToNat, Int.reduceAdd, Fin.isValue, Fin.val_zero, Fin.val_one, Fin.reduceFinMk, Fin.val_ofNat, Bool.or_true, Bool.true_or, Bool.or_false, Bool.false_or, Bool.and_true, Bool.true_and, Bool.and_false, Bool.false_and, cond_true, cond_false, ↓reduceIte, eq_self, ne_eq, not_true_eq_false, not_false_eq_true, true_and, and_true, Option.toList_some, Option.toList_none, List.cons_append, List.nil_append, Option.some.injEq, Value.int.injEq, Value.long.injEq, rx_l0, rx_l1, rx_fv0, rx_fv1, rx_fv2, rx_fv3, nI_c1, nI_c2, nI_c4, nI_c8, nI_c9, nI_c24, nI_c64, Nat.le_refl, bI_z, bI_0, bI_1, Classical.not_not, lg_cmp_ge, lg_cmp_le, lg_cmp_gt, lg_cmp_lt, lg_cmp_eq]
      simp only [lN_i, nm_K, nI_add0, gS, sS, nS, lS, yS])
  · cases hf
def pX0_binding : rx_P := [(0, .aload_n 0, 0), (1, .getfield 9, 0), (4, .iload_n 1, 0), (5, .iconst 4, 0), (6, .iadd, 0), (7, .iconst 1, 0), (8, .invokevirtual 15, 0), (11, .ldc2_w 57, 0), (14, .ldiv, 0), (15, .lreturn, 0)]
theorem pX0_binding_ok : ∀ q ∈ pX0_binding, rx_ok cX0_binding q := rx_ok_all (by decide +kernel)
abbrev rX0_binding : Room := { frames := 1, cells := 0, slots := 0, locals := 25 }
noncomputable def fX0_binding : rx_F cS := fun w as => match as with
  | [.int x] => some (True, w, some (.long (lN (nm w.1 (x + nI 4) 1 / 16))))
  | _ => none
noncomputable def eX0_binding (ad : Nat → Nat) : rx_E cS := rx_any [rx_hG 9 (ad 2) (fun w => .ref (ad 1)), rx_hV 15 2 (ad 1) fX1_number, rx_hL 57 (lN 16)]
set_option maxHeartbeats 4000000 in
set_option maxRecDepth 100000 in
theorem eo_X0_binding (l : Launch) (D : va_G) (ad : Nat → Nat) (cB : ClassId) : ∀ (p : Program) (e : Env) (s : State) (m : MethodId) (args : Array Value) (below : List Frame) (meth : Method) (c : Code) (Qw : State → Prop), CallFix p m c cX0_binding 2 s args (Cond.code yX0_binding cX0_binding 2 (some .long) :: wsA) RX0 → cK D cB s → rx_Eok (fun H locs g => W p l e rX0_binding s m args below meth c H locs 0 0 Qw g) m cX0_binding 2 (tr_I D vwCl (cA ad) s (cW ad cB)) (eX0_binding ad) := by
  intro p e s m args below meth c Qw S hK
  have ht : ∀ w ∈ wsA, w.before args s = true := fun w h => S.2.2.2.2 w (wsA_in h)
  exact rx_any_c (rx_hG_ok (fun w H locs pc ls rest hI hd k => va_get (D := D) (ci := 0) (C := RX0) (T := TX0) (N := 1) S.1 S.2.1 ht inX0 S.2.2.2.1 hK.1 hI.1 2 rfl rfl 0 (by decide) (ht _ wfX0_9) (fun _ h9 => h9) rfl hd k)) (rx_any_c (rx_hV_ok S ⟨Nat.zero_le _, Nat.zero_le _⟩ cK_tr hK (cwV 2 S.2.2.2.2 (wsA_V wkX0_15 wiX1_number weX1_number winiX1 wX1_number) rfl rfl rfl (by decide +kernel) ⟨by decide, by decide⟩) (ct_X1_number l D ad cB) (fun w H hP => va_recv hK.1 hP (rfl : vwCl[1]? = some (RX1, TX1, 2)) (rfl : (cW ad cB w)[1]? = some _))) (rx_any_c (rx_hL_ok S (ht _ wcX0_57)) (rx_any_0)))
set_option maxHeartbeats 4000000 in
set_option maxRecDepth 100000 in
theorem ct_X0_binding (l : Launch) (D : va_G) (ad : Nat → Nat) (cB : ClassId) : ctC l yX0_binding cX0_binding 2 (some .long) rX0_binding D ad cB [.ref (ad 2)] fX0_binding := by
  intro w as g w1 r hf hg
  unfold fX0_binding at hf
  split at hf
  · next x =>
    cases hf
    exact tr_of rx_nc 0 200 0 (by decide) rfl rfl (Nat.le_of_ble_eq_true rfl) pX0_binding_ok (rt_l _) (eo_X0_binding l D ad cB) (fun pc g h => by cases h) (by
      simp only [pX0_binding, eX0_binding, fX1_number, rx_n, rx_s, rx_to, rx_get, rx_f1, rx_f2, rx_two, rx_ext, rx_any, rx_hV, rx_hS, rx_hG, rx_hP, rx_hAi, rx_hAb, rx_hL, rx_hLi, rx_got, rx_pop, rx_sum, rx_len, rx_c, rx_m1, lv_args, Value.category, rx_cut_n, rx_cut_1, rx_iconst, rx_bipush, rx_sipush, rx_lconst, rx_iload_n, rx_iload, rx_lload_n, rx_lload, rx_aload_n, rx_aload, rx_istore_n, rx_istore, rx_lstore_n, rx_lstore, rx_astore_n, rx_astore, rx_iinc, rx_iadd, rx_isub, rx_imul, rx_iand, rx_ixor, rx_ishr, rx_idiv, rx_irem, rx_ladd, rx_lsub, rx_land, rx_lor, rx_lxor, rx_lmul, rx_ldiv, rx_lrem, rx_lushr, rx_lshl, rx_lshr, rx_lneg, rx_i2l, rx_l2i, rx_i2b, rx_lcmp, rx_dup_i, rx_dup_a, rx_pop_i, rx_pop_a, rx_if_eq, rx_if_ne, rx_if_lt, rx_if_ge, rx_if_gt, rx_if_le, rx_icmp_eq, rx_icmp_ne, rx_icmp_lt, rx_icmp_ge, rx_icmp_gt, rx_icmp_le, rx_goto, rx_tsw, rx_ireturn, rx_lreturn, rx_return_, rx_getfield, rx_putfield, rx_invokevirtual, rx_invokespecial, rx_invokestatic, rx_ldc, rx_ldc2_w, rx_iaload, rx_iastore, rx_baload, rx_bastore, Nat.reduceBEq, Nat.reduceAdd, Nat.reduceSub, Nat.reduceMul, Nat.reduceLeDiff, Nat.reduceEqDiff, Nat.reduceLT, Int.reduceLT, Int.reduceLE, Int.reduceNeg, Int.reduceToNat, Int.reduceAdd, Fin.isValue, Fin.val_zero, Fin.val_one, Fin.reduceFinMk, Fin.val_ofNat, Bool.or_true, Bool.true_or, Bool.or_false, Bool.false_or, Bool.and_true, Bool.true_and, Bool.and_false, Bool.false_and, cond_true, cond_false, ↓reduceIte, eq_self, ne_eq, not_true_eq_false, not_false_eq_true, true_and, and_true, Option.toList_some, Option.toList_none, List.cons_append, List.nil_append, Option.some.injEq, Value.int.injEq, Value.long.injEq, rx_l0, rx_l1, rx_fv0, rx_fv1, rx_fv2, rx_fv3, nI_c1, nI_c2, nI_c4, nI_c8, nI_c9, nI_c24, nI_c64, Nat.le_refl, bI_z, bI_0, bI_1, Classical.not_not, lg_cmp_ge, lg_cmp_le, lg_cmp_gt, lg_cmp_lt, lg_cmp_eq]
      have h1 := nm_1 w.1 (x + nI 4)
      exact ⟨by decide, pk_lDiv (by omega) (by decide) (by decide)⟩)
  · cases hf
