def pX4_segment : rx_P := [(0, .aload_n 0, 0), (1, .iload_n 2, 0), (2, .ldc2_w 175, 0), (5, .invokestatic 169, 0), (8, .ifCond .eq 7, 15), (11, .iconst 1, 0), (12, .goto 31, 43), (15, .aload_n 0, 0), (16, .invokevirtual 172, 0), (19, .ifCond .ne 7, 26), (22, .iconst 2, 0), (23, .goto 20, 43), (26, .iload_n 1, 0), (27, .aload_n 0, 0), (28, .invokevirtual 83, 0), (31, .i2l, 0), (32, .invokestatic 169, 0), (35, .ifCond .eq 7, 42), (38, .iconst 3, 0), (39, .goto 4, 43), (42, .iconst 0, 0), (43, .putfield 21, 0), (46, .aload_n 0, 0), (47, .getfield 21, 0), (50, .ifCond .le 5, 55), (53, .lconst 0, 0), (54, .lreturn, 0), (55, .aload_n 0, 0), (56, .iload_n 1, 0), (57, .invokevirtual 103, 0), (60, .istore_n 3, 0), (61, .iload_n 2, 0), (62, .iconst 2, 0), (63, .if_icmp .ge 13, 76), (66, .aload_n 0, 0), (67, .iload_n 3, 0), (68, .iconst 4, 0), (69, .iload_n 2, 0), (70, .imul, 0), (71, .iadd, 0), (72, .invokevirtual 30, 0), (75, .lreturn, 0), (76, .aload_n 0, 0), (77, .iload_n 3, 0), (78, .iload_n 2, 0), (79, .iconst 2, 0), (80, .if_icmp .ne 8, 88), (83, .bipush 8, 0), (85, .goto 17, 102), (88, .iload_n 2, 0), (89, .iconst 3, 0), (90, .if_icmp .ne 8, 98), (93, .bipush 16, 0), (95, .goto 7, 102), (98, .bipush 8, 0), (100, .iload_n 2, 0), (101, .imul, 0), (102, .iadd, 0), (103, .invokevirtual 177, 0), (106, .lreturn, 0)]
theorem pX4_segment_ok : ∀ q ∈ pX4_segment, rx_ok cX4_segment q := rx_ok_all (by decide +kernel)
abbrev rX4_segment : Room := { frames := 3, cells := 0, slots := 0, locals := 63 }
noncomputable def fX4_segment : rx_F mS := fun w as => match as with
  | [.int k, .int x] => some (mG w → gd w.1, (w.1, nI (cRow (mG w) (gC w.1) k x), w.2.2), some (.long (cif (cRow (mG w) (gC w.1) k x = 0) (lN (vSeg w.1 k.toNatClampNeg x.toNatClampNeg)) (lN 0))))
  | _ => none
noncomputable def eX4_segment (am : Nat → Nat) : rx_E mS := rx_any [rx_hL 175 (lN 7), rx_hS 169 2 fX4_out, rx_hV 172 0 (am 0) fX4_good, rx_hV 83 0 (am 0) fX4_segmentCount, rx_hP 21 (am 0) (fun w v => match v with | .int z => some (True, (w.1, z, w.2.2)) | _ => none), rx_hG 21 (am 0) (fun w => .int w.2.1), rx_hV 103 1 (am 0) fX4_segmentAt, rx_hV 30 1 (am 0) fX4_four, rx_hV 177 1 (am 0) fX4_eight]
set_option maxHeartbeats 4000000 in
set_option maxRecDepth 100000 in
theorem eo_X4_segment (l : Launch) (D : va_G) (am : Nat → Nat) (cI cZ : ClassId) (hj : mJ am) : ∀ (p : Program) (e : Env) (s : State) (m : MethodId) (args : Array Value) (below : List Frame) (meth : Method) (c : Code) (Qw : State → Prop), CallFix p m c cX4_segment 4 s args (Cond.code yX4_segment cX4_segment 4 (some .long) :: wsA) RX4 → mK D cI cZ s → rx_Eok (fun H locs g => W p l e rX4_segment s m args below meth c H locs 0 0 Qw g) m cX4_segment 4 (tr_I D vwCl (mA am) s (mW am cI cZ)) (eX4_segment am) := by
  intro p e s m args below meth c Qw S hK
  have ht : ∀ w ∈ wsA, w.before args s = true := fun w h => S.2.2.2.2 w (wsA_in h)
  exact rx_any_c (rx_hL_ok S (ht _ wcX4_175)) (rx_any_c (rx_hS_ok S ⟨Nat.zero_le _, Nat.zero_le _⟩ mK_tr hK (va_cwS 2 S.2.2.2.2 (wsA_S wkX4_169 wsX4_out winiX4 wX4_out) rfl rfl rfl (by decide +kernel) ⟨by decide, by decide⟩) (ct_X4_out l D am cI cZ)) (rx_any_c (rx_hV_ok S ⟨Nat.zero_le _, Nat.zero_le _⟩ mK_tr hK (cwV 0 S.2.2.2.2 (wsA_V wkX4_172 wiX4_good weX4_good winiX4 wX4_good) rfl rfl rfl (by decide +kernel) ⟨by decide, by decide⟩) (ct_X4_good l D am cI cZ) (fun w H hP => va_recv hK.1 hP (rfl : vwCl[4]? = some (RX4, TX4, 7)) (rfl : (mW am cI cZ w)[0]? = some _))) (rx_any_c (rx_hV_ok S ⟨Nat.zero_le _, Nat.zero_le _⟩ mK_tr hK (cwV 0 S.2.2.2.2 (wsA_V wkX4_83 wiX4_segmentCount weX4_segmentCount winiX4 wX4_segmentCount) rfl rfl rfl (by decide +kernel) ⟨by decide, by decide⟩) (ct_X4_segmentCount l D am cI cZ) (fun w H hP => va_recv hK.1 hP (rfl : vwCl[4]? = some (RX4, TX4, 7)) (rfl : (mW am cI cZ w)[0]? = some _))) (rx_any_c (rx_hP_ok (fun w v g w1 H locs pc ls rest hfv hg hI hd kk => by
    cases v with
    | int z =>
      cases hfv
      exact va_put (D := D) (ci := 4) (ty := .int) (C := RX4) (T := TX4) (N := 7) S.1 S.2.1 ht inX4 tyX4 tyX4_ok nmX4 S.2.2.2.1 hK.1 hI.1 (mD hj cI cZ w) hI.2 0 rfl rfl 0 (by decide) (ht _ wfX4_21) (fun _ h9 => h9) rfl (by decide +kernel) rfl rfl (Nat.le_of_ble_eq_true rfl) hd (fun H1 locs1 hP _ hS => kk H1 locs1 ⟨hP, hS⟩)
    | _ => cases hfv)) (rx_any_c (rx_hG_ok (fun w H locs pc ls rest hI hd k => va_get (D := D) (ci := 4) (C := RX4) (T := TX4) (N := 7) S.1 S.2.1 ht inX4 S.2.2.2.1 hK.1 hI.1 0 rfl rfl 0 (by decide) (ht _ wfX4_21) (fun _ h9 => h9) rfl hd k)) (rx_any_c (rx_hV_ok S ⟨Nat.zero_le _, Nat.zero_le _⟩ mK_tr hK (cwV 1 S.2.2.2.2 (wsA_V wkX4_103 wiX4_segmentAt weX4_segmentAt winiX4 wX4_segmentAt) rfl rfl rfl (by decide +kernel) ⟨by decide, by decide⟩) (ct_X4_segmentAt l D am cI cZ) (fun w H hP => va_recv hK.1 hP (rfl : vwCl[4]? = some (RX4, TX4, 7)) (rfl : (mW am cI cZ w)[0]? = some _))) (rx_any_c (rx_hV_ok S ⟨Nat.zero_le _, Nat.zero_le _⟩ mK_tr hK (cwV 1 S.2.2.2.2 (wsA_V wkX4_30 wiX4_four weX4_four winiX4 wX4_four) rfl rfl rfl (by decide +kernel) ⟨by decide, by decide⟩) (ct_X4_four l D am cI cZ) (fun w H hP => va_recv hK.1 hP (rfl : vwCl[4]? = some (RX4, TX4, 7)) (rfl : (mW am cI cZ w)[0]? = some _))) (rx_any_c (rx_hV_ok S ⟨Nat.zero_le _, Nat.zero_le _⟩ mK_tr hK (cwV 1 S.2.2.2.2 (wsA_V wkX4_177 wiX4_eight weX4_eight winiX4 wX4_eight) rfl rfl rfl (by decide +kernel) ⟨by decide, by decide⟩) (ct_X4_eight l D am cI cZ) (fun w H hP => va_recv hK.1 hP (rfl : vwCl[4]? = some (RX4, TX4, 7)) (rfl : (mW am cI cZ w)[0]? = some _))) (rx_any_0)))))))))
set_option maxHeartbeats 4000000 in
set_option maxRecDepth 100000 in
theorem ct_X4_segment (l : Launch) (D : va_G) (am : Nat → Nat) (cI cZ : ClassId) (hj : mJ am) : ctM l yX4_segment cX4_segment 4 (some .long) rX4_segment D am cI cZ [.ref (am 0)] fX4_segment := by
  intro w as g w1 r hf hg
  unfold fX4_segment at hf
  split at hf
  · next k x =>
    cases hf
    refine tr_of (rx_mc [(46, fun u w0 lv => u = 1 ∧ w0 = (w.1, nI (cRow (mG w) (gC w.1) k x), w.2.2) ∧ lv = [(0, .ref (am 0)), (1, .int k), (2, .int x)])]) 400 400 100000 (by decide) rfl rfl (Nat.le_of_ble_eq_true rfl) pX4_segment_ok (rt_l _) (eo_X4_segment l D am cI cZ hj) ?_ ?_
    · intro pc g0 hpc u w0 lv hinv
      have hh := rx_mc_of _ hpc
      clear hpc
      simp only [List.mem_cons, List.not_mem_nil, or_false, Prod.mk.injEq] at hh
      rcases hh with ⟨rfl, rfl⟩
      · obtain ⟨rfl, rfl, rfl⟩ := hinv
        simp only [pX4_segment, eX4_segment, fX4_eight, fX4_four, fX4_good, fX4_out, fX4_segmentAt, fX4_segmentCount, rx_n, rx_s, rx_to, rx_get, rx_f1, rx_f2, rx_two, rx_ext, rx_any, rx_hV, rx_hS, rx_hG, rx_hP, rx_hAi, rx_hAb, rx_hBb, rx_hBi, rx_hBp, rx_hL, rx_hLi, rx_got, rx_pop, rx_sum, rx_len, rx_c, rx_m1, lv_args, Value.category, rx_cut_n, rx_cut_m0, rx_cut_m1, rx_iconst, rx_bipush, rx_sipush, rx_lconst, rx_iload_n, rx_iload, rx_lload_n, rx_lload, rx_aload_n, rx_aload, rx_istore_n, rx_istore, rx_lstore_n, rx_lstore, rx_astore_n, rx_astore, rx_iinc, rx_iadd, rx_isub, rx_imul, rx_iand, rx_ixor, rx_ishr, rx_idiv, rx_irem, rx_ladd, rx_lsub, rx_land, rx_lor, rx_lxor, rx_lmul, rx_ldiv, rx_lrem, rx_lushr, rx_lshl, rx_lshr, rx_lneg, rx_i2l, rx_l2i, rx_i2b, rx_lcmp, rx_dup_i, rx_dup_a, rx_pop_i, rx_pop_a, rx_if_eq, rx_if_ne, rx_if_lt, rx_if_ge, rx_if_gt, rx_if_le, rx_icmp_eq, rx_icmp_ne, rx_icmp_lt, rx_icmp_ge, rx_icmp_gt, rx_icmp_le, rx_goto, rx_tsw, rx_ireturn, rx_lreturn, rx_return_, rx_getfield, rx_putfield, rx_invokevirtual, rx_invokespecial, rx_invokestatic, rx_ldc, rx_ldc2_w, rx_iaload, rx_iastore, rx_baload, rx_bastore, Nat.reduceBEq, Nat.reduceAdd, Nat.reduceSub, Nat.reduceMul, Nat.reduceLeDiff, Nat.reduceEqDiff, Nat.reduceLT, Int.reduceLT, Int.reduceLE, Int.reduceNeg, Int.reduceToNat, Int.reduceAdd, Fin.isValue, Fin.val_zero, Fin.val_one, Fin.reduceFinMk, Fin.val_ofNat, Bool.or_true, Bool.true_or, Bool.or_false, Bool.false_or, Bool.and_true, Bool.true_and, Bool.and_false, Bool.false_and, cond_true, cond_false, ↓reduceIte, eq_self, ne_eq, not_true_eq_false, not_false_eq_true, true_and, and_true, Option.toList_some, Option.toList_none, List.cons_append, List.nil_append, Option.some.injEq, Value.int.injEq, Value.long.injEq, rx_l0, rx_l1, rx_fv0, rx_fv1, rx_fv2, rx_fv3, nI_c1, nI_c2, nI_c4, nI_c8, nI_c9, nI_c24, nI_c64, Nat.le_refl, bI_z, bI_0, bI_1, Classical.not_not, lg_cmp_ge, lg_cmp_le, lg_cmp_gt, lg_cmp_lt, lg_cmp_eq]
        have hl := cRow_lt (G := mG w) (c := gC w.1) (k := k) (x := x)
        rw [nI_le0 (by omega)]
        refine ⟨fun a => ?_, fun a => by rw [cif_f a]⟩
        rw [cif_t a]
        obtain ⟨hx, hG, hk⟩ := cRow_0 a
        have hc := gC_lt w.1
        have hB := bn_le w.1
        obtain ⟨X, hX, rfl, ex⟩ := vp_ex hx (by decide)
        obtain ⟨K, hK, rfl, ek⟩ := vp_ex hk (by omega)
        have hA := t6_gA (gd_t12 (hg hG)).1.1 hK
        have e0 : nI (bl w.1 32 8) + nI 56 * nI K = nI (gA w.1 K) := by unfold gA; rw [pk_mul, nI_add]
        rw [ex, ek, e0]
        simp (disch := omega) only [pk_mul, nI_add, nI_clamp, nI_leI, nI_eq]
        refine ⟨fun b => ⟨fun c => ⟨fun d => ⟨vp_in_nI (by omega) (by decide), ?_⟩, fun d => ⟨vp_in_nI (by omega) (by decide), ?_⟩⟩, fun c => ⟨vp_in_nI (by omega) (by decide), ?_⟩⟩, fun b => ⟨vp_in_nI (by omega) (by decide), ?_⟩⟩
        · have : X = 4 ∨ X = 5 ∨ X = 6 := by omega
          rcases this with rfl | rfl | rfl <;> rfl
        · subst d; rfl
        · subst c; rfl
        · have : X = 0 ∨ X = 1 := by omega
          rcases this with rfl | rfl <;> rfl
    · simp only [pX4_segment, eX4_segment, fX4_eight, fX4_four, fX4_good, fX4_out, fX4_segmentAt, fX4_segmentCount, rx_n, rx_s, rx_to, rx_get, rx_f1, rx_f2, rx_two, rx_ext, rx_any, rx_hV, rx_hS, rx_hG, rx_hP, rx_hAi, rx_hAb, rx_hBb, rx_hBi, rx_hBp, rx_hL, rx_hLi, rx_got, rx_pop, rx_sum, rx_len, rx_c, rx_m1, lv_args, Value.category, rx_cut_n, rx_cut_m0, rx_cut_m1, rx_iconst, rx_bipush, rx_sipush, rx_lconst, rx_iload_n, rx_iload, rx_lload_n, rx_lload, rx_aload_n, rx_aload, rx_istore_n, rx_istore, rx_lstore_n, rx_lstore, rx_astore_n, rx_astore, rx_iinc, rx_iadd, rx_isub, rx_imul, rx_iand, rx_ixor, rx_ishr, rx_idiv, rx_irem, rx_ladd, rx_lsub, rx_land, rx_lor, rx_lxor, rx_lmul, rx_ldiv, rx_lrem, rx_lushr, rx_lshl, rx_lshr, rx_lneg, rx_i2l, rx_l2i, rx_i2b, rx_lcmp, rx_dup_i, rx_dup_a, rx_pop_i, rx_pop_a, rx_if_eq, rx_if_ne, rx_if_lt, rx_if_ge, rx_if_gt, rx_if_le, rx_icmp_eq, rx_icmp_ne, rx_icmp_lt, rx_icmp_ge, rx_icmp_gt, rx_icmp_le, rx_goto, rx_tsw, rx_ireturn, rx_lreturn, rx_return_, rx_getfield, rx_putfield, rx_invokevirtual, rx_invokespecial, rx_invokestatic, rx_ldc, rx_ldc2_w, rx_iaload, rx_iastore, rx_baload, rx_bastore, Nat.reduceBEq, Nat.reduceAdd, Nat.reduceSub, Nat.reduceMul, Nat.reduceLeDiff, Nat.reduceEqDiff, Nat.reduceLT, Int.reduceLT, Int.reduceLE, Int.reduceNeg, Int.reduceToNat, Int.reduceAdd, Fin.isValue, Fin.val_zero, Fin.val_one, Fin.reduceFinMk, Fin.val_ofNat, Bool.or_true, Bool.true_or, Bool.or_false, Bool.false_or, Bool.and_true, Bool.true_and, Bool.and_false, Bool.false_and, cond_true, cond_false, ↓reduceIte, eq_self, ne_eq, not_true_eq_false, not_false_eq_true, true_and, and_true, Option.toList_some, Option.toList_none, List.cons_append, List.nil_append, Option.some.injEq, Value.int.injEq, Value.long.injEq, rx_l0, rx_l1, rx_fv0, rx_fv1, rx_fv2, rx_fv3, nI_c1, nI_c2, nI_c4, nI_c8, nI_c9, nI_c24, nI_c64, Nat.le_refl, bI_z, bI_0, bI_1, Classical.not_not, lg_cmp_ge, lg_cmp_le, lg_cmp_gt, lg_cmp_lt, lg_cmp_eq]
      have hc := gC_lt w.1
      simp (disch := omega) only [nI_l, out_iff]
      simp only [le10, le20, le30, le00, mG_eq, false_implies, true_implies, not_false_eq_true, not_true_eq_false, true_and, and_true, Classical.not_not]
      refine ⟨fun a => ⟨fun b => ⟨fun c => ?_, fun c => ?_⟩, fun b => ?_⟩, fun a => ?_⟩
      · refine ⟨1, _, by omega, ⟨rfl, by unfold cRow; rw [cif_t a, cif_t b, cif_t c], rfl⟩, ?_⟩
        simp only [List.mem_cons, List.not_mem_nil, or_false, forall_eq_or_imp, forall_eq, Nat.reduceBEq, cond_true, cond_false, Option.some.injEq, Value.int.injEq, Value.long.injEq, Value.ref.injEq, true_and, and_true]
      · refine ⟨1, _, by omega, ⟨rfl, by unfold cRow; rw [cif_t a, cif_t b, cif_f c], rfl⟩, ?_⟩
        simp only [List.mem_cons, List.not_mem_nil, or_false, forall_eq_or_imp, forall_eq, Nat.reduceBEq, cond_true, cond_false, Option.some.injEq, Value.int.injEq, Value.long.injEq, Value.ref.injEq, true_and, and_true]
      · refine ⟨1, _, by omega, ⟨rfl, by unfold cRow; rw [cif_t a, cif_f b], rfl⟩, ?_⟩
        simp only [List.mem_cons, List.not_mem_nil, or_false, forall_eq_or_imp, forall_eq, Nat.reduceBEq, cond_true, cond_false, Option.some.injEq, Value.int.injEq, Value.long.injEq, Value.ref.injEq, true_and, and_true]
      · refine ⟨1, _, by omega, ⟨rfl, by unfold cRow; rw [cif_f a], rfl⟩, ?_⟩
        simp only [List.mem_cons, List.not_mem_nil, or_false, forall_eq_or_imp, forall_eq, Nat.reduceBEq, cond_true, cond_false, Option.some.injEq, Value.int.injEq, Value.long.injEq, Value.ref.injEq, true_and, and_true]
  · cases hf
def pX4_letter : rx_P := [(0, .aload_n 0, 0), (1, .aload_n 0, 0), (2, .invokevirtual 172, 0), (5, .ifCond .ne 7, 12), (8, .iconst 1, 0), (9, .goto 41, 50), (12, .iload_n 1, 0), (13, .aload_n 0, 0), (14, .invokevirtual 59, 0), (17, .i2l, 0), (18, .invokestatic 169, 0), (21, .ifCond .eq 7, 28), (24, .iconst 2, 0), (25, .goto 25, 50), (28, .iload_n 2, 0), (29, .aload_n 0, 0), (30, .aload_n 0, 0), (31, .iload_n 1, 0), (32, .invokevirtual 180, 0), (35, .invokevirtual 183, 0), (38, .i2l, 0), (39, .invokestatic 169, 0), (42, .ifCond .eq 7, 49), (45, .iconst 2, 0), (46, .goto 4, 50), (49, .iconst 0, 0), (50, .putfield 21, 0), (53, .aload_n 0, 0), (54, .getfield 21, 0), (57, .ifCond .le 7, 64), (60, .iconst 0, 0), (61, .goto 15, 76), (64, .aload_n 0, 0), (65, .getfield 7, 0), (68, .aload_n 0, 0), (69, .iload_n 1, 0), (70, .invokevirtual 180, 0), (73, .iload_n 2, 0), (74, .iadd, 0), (75, .iaload, 0), (76, .ireturn, 0)]
theorem pX4_letter_ok : ∀ q ∈ pX4_letter, rx_ok cX4_letter q := rx_ok_all (by decide +kernel)
abbrev rX4_letter : Room := { frames := 5, cells := 0, slots := 0, locals := 105 }
noncomputable def fX4_letter : rx_F mS := fun w as => match as with
  | [.int k, .int i] => some (mG w → gd w.1, (w.1, nI (cLet (mG w) w.1 k i), w.2.2), some (.int (cif (cLet (mG w) w.1 k i = 0) (nI (bg w.1 (nmA w.1 k.toNatClampNeg + i.toNatClampNeg))) (nI 0))))
  | _ => none
noncomputable def eX4_letter (am : Nat → Nat) : rx_E mS := rx_any [rx_hV 172 0 (am 0) fX4_good, rx_hV 59 0 (am 0) fX4_sectionCount, rx_hS 169 2 fX4_out, rx_hV 180 1 (am 0) fX4_nameAt, rx_hV 183 1 (am 0) fX4_nameLength, rx_hP 21 (am 0) (fun w v => match v with | .int z => some (True, (w.1, z, w.2.2)) | _ => none), rx_hG 21 (am 0) (fun w => .int w.2.1), rx_hG 7 (am 0) (fun w => .ref (am 1)), rx_hAi (am 1) 640 (fun w k => nI (bg w.1 k))]
set_option maxHeartbeats 4000000 in
set_option maxRecDepth 100000 in
theorem eo_X4_letter (l : Launch) (D : va_G) (am : Nat → Nat) (cI cZ : ClassId) (hj : mJ am) : ∀ (p : Program) (e : Env) (s : State) (m : MethodId) (args : Array Value) (below : List Frame) (meth : Method) (c : Code) (Qw : State → Prop), CallFix p m c cX4_letter 3 s args (Cond.code yX4_letter cX4_letter 3 (some .int) :: wsA) RX4 → mK D cI cZ s → rx_Eok (fun H locs g => W p l e rX4_letter s m args below meth c H locs 0 0 Qw g) m cX4_letter 3 (tr_I D vwCl (mA am) s (mW am cI cZ)) (eX4_letter am) := by
  intro p e s m args below meth c Qw S hK
  have ht : ∀ w ∈ wsA, w.before args s = true := fun w h => S.2.2.2.2 w (wsA_in h)
  exact rx_any_c (rx_hV_ok S ⟨Nat.zero_le _, Nat.zero_le _⟩ mK_tr hK (cwV 0 S.2.2.2.2 (wsA_V wkX4_172 wiX4_good weX4_good winiX4 wX4_good) rfl rfl rfl (by decide +kernel) ⟨by decide, by decide⟩) (ct_X4_good l D am cI cZ) (fun w H hP => va_recv hK.1 hP (rfl : vwCl[4]? = some (RX4, TX4, 7)) (rfl : (mW am cI cZ w)[0]? = some _))) (rx_any_c (rx_hV_ok S ⟨Nat.zero_le _, Nat.zero_le _⟩ mK_tr hK (cwV 0 S.2.2.2.2 (wsA_V wkX4_59 wiX4_sectionCount weX4_sectionCount winiX4 wX4_sectionCount) rfl rfl rfl (by decide +kernel) ⟨by decide, by decide⟩) (ct_X4_sectionCount l D am cI cZ) (fun w H hP => va_recv hK.1 hP (rfl : vwCl[4]? = some (RX4, TX4, 7)) (rfl : (mW am cI cZ w)[0]? = some _))) (rx_any_c (rx_hS_ok S ⟨Nat.zero_le _, Nat.zero_le _⟩ mK_tr hK (va_cwS 2 S.2.2.2.2 (wsA_S wkX4_169 wsX4_out winiX4 wX4_out) rfl rfl rfl (by decide +kernel) ⟨by decide, by decide⟩) (ct_X4_out l D am cI cZ)) (rx_any_c (rx_hV_ok S ⟨Nat.zero_le _, Nat.zero_le _⟩ mK_tr hK (cwV 1 S.2.2.2.2 (wsA_V wkX4_180 wiX4_nameAt weX4_nameAt winiX4 wX4_nameAt) rfl rfl rfl (by decide +kernel) ⟨by decide, by decide⟩) (ct_X4_nameAt l D am cI cZ) (fun w H hP => va_recv hK.1 hP (rfl : vwCl[4]? = some (RX4, TX4, 7)) (rfl : (mW am cI cZ w)[0]? = some _))) (rx_any_c (rx_hV_ok S ⟨Nat.zero_le _, Nat.zero_le _⟩ mK_tr hK (cwV 1 S.2.2.2.2 (wsA_V wkX4_183 wiX4_nameLength weX4_nameLength winiX4 wX4_nameLength) rfl rfl rfl (by decide +kernel) ⟨by decide, by decide⟩) (ct_X4_nameLength l D am cI cZ) (fun w H hP => va_recv hK.1 hP (rfl : vwCl[4]? = some (RX4, TX4, 7)) (rfl : (mW am cI cZ w)[0]? = some _))) (rx_any_c (rx_hP_ok (fun w v g w1 H locs pc ls rest hfv hg hI hd kk => by
    cases v with
    | int z =>
      cases hfv
      exact va_put (D := D) (ci := 4) (ty := .int) (C := RX4) (T := TX4) (N := 7) S.1 S.2.1 ht inX4 tyX4 tyX4_ok nmX4 S.2.2.2.1 hK.1 hI.1 (mD hj cI cZ w) hI.2 0 rfl rfl 0 (by decide) (ht _ wfX4_21) (fun _ h9 => h9) rfl (by decide +kernel) rfl rfl (Nat.le_of_ble_eq_true rfl) hd (fun H1 locs1 hP _ hS => kk H1 locs1 ⟨hP, hS⟩)
    | _ => cases hfv)) (rx_any_c (rx_hG_ok (fun w H locs pc ls rest hI hd k => va_get (D := D) (ci := 4) (C := RX4) (T := TX4) (N := 7) S.1 S.2.1 ht inX4 S.2.2.2.1 hK.1 hI.1 0 rfl rfl 0 (by decide) (ht _ wfX4_21) (fun _ h9 => h9) rfl hd k)) (rx_any_c (rx_hG_ok (fun w H locs pc ls rest hI hd k => va_get (D := D) (ci := 4) (C := RX4) (T := TX4) (N := 7) S.1 S.2.1 ht inX4 S.2.2.2.1 hK.1 hI.1 0 rfl rfl 2 (by decide) (ht _ wfX4_7) (fun _ h9 => h9) rfl hd k)) (rx_any_c (rx_hAi_ok (fun w H locs pc ls rest x hI hin hd k => va_iald S.1 S.2.1 hK.1 hI.1 1 0 rfl rfl hin hd k)) (rx_any_0)))))))))
set_option maxHeartbeats 4000000 in
set_option maxRecDepth 100000 in
theorem ct_X4_letter (l : Launch) (D : va_G) (am : Nat → Nat) (cI cZ : ClassId) (hj : mJ am) : ctM l yX4_letter cX4_letter 3 (some .int) rX4_letter D am cI cZ [.ref (am 0)] fX4_letter := by
  intro w as g w1 r hf hg
  unfold fX4_letter at hf
  split at hf
  · next k i =>
    cases hf
    refine tr_of (rx_mc [(53, fun u w0 lv => u = 1 ∧ w0 = (w.1, nI (cLet (mG w) w.1 k i), w.2.2) ∧ lv = [(0, .ref (am 0)), (1, .int k), (2, .int i)])]) 400 400 100000 (by decide) rfl rfl (Nat.le_of_ble_eq_true rfl) pX4_letter_ok (rt_i _) (eo_X4_letter l D am cI cZ hj) ?_ ?_
    · intro pc g0 hpc u w0 lv hinv
      have hh := rx_mc_of _ hpc
      clear hpc
      simp only [List.mem_cons, List.not_mem_nil, or_false, Prod.mk.injEq] at hh
      rcases hh with ⟨rfl, rfl⟩
      · obtain ⟨rfl, rfl, rfl⟩ := hinv
        simp only [pX4_letter, eX4_letter, fX4_good, fX4_nameAt, fX4_nameLength, fX4_out, fX4_sectionCount, rx_n, rx_s, rx_to, rx_get, rx_f1, rx_f2, rx_two, rx_ext, rx_any, rx_hV, rx_hS, rx_hG, rx_hP, rx_hAi, rx_hAb, rx_hBb, rx_hBi, rx_hBp, rx_hL, rx_hLi, rx_got, rx_pop, rx_sum, rx_len, rx_c, rx_m1, lv_args, Value.category, rx_cut_n, rx_cut_m0, rx_cut_m1, rx_iconst, rx_bipush, rx_sipush, rx_lconst, rx_iload_n, rx_iload, rx_lload_n, rx_lload, rx_aload_n, rx_aload, rx_istore_n, rx_istore, rx_lstore_n, rx_lstore, rx_astore_n, rx_astore, rx_iinc, rx_iadd, rx_isub, rx_imul, rx_iand, rx_ixor, rx_ishr, rx_idiv, rx_irem, rx_ladd, rx_lsub, rx_land, rx_lor, rx_lxor, rx_lmul, rx_ldiv, rx_lrem, rx_lushr, rx_lshl, rx_lshr, rx_lneg, rx_i2l, rx_l2i, rx_i2b, rx_lcmp, rx_dup_i, rx_dup_a, rx_pop_i, rx_pop_a, rx_if_eq, rx_if_ne, rx_if_lt, rx_if_ge, rx_if_gt, rx_if_le, rx_icmp_eq, rx_icmp_ne, rx_icmp_lt, rx_icmp_ge, rx_icmp_gt, rx_icmp_le, rx_goto, rx_tsw, rx_ireturn, rx_lreturn, rx_return_, rx_getfield, rx_putfield, rx_invokevirtual, rx_invokespecial, rx_invokestatic, rx_ldc, rx_ldc2_w, rx_iaload, rx_iastore, rx_baload, rx_bastore, Nat.reduceBEq, Nat.reduceAdd, Nat.reduceSub, Nat.reduceMul, Nat.reduceLeDiff, Nat.reduceEqDiff, Nat.reduceLT, Int.reduceLT, Int.reduceLE, Int.reduceNeg, Int.reduceToNat, Int.reduceAdd, Fin.isValue, Fin.val_zero, Fin.val_one, Fin.reduceFinMk, Fin.val_ofNat, Bool.or_true, Bool.true_or, Bool.or_false, Bool.false_or, Bool.and_true, Bool.true_and, Bool.and_false, Bool.false_and, cond_true, cond_false, ↓reduceIte, eq_self, ne_eq, not_true_eq_false, not_false_eq_true, true_and, and_true, Option.toList_some, Option.toList_none, List.cons_append, List.nil_append, Option.some.injEq, Value.int.injEq, Value.long.injEq, rx_l0, rx_l1, rx_fv0, rx_fv1, rx_fv2, rx_fv3, nI_c1, nI_c2, nI_c4, nI_c8, nI_c9, nI_c24, nI_c64, Nat.le_refl, bI_z, bI_0, bI_1, Classical.not_not, lg_cmp_ge, lg_cmp_le, lg_cmp_gt, lg_cmp_lt, lg_cmp_eq]
        have hl := cLet_lt (G := mG w) (b := w.1) (k := k) (i := i)
        rw [nI_le0 (by omega)]
        refine ⟨fun a => ?_, fun a => by rw [cif_f a]⟩
        rw [cif_t a]
        obtain ⟨hG, hk, hi⟩ := cLet_0 a
        have hc := sC_lt w.1
        have hB := bn_le w.1
        obtain ⟨K, hK, rfl, ek⟩ := vp_ex hk (by omega)
        rw [ek] at hi
        have hN := nmA_ok (hg hG) hK
        obtain ⟨n, hn1, hn2⟩ := hN.2
        have hN3 := nmL_lt hn1 hn2
        obtain ⟨J, hJ, rfl, ej⟩ := vp_ex hi (by omega)
        rw [ek, ej, show rP w.1 (nX w.1) + bl w.1 (sA w.1 K) 4 = nmA w.1 K from rfl, nI_add, nI_clamp (by omega)]
        exact ⟨⟨(gd_t12 (hg hG)).1.1, rfl, hK, (gd_nm (hg hG) hK).1⟩, vp_in_nI (by omega) (by decide), rfl⟩
    · simp only [pX4_letter, eX4_letter, fX4_good, fX4_nameAt, fX4_nameLength, fX4_out, fX4_sectionCount, rx_n, rx_s, rx_to, rx_get, rx_f1, rx_f2, rx_two, rx_ext, rx_any, rx_hV, rx_hS, rx_hG, rx_hP, rx_hAi, rx_hAb, rx_hBb, rx_hBi, rx_hBp, rx_hL, rx_hLi, rx_got, rx_pop, rx_sum, rx_len, rx_c, rx_m1, lv_args, Value.category, rx_cut_n, rx_cut_m0, rx_cut_m1, rx_iconst, rx_bipush, rx_sipush, rx_lconst, rx_iload_n, rx_iload, rx_lload_n, rx_lload, rx_aload_n, rx_aload, rx_istore_n, rx_istore, rx_lstore_n, rx_lstore, rx_astore_n, rx_astore, rx_iinc, rx_iadd, rx_isub, rx_imul, rx_iand, rx_ixor, rx_ishr, rx_idiv, rx_irem, rx_ladd, rx_lsub, rx_land, rx_lor, rx_lxor, rx_lmul, rx_ldiv, rx_lrem, rx_lushr, rx_lshl, rx_lshr, rx_lneg, rx_i2l, rx_l2i, rx_i2b, rx_lcmp, rx_dup_i, rx_dup_a, rx_pop_i, rx_pop_a, rx_if_eq, rx_if_ne, rx_if_lt, rx_if_ge, rx_if_gt, rx_if_le, rx_icmp_eq, rx_icmp_ne, rx_icmp_lt, rx_icmp_ge, rx_icmp_gt, rx_icmp_le, rx_goto, rx_tsw, rx_ireturn, rx_lreturn, rx_return_, rx_getfield, rx_putfield, rx_invokevirtual, rx_invokespecial, rx_invokestatic, rx_ldc, rx_ldc2_w, rx_iaload, rx_iastore, rx_baload, rx_bastore, Nat.reduceBEq, Nat.reduceAdd, Nat.reduceSub, Nat.reduceMul, Nat.reduceLeDiff, Nat.reduceEqDiff, Nat.reduceLT, Int.reduceLT, Int.reduceLE, Int.reduceNeg, Int.reduceToNat, Int.reduceAdd, Fin.isValue, Fin.val_zero, Fin.val_one, Fin.reduceFinMk, Fin.val_ofNat, Bool.or_true, Bool.true_or, Bool.or_false, Bool.false_or, Bool.and_true, Bool.true_and, Bool.and_false, Bool.false_and, cond_true, cond_false, ↓reduceIte, eq_self, ne_eq, not_true_eq_false, not_false_eq_true, true_and, and_true, Option.toList_some, Option.toList_none, List.cons_append, List.nil_append, Option.some.injEq, Value.int.injEq, Value.long.injEq, rx_l0, rx_l1, rx_fv0, rx_fv1, rx_fv2, rx_fv3, nI_c1, nI_c2, nI_c4, nI_c8, nI_c9, nI_c24, nI_c64, Nat.le_refl, bI_z, bI_0, bI_1, Classical.not_not, lg_cmp_ge, lg_cmp_le, lg_cmp_gt, lg_cmp_lt, lg_cmp_eq]
      have hc := sC_lt w.1
      simp (disch := omega) only [nI_l, out_iff]
      simp only [le10, le20, le30, le00, mG_eq, false_implies, true_implies, not_false_eq_true, not_true_eq_false, true_and, and_true, Classical.not_not]
      refine ⟨fun a => ⟨fun b => ?_, fun b => ?_⟩, fun a => ?_⟩
      · obtain ⟨K, hK, rfl, ek⟩ := vp_ex b (by omega)
        have hN := nmA_ok (hg a) hK
        have hN2 := nmL_le w.1 (nmA w.1 K)
        have eL : fi (fun i => bg w.1 (nmA w.1 K + i) = 0) 640 = nmL w.1 (nmA w.1 K) := rfl
        rw [ek, show rP w.1 (nX w.1) + bl w.1 (sA w.1 K) 4 = nmA w.1 K from rfl]
        simp (disch := omega) only [nI_clamp, eL, nI_l, out_iff, Classical.not_not]
        refine ⟨⟨(gd_t12 (hg a)).1.1, trivial, hK, (gd_nm (hg a) hK).1⟩, ⟨trivial, hN.2⟩, fun c => ?_, fun c => ?_⟩
        · refine ⟨1, _, by omega, ⟨rfl, by unfold cLet; rw [cif_t a, cif_t b, ek, cif_t c], rfl⟩, ?_⟩
          simp only [List.mem_cons, List.not_mem_nil, or_false, forall_eq_or_imp, forall_eq, Nat.reduceBEq, cond_true, cond_false, Option.some.injEq, Value.int.injEq, Value.long.injEq, Value.ref.injEq, true_and, and_true]
        · refine ⟨1, _, by omega, ⟨rfl, by unfold cLet; rw [cif_t a, cif_t b, ek, cif_f c], rfl⟩, ?_⟩
          simp only [List.mem_cons, List.not_mem_nil, or_false, forall_eq_or_imp, forall_eq, Nat.reduceBEq, cond_true, cond_false, Option.some.injEq, Value.int.injEq, Value.long.injEq, Value.ref.injEq, true_and, and_true]
      · refine ⟨1, _, by omega, ⟨rfl, by unfold cLet; rw [cif_t a, cif_f b], rfl⟩, ?_⟩
        simp only [List.mem_cons, List.not_mem_nil, or_false, forall_eq_or_imp, forall_eq, Nat.reduceBEq, cond_true, cond_false, Option.some.injEq, Value.int.injEq, Value.long.injEq, Value.ref.injEq, true_and, and_true]
      · refine ⟨1, _, by omega, ⟨rfl, by unfold cLet; rw [cif_f a], rfl⟩, ?_⟩
        simp only [List.mem_cons, List.not_mem_nil, or_false, forall_eq_or_imp, forall_eq, Nat.reduceBEq, cond_true, cond_false, Option.some.injEq, Value.int.injEq, Value.long.injEq, Value.ref.injEq, true_and, and_true]
  · cases hf
def pX4_section : rx_P := [(0, .aload_n 0, 0), (1, .iload_n 2, 0), (2, .ldc2_w 175, 0), (5, .invokestatic 169, 0), (8, .ifCond .eq 7, 15), (11, .iconst 1, 0), (12, .goto 31, 43), (15, .aload_n 0, 0), (16, .invokevirtual 172, 0), (19, .ifCond .ne 7, 26), (22, .iconst 2, 0), (23, .goto 20, 43), (26, .iload_n 1, 0), (27, .aload_n 0, 0), (28, .invokevirtual 59, 0), (31, .i2l, 0), (32, .invokestatic 169, 0), (35, .ifCond .eq 7, 42), (38, .iconst 3, 0), (39, .goto 4, 43), (42, .iconst 0, 0), (43, .putfield 21, 0), (46, .aload_n 0, 0), (47, .getfield 21, 0), (50, .ifCond .le 5, 55), (53, .lconst 0, 0), (54, .lreturn, 0), (55, .aload_n 0, 0), (56, .iload_n 1, 0), (57, .invokevirtual 50, 0), (60, .istore_n 3, 0), (61, .iload_n 2, 0), (62, .ifCond .ne 11, 73), (65, .aload_n 0, 0), (66, .iload_n 3, 0), (67, .iconst 4, 0), (68, .iadd, 0), (69, .invokevirtual 30, 0), (72, .lreturn, 0), (73, .iload_n 2, 0), (74, .bipush 6, 0), (76, .if_icmp .ne 14, 90), (79, .aload_n 0, 0), (80, .aload_n 0, 0), (81, .iload_n 1, 0), (82, .invokevirtual 180, 0), (85, .invokevirtual 183, 0), (88, .i2l, 0), (89, .lreturn, 0), (90, .iload_n 2, 0), (91, .iconst 4, 0), (92, .if_icmp .ge 34, 126), (95, .aload_n 0, 0), (96, .iload_n 3, 0), (97, .iload_n 2, 0), (98, .iconst 1, 0), (99, .if_icmp .ne 8, 107), (102, .bipush 8, 0), (104, .goto 15, 119), (107, .iload_n 2, 0), (108, .iconst 2, 0), (109, .if_icmp .ne 8, 117), (112, .bipush 24, 0), (114, .goto 5, 119), (117, .bipush 32, 0), (119, .iadd, 0), (120, .invokevirtual 177, 0), (123, .goto 21, 144), (126, .aload_n 0, 0), (127, .iload_n 3, 0), (128, .iload_n 2, 0), (129, .iconst 4, 0), (130, .if_icmp .ne 8, 138), (133, .bipush 40, 0), (135, .goto 5, 140), (138, .bipush 44, 0), (140, .iadd, 0), (141, .invokevirtual 30, 0), (144, .lreturn, 0)]
theorem pX4_section_ok : ∀ q ∈ pX4_section, rx_ok cX4_section q := rx_ok_all (by decide +kernel)
abbrev rX4_section : Room := { frames := 5, cells := 0, slots := 0, locals := 105 }
noncomputable def fX4_section : rx_F mS := fun w as => match as with
  | [.int k, .int x] => some (mG w → gd w.1, (w.1, nI (cRow (mG w) (sC w.1) k x), w.2.2), some (.long (cif (cRow (mG w) (sC w.1) k x = 0) (lN (vSec w.1 k.toNatClampNeg x.toNatClampNeg)) (lN 0))))
  | _ => none
noncomputable def eX4_section (am : Nat → Nat) : rx_E mS := rx_any [rx_hL 175 (lN 7), rx_hS 169 2 fX4_out, rx_hV 172 0 (am 0) fX4_good, rx_hV 59 0 (am 0) fX4_sectionCount, rx_hP 21 (am 0) (fun w v => match v with | .int z => some (True, (w.1, z, w.2.2)) | _ => none), rx_hG 21 (am 0) (fun w => .int w.2.1), rx_hV 50 1 (am 0) fX4_sectionAt, rx_hV 30 1 (am 0) fX4_four, rx_hV 180 1 (am 0) fX4_nameAt, rx_hV 183 1 (am 0) fX4_nameLength, rx_hV 177 1 (am 0) fX4_eight]
set_option maxHeartbeats 4000000 in
set_option maxRecDepth 100000 in
theorem eo_X4_section (l : Launch) (D : va_G) (am : Nat → Nat) (cI cZ : ClassId) (hj : mJ am) : ∀ (p : Program) (e : Env) (s : State) (m : MethodId) (args : Array Value) (below : List Frame) (meth : Method) (c : Code) (Qw : State → Prop), CallFix p m c cX4_section 4 s args (Cond.code yX4_section cX4_section 4 (some .long) :: wsA) RX4 → mK D cI cZ s → rx_Eok (fun H locs g => W p l e rX4_section s m args below meth c H locs 0 0 Qw g) m cX4_section 4 (tr_I D vwCl (mA am) s (mW am cI cZ)) (eX4_section am) := by
  intro p e s m args below meth c Qw S hK
  have ht : ∀ w ∈ wsA, w.before args s = true := fun w h => S.2.2.2.2 w (wsA_in h)
  exact rx_any_c (rx_hL_ok S (ht _ wcX4_175)) (rx_any_c (rx_hS_ok S ⟨Nat.zero_le _, Nat.zero_le _⟩ mK_tr hK (va_cwS 2 S.2.2.2.2 (wsA_S wkX4_169 wsX4_out winiX4 wX4_out) rfl rfl rfl (by decide +kernel) ⟨by decide, by decide⟩) (ct_X4_out l D am cI cZ)) (rx_any_c (rx_hV_ok S ⟨Nat.zero_le _, Nat.zero_le _⟩ mK_tr hK (cwV 0 S.2.2.2.2 (wsA_V wkX4_172 wiX4_good weX4_good winiX4 wX4_good) rfl rfl rfl (by decide +kernel) ⟨by decide, by decide⟩) (ct_X4_good l D am cI cZ) (fun w H hP => va_recv hK.1 hP (rfl : vwCl[4]? = some (RX4, TX4, 7)) (rfl : (mW am cI cZ w)[0]? = some _))) (rx_any_c (rx_hV_ok S ⟨Nat.zero_le _, Nat.zero_le _⟩ mK_tr hK (cwV 0 S.2.2.2.2 (wsA_V wkX4_59 wiX4_sectionCount weX4_sectionCount winiX4 wX4_sectionCount) rfl rfl rfl (by decide +kernel) ⟨by decide, by decide⟩) (ct_X4_sectionCount l D am cI cZ) (fun w H hP => va_recv hK.1 hP (rfl : vwCl[4]? = some (RX4, TX4, 7)) (rfl : (mW am cI cZ w)[0]? = some _))) (rx_any_c (rx_hP_ok (fun w v g w1 H locs pc ls rest hfv hg hI hd kk => by
    cases v with
    | int z =>
      cases hfv
      exact va_put (D := D) (ci := 4) (ty := .int) (C := RX4) (T := TX4) (N := 7) S.1 S.2.1 ht inX4 tyX4 tyX4_ok nmX4 S.2.2.2.1 hK.1 hI.1 (mD hj cI cZ w) hI.2 0 rfl rfl 0 (by decide) (ht _ wfX4_21) (fun _ h9 => h9) rfl (by decide +kernel) rfl rfl (Nat.le_of_ble_eq_true rfl) hd (fun H1 locs1 hP _ hS => kk H1 locs1 ⟨hP, hS⟩)
    | _ => cases hfv)) (rx_any_c (rx_hG_ok (fun w H locs pc ls rest hI hd k => va_get (D := D) (ci := 4) (C := RX4) (T := TX4) (N := 7) S.1 S.2.1 ht inX4 S.2.2.2.1 hK.1 hI.1 0 rfl rfl 0 (by decide) (ht _ wfX4_21) (fun _ h9 => h9) rfl hd k)) (rx_any_c (rx_hV_ok S ⟨Nat.zero_le _, Nat.zero_le _⟩ mK_tr hK (cwV 1 S.2.2.2.2 (wsA_V wkX4_50 wiX4_sectionAt weX4_sectionAt winiX4 wX4_sectionAt) rfl rfl rfl (by decide +kernel) ⟨by decide, by decide⟩) (ct_X4_sectionAt l D am cI cZ) (fun w H hP => va_recv hK.1 hP (rfl : vwCl[4]? = some (RX4, TX4, 7)) (rfl : (mW am cI cZ w)[0]? = some _))) (rx_any_c (rx_hV_ok S ⟨Nat.zero_le _, Nat.zero_le _⟩ mK_tr hK (cwV 1 S.2.2.2.2 (wsA_V wkX4_30 wiX4_four weX4_four winiX4 wX4_four) rfl rfl rfl (by decide +kernel) ⟨by decide, by decide⟩) (ct_X4_four l D am cI cZ) (fun w H hP => va_recv hK.1 hP (rfl : vwCl[4]? = some (RX4, TX4, 7)) (rfl : (mW am cI cZ w)[0]? = some _))) (rx_any_c (rx_hV_ok S ⟨Nat.zero_le _, Nat.zero_le _⟩ mK_tr hK (cwV 1 S.2.2.2.2 (wsA_V wkX4_180 wiX4_nameAt weX4_nameAt winiX4 wX4_nameAt) rfl rfl rfl (by decide +kernel) ⟨by decide, by decide⟩) (ct_X4_nameAt l D am cI cZ) (fun w H hP => va_recv hK.1 hP (rfl : vwCl[4]? = some (RX4, TX4, 7)) (rfl : (mW am cI cZ w)[0]? = some _))) (rx_any_c (rx_hV_ok S ⟨Nat.zero_le _, Nat.zero_le _⟩ mK_tr hK (cwV 1 S.2.2.2.2 (wsA_V wkX4_183 wiX4_nameLength weX4_nameLength winiX4 wX4_nameLength) rfl rfl rfl (by decide +kernel) ⟨by decide, by decide⟩) (ct_X4_nameLength l D am cI cZ) (fun w H hP => va_recv hK.1 hP (rfl : vwCl[4]? = some (RX4, TX4, 7)) (rfl : (mW am cI cZ w)[0]? = some _))) (rx_any_c (rx_hV_ok S ⟨Nat.zero_le _, Nat.zero_le _⟩ mK_tr hK (cwV 1 S.2.2.2.2 (wsA_V wkX4_177 wiX4_eight weX4_eight winiX4 wX4_eight) rfl rfl rfl (by decide +kernel) ⟨by decide, by decide⟩) (ct_X4_eight l D am cI cZ) (fun w H hP => va_recv hK.1 hP (rfl : vwCl[4]? = some (RX4, TX4, 7)) (rfl : (mW am cI cZ w)[0]? = some _))) (rx_any_0)))))))))))
set_option maxHeartbeats 4000000 in
set_option maxRecDepth 100000 in
theorem ct_X4_section (l : Launch) (D : va_G) (am : Nat → Nat) (cI cZ : ClassId) (hj : mJ am) : ctM l yX4_section cX4_section 4 (some .long) rX4_section D am cI cZ [.ref (am 0)] fX4_section := by
  intro w as g w1 r hf hg
  unfold fX4_section at hf
  split at hf
  · next k x =>
    cases hf
    refine tr_of (rx_mc [(46, fun u w0 lv => u = 1 ∧ w0 = (w.1, nI (cRow (mG w) (sC w.1) k x), w.2.2) ∧ lv = [(0, .ref (am 0)), (1, .int k), (2, .int x)])]) 400 400 100000 (by decide) rfl rfl (Nat.le_of_ble_eq_true rfl) pX4_section_ok (rt_l _) (eo_X4_section l D am cI cZ hj) ?_ ?_
    · intro pc g0 hpc u w0 lv hinv
      have hh := rx_mc_of _ hpc
      clear hpc
      simp only [List.mem_cons, List.not_mem_nil, or_false, Prod.mk.injEq] at hh
      rcases hh with ⟨rfl, rfl⟩
      · obtain ⟨rfl, rfl, rfl⟩ := hinv
        simp only [pX4_section, eX4_section, fX4_eight, fX4_four, fX4_good, fX4_nameAt, fX4_nameLength, fX4_out, fX4_sectionAt, fX4_sectionCount, rx_n, rx_s, rx_to, rx_get, rx_f1, rx_f2, rx_two, rx_ext, rx_any, rx_hV, rx_hS, rx_hG, rx_hP, rx_hAi, rx_hAb, rx_hBb, rx_hBi, rx_hBp, rx_hL, rx_hLi, rx_got, rx_pop, rx_sum, rx_len, rx_c, rx_m1, lv_args, Value.category, rx_cut_n, rx_cut_m0, rx_cut_m1, rx_iconst, rx_bipush, rx_sipush, rx_lconst, rx_iload_n, rx_iload, rx_lload_n, rx_lload, rx_aload_n, rx_aload, rx_istore_n, rx_istore, rx_lstore_n, rx_lstore, rx_astore_n, rx_astore, rx_iinc, rx_iadd, rx_isub, rx_imul, rx_iand, rx_ixor, rx_ishr, rx_idiv, rx_irem, rx_ladd, rx_lsub, rx_land, rx_lor, rx_lxor, rx_lmul, rx_ldiv, rx_lrem, rx_lushr, rx_lshl, rx_lshr, rx_lneg, rx_i2l, rx_l2i, rx_i2b, rx_lcmp, rx_dup_i, rx_dup_a, rx_pop_i, rx_pop_a, rx_if_eq, rx_if_ne, rx_if_lt, rx_if_ge, rx_if_gt, rx_if_le, rx_icmp_eq, rx_icmp_ne, rx_icmp_lt, rx_icmp_ge, rx_icmp_gt, rx_icmp_le, rx_goto, rx_tsw, rx_ireturn, rx_lreturn, rx_return_, rx_getfield, rx_putfield, rx_invokevirtual, rx_invokespecial, rx_invokestatic, rx_ldc, rx_ldc2_w, rx_iaload, rx_iastore, rx_baload, rx_bastore, Nat.reduceBEq, Nat.reduceAdd, Nat.reduceSub, Nat.reduceMul, Nat.reduceLeDiff, Nat.reduceEqDiff, Nat.reduceLT, Int.reduceLT, Int.reduceLE, Int.reduceNeg, Int.reduceToNat, Int.reduceAdd, Fin.isValue, Fin.val_zero, Fin.val_one, Fin.reduceFinMk, Fin.val_ofNat, Bool.or_true, Bool.true_or, Bool.or_false, Bool.false_or, Bool.and_true, Bool.true_and, Bool.and_false, Bool.false_and, cond_true, cond_false, ↓reduceIte, eq_self, ne_eq, not_true_eq_false, not_false_eq_true, true_and, and_true, Option.toList_some, Option.toList_none, List.cons_append, List.nil_append, Option.some.injEq, Value.int.injEq, Value.long.injEq, rx_l0, rx_l1, rx_fv0, rx_fv1, rx_fv2, rx_fv3, nI_c1, nI_c2, nI_c4, nI_c8, nI_c9, nI_c24, nI_c64, Nat.le_refl, bI_z, bI_0, bI_1, Classical.not_not, lg_cmp_ge, lg_cmp_le, lg_cmp_gt, lg_cmp_lt, lg_cmp_eq]
        have hl := cRow_lt (G := mG w) (c := sC w.1) (k := k) (x := x)
        rw [nI_le0 (by omega)]
        refine ⟨fun a => ?_, fun a => by rw [cif_f a]⟩
        rw [cif_t a]
        obtain ⟨hx, hG, hk⟩ := cRow_0 a
        have hc := sC_lt w.1
        have hB := bn_le w.1
        obtain ⟨X, hX, rfl, ex⟩ := vp_ex hx (by decide)
        obtain ⟨K, hK, rfl, ek⟩ := vp_ex hk (by omega)
        have hA := t6_sA (gd_t12 (hg hG)).1.1 hK
        have hN := nmA_ok (hg hG) hK
        have hN2 := nmL_le w.1 (nmA w.1 K)
        have e0 : nI (bl w.1 40 8) + nI 64 * nI K = nI (sA w.1 K) := by unfold sA; rw [pk_mul, nI_add]
        rw [ex, ek, e0]
        simp (disch := omega) only [pk_mul, nI_add, nI_clamp, nI_leI, nI_eq, nI_z]
        refine ⟨fun a => ⟨fun b => ⟨fun c => ⟨fun d => ⟨vp_in_nI (by omega) (by decide), ?_⟩, fun d => ⟨vp_in_nI (by omega) (by decide), ?_⟩⟩, fun c => ⟨fun d => ⟨fun e => ⟨vp_in_nI (by omega) (by decide), ?_⟩, fun e => ⟨vp_in_nI (by omega) (by decide), ?_⟩⟩, fun d => ⟨vp_in_nI (by omega) (by decide), ?_⟩⟩⟩, fun b => ?_⟩, fun a => ⟨vp_in_nI (by omega) (by decide), ?_⟩⟩
        · have : X = 5 := by omega
          subst this; rfl
        · subst d; rfl
        · have : X = 3 := by omega
          subst this; rfl
        · subst e; rfl
        · subst d; rfl
        · subst b
          rw [show rP w.1 (nX w.1) + bl w.1 (sA w.1 K) 4 = nmA w.1 K from rfl, nI_clamp (by omega)]
          exact ⟨⟨(gd_t12 (hg hG)).1.1, trivial, hK, (gd_nm (hg hG) hK).1⟩, ⟨rfl, hN.2⟩, nI_l (n := nmL w.1 (nmA w.1 K)) (by omega)⟩
        · subst a; rfl
    · simp only [pX4_section, eX4_section, fX4_eight, fX4_four, fX4_good, fX4_nameAt, fX4_nameLength, fX4_out, fX4_sectionAt, fX4_sectionCount, rx_n, rx_s, rx_to, rx_get, rx_f1, rx_f2, rx_two, rx_ext, rx_any, rx_hV, rx_hS, rx_hG, rx_hP, rx_hAi, rx_hAb, rx_hBb, rx_hBi, rx_hBp, rx_hL, rx_hLi, rx_got, rx_pop, rx_sum, rx_len, rx_c, rx_m1, lv_args, Value.category, rx_cut_n, rx_cut_m0, rx_cut_m1, rx_iconst, rx_bipush, rx_sipush, rx_lconst, rx_iload_n, rx_iload, rx_lload_n, rx_lload, rx_aload_n, rx_aload, rx_istore_n, rx_istore, rx_lstore_n, rx_lstore, rx_astore_n, rx_astore, rx_iinc, rx_iadd, rx_isub, rx_imul, rx_iand, rx_ixor, rx_ishr, rx_idiv, rx_irem, rx_ladd, rx_lsub, rx_land, rx_lor, rx_lxor, rx_lmul, rx_ldiv, rx_lrem, rx_lushr, rx_lshl, rx_lshr, rx_lneg, rx_i2l, rx_l2i, rx_i2b, rx_lcmp, rx_dup_i, rx_dup_a, rx_pop_i, rx_pop_a, rx_if_eq, rx_if_ne, rx_if_lt, rx_if_ge, rx_if_gt, rx_if_le, rx_icmp_eq, rx_icmp_ne, rx_icmp_lt, rx_icmp_ge, rx_icmp_gt, rx_icmp_le, rx_goto, rx_tsw, rx_ireturn, rx_lreturn, rx_return_, rx_getfield, rx_putfield, rx_invokevirtual, rx_invokespecial, rx_invokestatic, rx_ldc, rx_ldc2_w, rx_iaload, rx_iastore, rx_baload, rx_bastore, Nat.reduceBEq, Nat.reduceAdd, Nat.reduceSub, Nat.reduceMul, Nat.reduceLeDiff, Nat.reduceEqDiff, Nat.reduceLT, Int.reduceLT, Int.reduceLE, Int.reduceNeg, Int.reduceToNat, Int.reduceAdd, Fin.isValue, Fin.val_zero, Fin.val_one, Fin.reduceFinMk, Fin.val_ofNat, Bool.or_true, Bool.true_or, Bool.or_false, Bool.false_or, Bool.and_true, Bool.true_and, Bool.and_false, Bool.false_and, cond_true, cond_false, ↓reduceIte, eq_self, ne_eq, not_true_eq_false, not_false_eq_true, true_and, and_true, Option.toList_some, Option.toList_none, List.cons_append, List.nil_append, Option.some.injEq, Value.int.injEq, Value.long.injEq, rx_l0, rx_l1, rx_fv0, rx_fv1, rx_fv2, rx_fv3, nI_c1, nI_c2, nI_c4, nI_c8, nI_c9, nI_c24, nI_c64, Nat.le_refl, bI_z, bI_0, bI_1, Classical.not_not, lg_cmp_ge, lg_cmp_le, lg_cmp_gt, lg_cmp_lt, lg_cmp_eq]
      have hc := sC_lt w.1
      simp (disch := omega) only [nI_l, out_iff]
      simp only [le10, le20, le30, le00, mG_eq, false_implies, true_implies, not_false_eq_true, not_true_eq_false, true_and, and_true, Classical.not_not]
      refine ⟨fun a => ⟨fun b => ⟨fun c => ?_, fun c => ?_⟩, fun b => ?_⟩, fun a => ?_⟩
      · refine ⟨1, _, by omega, ⟨rfl, by unfold cRow; rw [cif_t a, cif_t b, cif_t c], rfl⟩, ?_⟩
        simp only [List.mem_cons, List.not_mem_nil, or_false, forall_eq_or_imp, forall_eq, Nat.reduceBEq, cond_true, cond_false, Option.some.injEq, Value.int.injEq, Value.long.injEq, Value.ref.injEq, true_and, and_true]
      · refine ⟨1, _, by omega, ⟨rfl, by unfold cRow; rw [cif_t a, cif_t b, cif_f c], rfl⟩, ?_⟩
        simp only [List.mem_cons, List.not_mem_nil, or_false, forall_eq_or_imp, forall_eq, Nat.reduceBEq, cond_true, cond_false, Option.some.injEq, Value.int.injEq, Value.long.injEq, Value.ref.injEq, true_and, and_true]
      · refine ⟨1, _, by omega, ⟨rfl, by unfold cRow; rw [cif_t a, cif_f b], rfl⟩, ?_⟩
        simp only [List.mem_cons, List.not_mem_nil, or_false, forall_eq_or_imp, forall_eq, Nat.reduceBEq, cond_true, cond_false, Option.some.injEq, Value.int.injEq, Value.long.injEq, Value.ref.injEq, true_and, and_true]
      · refine ⟨1, _, by omega, ⟨rfl, by unfold cRow; rw [cif_f a], rfl⟩, ?_⟩
        simp only [List.mem_cons, List.not_mem_nil, or_false, forall_eq_or_imp, forall_eq, Nat.reduceBEq, cond_true, cond_false, Option.some.injEq, Value.int.injEq, Value.long.injEq, Value.ref.injEq, true_and, and_true]
  · cases hf
