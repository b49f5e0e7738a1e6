def pX4_ones : rx_P := [(0, .iconst 0, 0), (1, .istore_n 2, 0), (2, .iconst 0, 0), (3, .istore_n 3, 0), (4, .iload_n 3, 0), (5, .bipush 64, 0), (7, .if_icmp .ge 30, 37), (10, .iload_n 2, 0), (11, .aload_n 0, 0), (12, .getfield 7, 0), (15, .iload_n 1, 0), (16, .iload_n 3, 0), (17, .bipush 8, 0), (19, .idiv, 0), (20, .iadd, 0), (21, .iaload, 0), (22, .iload_n 3, 0), (23, .bipush 8, 0), (25, .irem, 0), (26, .ishr, 0), (27, .iconst 1, 0), (28, .iand, 0), (29, .iadd, 0), (30, .istore_n 2, 0), (31, .iinc 3 1, 0), (34, .goto (-30), 4), (37, .iload_n 2, 0), (38, .ireturn, 0)]
theorem pX4_ones_ok : ∀ q ∈ pX4_ones, rx_ok cX4_ones q := rx_ok_all (by decide +kernel)
abbrev rX4_ones : Room := { frames := 0, cells := 0, slots := 0, locals := 0 }
noncomputable def fX4_ones : rx_F mS := fun w as => match as with
  | [.int x] => some (vp_in x 633, w, some (.int (nI (pcn w.1 x.toNatClampNeg 64))))
  | _ => none
noncomputable def eX4_ones (am : Nat → Nat) : rx_E mS := rx_any [rx_hG 7 (am 0) (fun w => .ref (am 1)), rx_hAi (am 1) 640 (fun w k => nI (bg w.1 k))]
set_option maxHeartbeats 4000000 in
set_option maxRecDepth 100000 in
theorem eo_X4_ones (l : Launch) (D : va_G) (am : Nat → Nat) (cI cZ : ClassId) : ∀ (p : Program) (e : Env) (s : State) (m : MethodId) (args : Array Value) (below : List Frame) (meth : Method) (c : Code) (Qw : State → Prop), CallFix p m c cX4_ones 4 s args (Cond.code yX4_ones cX4_ones 4 (some .int) :: wsA) RX4 → mK D cI cZ s → rx_Eok (fun H locs g => W p l e rX4_ones s m args below meth c H locs 0 0 Qw g) m cX4_ones 4 (tr_I D vwCl (mA am) s (mW am cI cZ)) (eX4_ones am) := by
  intro p e s m args below meth c Qw S hK
  have ht : ∀ w ∈ wsA, w.before args s = true := fun w h => S.2.2.2.2 w (wsA_in h)
  exact rx_any_c (rx_hG_ok (fun w H locs pc ls rest hI hd k => va_get (D := D) (ci := 4) (C := RX4) (T := TX4) (N := 7) S.1 S.2.1 ht inX4 S.2.2.2.1 hK.1 hI.1 0 rfl rfl 2 (by decide) (ht _ wfX4_7) (fun _ h9 => h9) rfl hd k)) (rx_any_c (rx_hAi_ok (fun w H locs pc ls rest x hI hin hd k => va_iald S.1 S.2.1 hK.1 hI.1 1 0 rfl rfl hin hd k)) (rx_any_0))
set_option maxHeartbeats 4000000 in
set_option maxRecDepth 100000 in
theorem ct_X4_ones (l : Launch) (D : va_G) (am : Nat → Nat) (cI cZ : ClassId) : ctM l yX4_ones cX4_ones 4 (some .int) rX4_ones D am cI cZ [.ref (am 0)] fX4_ones := by
  intro w as g w1 r hf hg
  unfold fX4_ones at hf
  split at hf
  · next x =>
    cases hf
    refine tr_of (rx_mc [(4, fun u w0 lv => w0 = w ∧ ∃ j, j ≤ 64 ∧ u = 64 - j ∧ lv = [(0, .ref (am 0)), (1, .int x), (2, .int (nI (pcn w.1 x.toNatClampNeg j))), (3, .int (nI j))])]) 400 400 100000 (by decide) rfl rfl (Nat.le_of_ble_eq_true rfl) pX4_ones_ok (rt_i _) (eo_X4_ones l D am cI cZ) ?_ ?_
    · intro pc g0 hpc u w0 lv hinv
      have hh := rx_mc_of _ hpc
      clear hpc
      simp only [List.mem_cons, List.not_mem_nil, or_false, Prod.mk.injEq] at hh
      rcases hh with ⟨rfl, rfl⟩
      · obtain ⟨rfl, j, hj, rfl, rfl⟩ := hinv
        obtain ⟨a, ha, rfl, -⟩ := vp_ex hg (by decide)
        simp only [nI_clamp (show a < 2 ^ 31 by omega)]
        simp only [pX4_ones, eX4_ones, rx_n, rx_s, rx_to, rx_get, rx_f1, rx_f2, rx_two, rx_ext, rx_any, rx_hV, rx_hS, rx_hG, rx_hP, rx_hAi, rx_hAb, rx_hBb, rx_hBi, rx_hBp, rx_hL, rx_hLi, rx_got, rx_pop, rx_sum, rx_len, rx_c, rx_m1, lv_args, Value.category, rx_cut_n, rx_cut_m0, rx_cut_m1, rx_iconst, rx_bipush, rx_sipush, rx_lconst, rx_iload_n, rx_iload, rx_lload_n, rx_lload, rx_aload_n, rx_aload, rx_istore_n, rx_istore, rx_lstore_n, rx_lstore, rx_astore_n, rx_astore, rx_iinc, rx_iadd, rx_isub, rx_imul, rx_iand, rx_ixor, rx_ishr, rx_idiv, rx_irem, rx_ladd, rx_lsub, rx_land, rx_lor, rx_lxor, rx_lmul, rx_ldiv, rx_lrem, rx_lushr, rx_lshl, rx_lshr, rx_lneg, rx_i2l, rx_l2i, rx_i2b, rx_lcmp, rx_dup_i, rx_dup_a, rx_pop_i, rx_pop_a, rx_if_eq, rx_if_ne, rx_if_lt, rx_if_ge, rx_if_gt, rx_if_le, rx_icmp_eq, rx_icmp_ne, rx_icmp_lt, rx_icmp_ge, rx_icmp_gt, rx_icmp_le, rx_goto, rx_tsw, rx_ireturn, rx_lreturn, rx_return_, rx_getfield, rx_putfield, rx_invokevirtual, rx_invokespecial, rx_invokestatic, rx_ldc, rx_ldc2_w, rx_iaload, rx_iastore, rx_baload, rx_bastore, Nat.reduceBEq, Nat.reduceAdd, Nat.reduceSub, Nat.reduceMul, Nat.reduceLeDiff, Nat.reduceEqDiff, Nat.reduceLT, Int.reduceLT, Int.reduceLE, Int.reduceNeg, Int.reduceToNat, Int.reduceAdd, Fin.isValue, Fin.val_zero, Fin.val_one, Fin.reduceFinMk, Fin.val_ofNat, Bool.or_true, Bool.true_or, Bool.or_false, Bool.false_or, Bool.and_true, Bool.true_and, Bool.and_false, Bool.false_and, cond_true, cond_false, ↓reduceIte, eq_self, ne_eq, not_true_eq_false, not_false_eq_true, true_and, and_true, Option.toList_some, Option.toList_none, List.cons_append, List.nil_append, Option.some.injEq, Value.int.injEq, Value.long.injEq, rx_l0, rx_l1, rx_fv0, rx_fv1, rx_fv2, rx_fv3, nI_c1, nI_c2, nI_c4, nI_c8, nI_c9, nI_c24, nI_c64, Nat.le_refl, bI_z, bI_0, bI_1, Classical.not_not, lg_cmp_ge, lg_cmp_le, lg_cmp_gt, lg_cmp_lt, lg_cmp_eq]
        rw [nI_leI (by omega) (by omega)]
        refine ⟨fun h => by rw [show j = 64 by omega], fun h => ?_⟩
        simp (disch := omega) only [pk_div, rem_8, nI_add, nI_clamp, bit_v]
        refine ⟨by decide, vp_in_nI (by omega) (by decide), by decide, 64 - (j + 1), _, by omega, ⟨j + 1, by omega, rfl, rfl⟩, ?_⟩
        simp only [List.mem_cons, List.not_mem_nil, or_false, forall_eq_or_imp, forall_eq, Nat.reduceBEq, cond_true, cond_false, Option.some.injEq, Value.int.injEq, Value.long.injEq, Value.ref.injEq, true_and, and_true]
        rfl
    · simp only [pX4_ones, eX4_ones, rx_n, rx_s, rx_to, rx_get, rx_f1, rx_f2, rx_two, rx_ext, rx_any, rx_hV, rx_hS, rx_hG, rx_hP, rx_hAi, rx_hAb, rx_hBb, rx_hBi, rx_hBp, rx_hL, rx_hLi, rx_got, rx_pop, rx_sum, rx_len, rx_c, rx_m1, lv_args, Value.category, rx_cut_n, rx_cut_m0, rx_cut_m1, rx_iconst, rx_bipush, rx_sipush, rx_lconst, rx_iload_n, rx_iload, rx_lload_n, rx_lload, rx_aload_n, rx_aload, rx_istore_n, rx_istore, rx_lstore_n, rx_lstore, rx_astore_n, rx_astore, rx_iinc, rx_iadd, rx_isub, rx_imul, rx_iand, rx_ixor, rx_ishr, rx_idiv, rx_irem, rx_ladd, rx_lsub, rx_land, rx_lor, rx_lxor, rx_lmul, rx_ldiv, rx_lrem, rx_lushr, rx_lshl, rx_lshr, rx_lneg, rx_i2l, rx_l2i, rx_i2b, rx_lcmp, rx_dup_i, rx_dup_a, rx_pop_i, rx_pop_a, rx_if_eq, rx_if_ne, rx_if_lt, rx_if_ge, rx_if_gt, rx_if_le, rx_icmp_eq, rx_icmp_ne, rx_icmp_lt, rx_icmp_ge, rx_icmp_gt, rx_icmp_le, rx_goto, rx_tsw, rx_ireturn, rx_lreturn, rx_return_, rx_getfield, rx_putfield, rx_invokevirtual, rx_invokespecial, rx_invokestatic, rx_ldc, rx_ldc2_w, rx_iaload, rx_iastore, rx_baload, rx_bastore, Nat.reduceBEq, Nat.reduceAdd, Nat.reduceSub, Nat.reduceMul, Nat.reduceLeDiff, Nat.reduceEqDiff, Nat.reduceLT, Int.reduceLT, Int.reduceLE, Int.reduceNeg, Int.reduceToNat, Int.reduceAdd, Fin.isValue, Fin.val_zero, Fin.val_one, Fin.reduceFinMk, Fin.val_ofNat, Bool.or_true, Bool.true_or, Bool.or_false, Bool.false_or, Bool.and_true, Bool.true_and, Bool.and_false, Bool.false_and, cond_true, cond_false, ↓reduceIte, eq_self, ne_eq, not_true_eq_false, not_false_eq_true, true_and, and_true, Option.toList_some, Option.toList_none, List.cons_append, List.nil_append, Option.some.injEq, Value.int.injEq, Value.long.injEq, rx_l0, rx_l1, rx_fv0, rx_fv1, rx_fv2, rx_fv3, nI_c1, nI_c2, nI_c4, nI_c8, nI_c9, nI_c24, nI_c64, Nat.le_refl, bI_z, bI_0, bI_1, Classical.not_not, lg_cmp_ge, lg_cmp_le, lg_cmp_gt, lg_cmp_lt, lg_cmp_eq]
      refine ⟨64, _, by omega, ⟨0, by omega, rfl, rfl⟩, ?_⟩
      simp only [List.mem_cons, List.not_mem_nil, or_false, forall_eq_or_imp, forall_eq, Nat.reduceBEq, cond_true, cond_false, Option.some.injEq, Value.int.injEq, Value.long.injEq, Value.ref.injEq, true_and, and_true]
      rfl
  · cases hf
def pX4_sameRest : rx_P := [(0, .aload_n 0, 0), (1, .iload_n 1, 0), (2, .invokevirtual 40, 0), (5, .ifCond .ne 5, 10), (8, .iconst 1, 0), (9, .ireturn, 0), (10, .iconst 0, 0), (11, .istore 4, 0), (13, .iload 4, 0), (15, .bipush 64, 0), (17, .if_icmp .ge 80, 97), (20, .aload_n 0, 0), (21, .getfield 7, 0), (24, .iload_n 1, 0), (25, .iload 4, 0), (27, .bipush 8, 0), (29, .idiv, 0), (30, .iadd, 0), (31, .iaload, 0), (32, .iload 4, 0), (34, .bipush 8, 0), (36, .irem, 0), (37, .ishr, 0), (38, .iconst 1, 0), (39, .iand, 0), (40, .iconst 1, 0), (41, .if_icmp .ne 5, 46), (44, .iconst 1, 0), (45, .ireturn, 0), (46, .aload_n 0, 0), (47, .getfield 7, 0), (50, .iload_n 2, 0), (51, .iload 4, 0), (53, .bipush 8, 0), (55, .idiv, 0), (56, .iadd, 0), (57, .iaload, 0), (58, .iload 4, 0), (60, .bipush 8, 0), (62, .irem, 0), (63, .ishr, 0), (64, .iconst 1, 0), (65, .iand, 0), (66, .aload_n 0, 0), (67, .getfield 7, 0), (70, .iload_n 3, 0), (71, .iload 4, 0), (73, .bipush 8, 0), (75, .idiv, 0), (76, .iadd, 0), (77, .iaload, 0), (78, .iload 4, 0), (80, .bipush 8, 0), (82, .irem, 0), (83, .ishr, 0), (84, .iconst 1, 0), (85, .iand, 0), (86, .if_icmp .eq 5, 91), (89, .iconst 0, 0), (90, .ireturn, 0), (91, .iinc 4 1, 0), (94, .goto (-81), 13), (97, .iconst 1, 0), (98, .ireturn, 0)]
theorem pX4_sameRest_ok : ∀ q ∈ pX4_sameRest, rx_ok cX4_sameRest q := rx_ok_all (by decide +kernel)
abbrev rX4_sameRest : Room := { frames := 1, cells := 0, slots := 0, locals := 23 }
noncomputable def fX4_sameRest : rx_F mS := fun w as => match as with
  | [.int x, .int y, .int z] => some (vp_in x 633 ∧ vp_in y 633 ∧ vp_in z 633 ∧ pw (bl w.1 x.toNatClampNeg 8), w, some (.int (bI (bl w.1 x.toNatClampNeg 8 = 0 ∨ bl w.1 y.toNatClampNeg 8 % bl w.1 x.toNatClampNeg 8 = bl w.1 z.toNatClampNeg 8 % bl w.1 x.toNatClampNeg 8))))
  | _ => none
noncomputable def eX4_sameRest (am : Nat → Nat) : rx_E mS := rx_any [rx_hV 40 1 (am 0) fX4_ones, rx_hG 7 (am 0) (fun w => .ref (am 1)), rx_hAi (am 1) 640 (fun w k => nI (bg w.1 k))]
set_option maxHeartbeats 4000000 in
set_option maxRecDepth 100000 in
theorem eo_X4_sameRest (l : Launch) (D : va_G) (am : Nat → Nat) (cI cZ : ClassId) : ∀ (p : Program) (e : Env) (s : State) (m : MethodId) (args : Array Value) (below : List Frame) (meth : Method) (c : Code) (Qw : State → Prop), CallFix p m c cX4_sameRest 5 s args (Cond.code yX4_sameRest cX4_sameRest 5 (some .boolean) :: wsA) RX4 → mK D cI cZ s → rx_Eok (fun H locs g => W p l e rX4_sameRest s m args below meth c H locs 0 0 Qw g) m cX4_sameRest 5 (tr_I D vwCl (mA am) s (mW am cI cZ)) (eX4_sameRest am) := by
  intro p e s m args below meth c Qw S hK
  have ht : ∀ w ∈ wsA, w.before args s = true := fun w h => S.2.2.2.2 w (wsA_in h)
  exact rx_any_c (rx_hV_ok S ⟨Nat.zero_le _, Nat.zero_le _⟩ mK_tr hK (cwV 1 S.2.2.2.2 (wsA_V wkX4_40 wiX4_ones weX4_ones winiX4 wX4_ones) rfl rfl rfl (by decide +kernel) ⟨by decide, by decide⟩) (ct_X4_ones l D am cI cZ) (fun w H hP => va_recv hK.1 hP (rfl : vwCl[4]? = some (RX4, TX4, 7)) (rfl : (mW am cI cZ w)[0]? = some _))) (rx_any_c (rx_hG_ok (fun w H locs pc ls rest hI hd k => va_get (D := D) (ci := 4) (C := RX4) (T := TX4) (N := 7) S.1 S.2.1 ht inX4 S.2.2.2.1 hK.1 hI.1 0 rfl rfl 2 (by decide) (ht _ wfX4_7) (fun _ h9 => h9) rfl hd k)) (rx_any_c (rx_hAi_ok (fun w H locs pc ls rest x hI hin hd k => va_iald S.1 S.2.1 hK.1 hI.1 1 0 rfl rfl hin hd k)) (rx_any_0)))
set_option maxHeartbeats 4000000 in
set_option maxRecDepth 100000 in
theorem ct_X4_sameRest (l : Launch) (D : va_G) (am : Nat → Nat) (cI cZ : ClassId) : ctM l yX4_sameRest cX4_sameRest 5 (some .boolean) rX4_sameRest D am cI cZ [.ref (am 0)] fX4_sameRest := by
  intro w as g w1 r hf hg
  unfold fX4_sameRest at hf
  split at hf
  · next x y z =>
    cases hf
    obtain ⟨hg, hy, hz0, hp⟩ := hg
    obtain ⟨X, hX, rfl, -⟩ := vp_ex hg (by decide)
    obtain ⟨Y, hY, rfl, -⟩ := vp_ex hy (by decide)
    obtain ⟨Z, hZ, rfl, -⟩ := vp_ex hz0 (by decide)
    rw [nI_clamp (by omega)] at hp
    simp only [nI_clamp (show X < 2 ^ 31 by omega), nI_clamp (show Y < 2 ^ 31 by omega), nI_clamp (show Z < 2 ^ 31 by omega)]
    refine tr_of (rx_mc [(13, fun u w0 lv => w0 = w ∧ ¬ bl w.1 X 8 = 0 ∧ ∃ j, j ≤ 64 ∧ u = 64 - j ∧ (∀ k, k < j → ¬ bit w.1 X k = 1 ∧ bit w.1 Y k = bit w.1 Z k) ∧ lv = [(0, .ref (am 0)), (1, .int (nI X)), (2, .int (nI Y)), (3, .int (nI Z)), (4, .int (nI j))])]) 400 400 100000 (by decide) rfl rfl (Nat.le_of_ble_eq_true rfl) pX4_sameRest_ok (rt_z _) (eo_X4_sameRest l D am cI cZ) ?_ ?_
    · intro pc g0 hpc u w0 lv hinv
      have hh := rx_mc_of _ hpc
      clear hpc
      simp only [List.mem_cons, List.not_mem_nil, or_false, Prod.mk.injEq] at hh
      rcases hh with ⟨rfl, rfl⟩
      · obtain ⟨rfl, h0, j, hj, rfl, hz, rfl⟩ := hinv
        obtain ⟨m, hm⟩ := hp.resolve_left h0
        have hm64 : m < 64 := by
          have h8 := bl_q8 w0.1 X
          rw [hm] at h8
          exact (Nat.pow_lt_pow_iff_right (a := 2) (by decide)).mp (show 2 ^ m < 2 ^ 64 from h8)
        have hbit : ∀ k, k < 64 → (bit w0.1 X k = 1 ↔ k = m) := fun k hk => by rw [bit_eq _ _ _ hk, hm, pow_bit]
        have hlow : (∀ k, k < m → bit w0.1 Y k = bit w0.1 Z k) ↔ bl w0.1 Y 8 % bl w0.1 X 8 = bl w0.1 Z 8 % bl w0.1 X 8 := by
          rw [hm, ← low_eq]
          refine ⟨fun q k hk => ?_, fun q k hk => ?_⟩
          · rw [← bit_eq _ _ _ (by omega), ← bit_eq _ _ _ (by omega)]
            exact q k hk
          · rw [bit_eq _ _ _ (by omega), bit_eq _ _ _ (by omega)]
            exact q k hk
        simp only [pX4_sameRest, eX4_sameRest, fX4_ones, rx_n, rx_s, rx_to, rx_get, rx_f1, rx_f2, rx_two, rx_ext, rx_any, rx_hV, rx_hS, rx_hG, rx_hP, rx_hAi, rx_hAb, rx_hBb, rx_hBi, rx_hBp, rx_hL, rx_hLi, rx_got, rx_pop, rx_sum, rx_len, rx_c, rx_m1, lv_args, Value.category, rx_cut_n, rx_cut_m0, rx_cut_m1, rx_iconst, rx_bipush, rx_sipush, rx_lconst, rx_iload_n, rx_iload, rx_lload_n, rx_lload, rx_aload_n, rx_aload, rx_istore_n, rx_istore, rx_lstore_n, rx_lstore, rx_astore_n, rx_astore, rx_iinc, rx_iadd, rx_isub, rx_imul, rx_iand, rx_ixor, rx_ishr, rx_idiv, rx_irem, rx_ladd, rx_lsub, rx_land, rx_lor, rx_lxor, rx_lmul, rx_ldiv, rx_lrem, rx_lushr, rx_lshl, rx_lshr, rx_lneg, rx_i2l, rx_l2i, rx_i2b, rx_lcmp, rx_dup_i, rx_dup_a, rx_pop_i, rx_pop_a, rx_if_eq, rx_if_ne, rx_if_lt, rx_if_ge, rx_if_gt, rx_if_le, rx_icmp_eq, rx_icmp_ne, rx_icmp_lt, rx_icmp_ge, rx_icmp_gt, rx_icmp_le, rx_goto, rx_tsw, rx_ireturn, rx_lreturn, rx_return_, rx_getfield, rx_putfield, rx_invokevirtual, rx_invokespecial, rx_invokestatic, rx_ldc, rx_ldc2_w, rx_iaload, rx_iastore, rx_baload, rx_bastore, Nat.reduceBEq, Nat.reduceAdd, Nat.reduceSub, Nat.reduceMul, Nat.reduceLeDiff, Nat.reduceEqDiff, Nat.reduceLT, Int.reduceLT, Int.reduceLE, Int.reduceNeg, Int.reduceToNat, Int.reduceAdd, Fin.isValue, Fin.val_zero, Fin.val_one, Fin.reduceFinMk, Fin.val_ofNat, Bool.or_true, Bool.true_or, Bool.or_false, Bool.false_or, Bool.and_true, Bool.true_and, Bool.and_false, Bool.false_and, cond_true, cond_false, ↓reduceIte, eq_self, ne_eq, not_true_eq_false, not_false_eq_true, true_and, and_true, Option.toList_some, Option.toList_none, List.cons_append, List.nil_append, Option.some.injEq, Value.int.injEq, Value.long.injEq, rx_l0, rx_l1, rx_fv0, rx_fv1, rx_fv2, rx_fv3, nI_c1, nI_c2, nI_c4, nI_c8, nI_c9, nI_c24, nI_c64, Nat.le_refl, bI_z, bI_0, bI_1, Classical.not_not, lg_cmp_ge, lg_cmp_le, lg_cmp_gt, lg_cmp_lt, lg_cmp_eq]
        rw [nI_leI (by omega) (by omega)]
        refine ⟨fun h => ?_, fun h => ?_⟩
        · exact absurd ((hbit m hm64).mpr rfl) (hz m (by omega)).1
        have b1 := bit_01 w0.1 X j
        have b2 := bit_01 w0.1 Y j
        have b3 := bit_01 w0.1 Z j
        simp (disch := omega) only [pk_div, rem_8, nI_add, nI_clamp, bit_v]
        simp (disch := omega) only [nI_eq]
        refine ⟨by decide, vp_in_nI (by omega) (by decide), by decide, fun h2 => ⟨by decide, vp_in_nI (by omega) (by decide), by decide, by decide, vp_in_nI (by omega) (by decide), by decide, fun h3 => ?_, fun h3 => ?_⟩, fun h2 => ?_⟩
        · refine ⟨64 - (j + 1), _, by omega, ⟨h0, j + 1, by omega, rfl, lt_s hz ⟨h2, h3⟩, rfl⟩, ?_⟩
          simp only [List.mem_cons, List.not_mem_nil, or_false, forall_eq_or_imp, forall_eq, Nat.reduceBEq, cond_true, cond_false, Option.some.injEq, Value.int.injEq, Value.long.injEq, Value.ref.injEq, true_and, and_true]
        · rintro (q | q)
          · exact h0 q
          · have hjm : j < m := by
              by_cases c1 : j < m
              · exact c1
              · by_cases c2 : j = m
                · exact absurd ((hbit j (by omega)).mpr c2) h2
                · exact absurd ((hbit m hm64).mpr rfl) (hz m (by omega)).1
            exact h3 (hlow.mpr q j hjm)
        · have e := (hbit j (by omega)).mp h2
          subst e
          exact Or.inr (hlow.mp fun k hk => (hz k hk).2)
    · simp only [pX4_sameRest, eX4_sameRest, fX4_ones, rx_n, rx_s, rx_to, rx_get, rx_f1, rx_f2, rx_two, rx_ext, rx_any, rx_hV, rx_hS, rx_hG, rx_hP, rx_hAi, rx_hAb, rx_hBb, rx_hBi, rx_hBp, rx_hL, rx_hLi, rx_got, rx_pop, rx_sum, rx_len, rx_c, rx_m1, lv_args, Value.category, rx_cut_n, rx_cut_m0, rx_cut_m1, rx_iconst, rx_bipush, rx_sipush, rx_lconst, rx_iload_n, rx_iload, rx_lload_n, rx_lload, rx_aload_n, rx_aload, rx_istore_n, rx_istore, rx_lstore_n, rx_lstore, rx_astore_n, rx_astore, rx_iinc, rx_iadd, rx_isub, rx_imul, rx_iand, rx_ixor, rx_ishr, rx_idiv, rx_irem, rx_ladd, rx_lsub, rx_land, rx_lor, rx_lxor, rx_lmul, rx_ldiv, rx_lrem, rx_lushr, rx_lshl, rx_lshr, rx_lneg, rx_i2l, rx_l2i, rx_i2b, rx_lcmp, rx_dup_i, rx_dup_a, rx_pop_i, rx_pop_a, rx_if_eq, rx_if_ne, rx_if_lt, rx_if_ge, rx_if_gt, rx_if_le, rx_icmp_eq, rx_icmp_ne, rx_icmp_lt, rx_icmp_ge, rx_icmp_gt, rx_icmp_le, rx_goto, rx_tsw, rx_ireturn, rx_lreturn, rx_return_, rx_getfield, rx_putfield, rx_invokevirtual, rx_invokespecial, rx_invokestatic, rx_ldc, rx_ldc2_w, rx_iaload, rx_iastore, rx_baload, rx_bastore, Nat.reduceBEq, Nat.reduceAdd, Nat.reduceSub, Nat.reduceMul, Nat.reduceLeDiff, Nat.reduceEqDiff, Nat.reduceLT, Int.reduceLT, Int.reduceLE, Int.reduceNeg, Int.reduceToNat, Int.reduceAdd, Fin.isValue, Fin.val_zero, Fin.val_one, Fin.reduceFinMk, Fin.val_ofNat, Bool.or_true, Bool.true_or, Bool.or_false, Bool.false_or, Bool.and_true, Bool.true_and, Bool.and_false, Bool.false_and, cond_true, cond_false, ↓reduceIte, eq_self, ne_eq, not_true_eq_false, not_false_eq_true, true_and, and_true, Option.toList_some, Option.toList_none, List.cons_append, List.nil_append, Option.some.injEq, Value.int.injEq, Value.long.injEq, rx_l0, rx_l1, rx_fv0, rx_fv1, rx_fv2, rx_fv3, nI_c1, nI_c2, nI_c4, nI_c8, nI_c9, nI_c24, nI_c64, Nat.le_refl, bI_z, bI_0, bI_1, Classical.not_not, lg_cmp_ge, lg_cmp_le, lg_cmp_gt, lg_cmp_lt, lg_cmp_eq]
      have p1 := pcn_le w.1 X 64
      simp (disch := omega) only [nI_clamp, nI_z, pcn_0]
      exact ⟨hg, fun h => ⟨64, _, by omega, ⟨h, 0, by omega, rfl, lt_0, rfl⟩, by
        simp only [List.mem_cons, List.not_mem_nil, or_false, forall_eq_or_imp, forall_eq, Nat.reduceBEq, cond_true, cond_false, Option.some.injEq, Value.int.injEq, Value.long.injEq, Value.ref.injEq, true_and, and_true]⟩, fun h => Or.inl h⟩
  · cases hf
