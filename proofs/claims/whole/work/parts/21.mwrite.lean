def pX4_breaks : rx_P := [(0, .aload_n 0, 0), (1, .iload_n 1, 0), (2, .putfield 73, 0), (5, .aload_n 0, 0), (6, .iload_n 2, 0), (7, .putfield 17, 0), (10, .iconst 1, 0), (11, .ireturn, 0)]
theorem pX4_breaks_ok : ∀ q ∈ pX4_breaks, rx_ok cX4_breaks q := rx_ok_all (by decide +kernel)
abbrev rX4_breaks : Room := { frames := 0, cells := 0, slots := 0, locals := 0 }
noncomputable def fX4_breaks : rx_F mS := fun w as => match as with
  | [.int x, .int y] => some (True, mB w x y, some (.int (bI True)))
  | _ => none
noncomputable def eX4_breaks (am : Nat → Nat) : rx_E mS := rx_any [rx_hP 73 (am 0) (fun w v => match v with | .int z => some (True, (w.1, w.2.1, w.2.2.1, w.2.2.2.1, z, w.2.2.2.2.2)) | _ => none), rx_hP 17 (am 0) (fun w v => match v with | .int z => some (True, (w.1, w.2.1, w.2.2.1, w.2.2.2.1, w.2.2.2.2.1, z)) | _ => none)]
set_option maxHeartbeats 4000000 in
set_option maxRecDepth 100000 in
theorem eo_X4_breaks (l : Launch) (D : va_G) (am : Nat → Nat) (cI cZ : ClassId) (hj : mJ am) : ∀ (p : Program) (e : Env) (s : State) (m : MethodId) (args : Array Value) (below : List Frame) (meth : Method) (c : Code) (Qw : State → Prop), CallFix p m c cX4_breaks 3 s args (Cond.code yX4_breaks cX4_breaks 3 (some .boolean) :: wsA) RX4 → mK D cI cZ s → rx_Eok (fun H locs g => W p l e rX4_breaks s m args below meth c H locs 0 0 Qw g) m cX4_breaks 3 (tr_I D vwCl (mA am) s (mW am cI cZ)) (eX4_breaks am) := by
  intro p e s m args below meth c Qw S hK
  have ht : ∀ w ∈ wsA, w.before args s = true := fun w h => S.2.2.2.2 w (wsA_in h)
  exact rx_any_c (rx_hP_ok (fun w v g w1 H locs pc ls rest hfv hg hI hd kk => by
    cases v with
    | int z =>
      cases hfv
      exact va_put (D := D) (ci := 4) (ty := .int) (C := RX4) (T := TX4) (N := 7) S.1 S.2.1 ht inX4 tyX4 tyX4_ok nmX4 S.2.2.2.1 hK.1 hI.1 (mD hj cI cZ w) hI.2 0 rfl rfl 5 (by decide) (ht _ wfX4_73) (fun _ h9 => h9) rfl (by decide +kernel) rfl rfl (Nat.le_of_ble_eq_true rfl) hd (fun H1 locs1 hP _ hS => kk H1 locs1 ⟨hP, hS⟩)
    | _ => cases hfv)) (rx_any_c (rx_hP_ok (fun w v g w1 H locs pc ls rest hfv hg hI hd kk => by
    cases v with
    | int z =>
      cases hfv
      exact va_put (D := D) (ci := 4) (ty := .int) (C := RX4) (T := TX4) (N := 7) S.1 S.2.1 ht inX4 tyX4 tyX4_ok nmX4 S.2.2.2.1 hK.1 hI.1 (mD hj cI cZ w) hI.2 0 rfl rfl 6 (by decide) (ht _ wfX4_17) (fun _ h9 => h9) rfl (by decide +kernel) rfl rfl (Nat.le_of_ble_eq_true rfl) hd (fun H1 locs1 hP _ hS => kk H1 locs1 ⟨hP, hS⟩)
    | _ => cases hfv)) (rx_any_0))
set_option maxHeartbeats 4000000 in
set_option maxRecDepth 100000 in
theorem ct_X4_breaks (l : Launch) (D : va_G) (am : Nat → Nat) (cI cZ : ClassId) (hj : mJ am) : ctM l yX4_breaks cX4_breaks 3 (some .boolean) rX4_breaks D am cI cZ [.ref (am 0)] fX4_breaks := by
  intro w as g w1 r hf hg
  unfold fX4_breaks at hf
  split at hf
  · next x y =>
    cases hf
    exact tr_of rx_nc 0 200 0 (by decide) rfl rfl (Nat.le_of_ble_eq_true rfl) pX4_breaks_ok (rt_z _) (eo_X4_breaks l D am cI cZ hj) (fun pc g h => by cases h) (by
      simp only [pX4_breaks, eX4_breaks, rx_n, rx_s, rx_to, rx_get, rx_f1, rx_f2, rx_two, rx_ext, rx_any, rx_hV, rx_hS, rx_hG, rx_hP, rx_hAi, rx_hAb, rx_hBb, rx_hBi, rx_hBp, rx_hL, rx_hLi, rx_got, rx_pop, rx_sum, rx_len, rx_c, rx_m1, lv_args, Value.category, rx_cut_n, rx_cut_m0, rx_cut_m1, rx_iconst, rx_bipush, rx_sipush, rx_lconst, rx_iload_n, rx_iload, rx_lload_n, rx_lload, rx_aload_n, rx_aload, rx_istore_n, rx_istore, rx_lstore_n, rx_lstore, rx_astore_n, rx_astore, rx_iinc, rx_iadd, rx_isub, rx_imul, rx_iand, rx_ixor, rx_ishr, rx_idiv, rx_irem, rx_ladd, rx_lsub, rx_land, rx_lor, rx_lxor, rx_lmul, rx_ldiv, rx_lrem, rx_lushr, rx_lshl, rx_lshr, rx_lneg, rx_i2l, rx_l2i, rx_i2b, rx_lcmp, rx_dup_i, rx_dup_a, rx_pop_i, rx_pop_a, rx_if_eq, rx_if_ne, rx_if_lt, rx_if_ge, rx_if_gt, rx_if_le, rx_icmp_eq, rx_icmp_ne, rx_icmp_lt, rx_icmp_ge, rx_icmp_gt, rx_icmp_le, rx_goto, rx_tsw, rx_ireturn, rx_lreturn, rx_return_, rx_getfield, rx_putfield, rx_invokevirtual, rx_invokespecial, rx_invokestatic, rx_ldc, rx_ldc2_w, rx_iaload, rx_iastore, rx_baload, rx_bastore, Nat.reduceBEq, Nat.reduceAdd, Nat.reduceSub, Nat.reduceMul, Nat.reduceLeDiff, Nat.reduceEqDiff, Nat.reduceLT, Int.reduceLT, Int.reduceLE, Int.reduceNeg, Int.reduceToNat, Int.reduceAdd, Fin.isValue, Fin.val_zero, Fin.val_one, Fin.reduceFinMk, Fin.val_ofNat, Bool.or_true, Bool.true_or, Bool.or_false, Bool.false_or, Bool.and_true, Bool.true_and, Bool.and_false, Bool.false_and, cond_true, cond_false, ↓reduceIte, eq_self, ne_eq, not_true_eq_false, not_false_eq_true, true_and, and_true, Option.toList_some, Option.toList_none, List.cons_append, List.nil_append, Option.some.injEq, Value.int.injEq, Value.long.injEq, rx_l0, rx_l1, rx_fv0, rx_fv1, rx_fv2, rx_fv3, nI_c1, nI_c2, nI_c4, nI_c8, nI_c9, nI_c24, nI_c64, Nat.le_refl, bI_z, bI_0, bI_1, Classical.not_not, lg_cmp_ge, lg_cmp_le, lg_cmp_gt, lg_cmp_lt, lg_cmp_eq]
      rfl)
  · cases hf
def pX4_marked : rx_P := [(0, .iconst 0, 0), (1, .istore_n 3, 0), (2, .iload_n 1, 0), (3, .istore 4, 0), (5, .iload 4, 0), (7, .iload_n 1, 0), (8, .iload_n 2, 0), (9, .iadd, 0), (10, .if_icmp .ge 37, 47), (13, .iload_n 3, 0), (14, .ifCond .ne 13, 27), (17, .aload_n 0, 0), (18, .getfield 13, 0), (21, .iload 4, 0), (23, .baload, 0), (24, .ifCond .eq 7, 31), (27, .iconst 1, 0), (28, .goto 4, 32), (31, .iconst 0, 0), (32, .istore_n 3, 0), (33, .aload_n 0, 0), (34, .getfield 13, 0), (37, .iload 4, 0), (39, .iconst 1, 0), (40, .bastore, 0), (41, .iinc 4 1, 0), (44, .goto (-39), 5), (47, .iload_n 3, 0), (48, .ireturn, 0)]
theorem pX4_marked_ok : ∀ q ∈ pX4_marked, rx_ok cX4_marked q := rx_ok_all (by decide +kernel)
abbrev rX4_marked : Room := { frames := 0, cells := 0, slots := 0, locals := 0 }
noncomputable def fX4_marked : rx_F mS := fun w as => match as with
  | [.int x, .int k] => some (nI x.toNatClampNeg = x ∧ nI k.toNatClampNeg = k ∧ x.toNatClampNeg + k.toNatClampNeg ≤ 640, (w.1, w.2.1, tm w.2.2.1 x.toNatClampNeg k.toNatClampNeg, w.2.2.2), some (.int (bI (∃ i, x.toNatClampNeg ≤ i ∧ i < x.toNatClampNeg + k.toNatClampNeg ∧ ¬ w.2.2.1 i = 0))))
  | _ => none
noncomputable def eX4_marked (am : Nat → Nat) : rx_E mS := rx_any [rx_hG 13 (am 0) (fun w => .ref (am 2)), rx_hAb (am 2) 640 (fun w k => w.2.2.1 k), rx_hBb (am 2) 640 (fun w k v => (w.1, w.2.1, upd w.2.2.1 k (vp_nar .boolean v), w.2.2.2))]
set_option maxHeartbeats 4000000 in
set_option maxRecDepth 100000 in
theorem eo_X4_marked (l : Launch) (D : va_G) (am : Nat → Nat) (cI cZ : ClassId) (hj : mJ am) : ∀ (p : Program) (e : Env) (s : State) (m : MethodId) (args : Array Value) (below : List Frame) (meth : Method) (c : Code) (Qw : State → Prop), CallFix p m c cX4_marked 5 s args (Cond.code yX4_marked cX4_marked 5 (some .boolean) :: wsA) RX4 → mK D cI cZ s → rx_Eok (fun H locs g => W p l e rX4_marked s m args below meth c H locs 0 0 Qw g) m cX4_marked 5 (tr_I D vwCl (mA am) s (mW am cI cZ)) (eX4_marked am) := by
  intro p e s m args below meth c Qw S hK
  have ht : ∀ w ∈ wsA, w.before args s = true := fun w h => S.2.2.2.2 w (wsA_in h)
  exact rx_any_c (rx_hG_ok (fun w H locs pc ls rest hI hd k => va_get (D := D) (ci := 4) (C := RX4) (T := TX4) (N := 7) S.1 S.2.1 ht inX4 S.2.2.2.1 hK.1 hI.1 0 rfl rfl 3 (by decide) (ht _ wfX4_13) (fun _ h9 => h9) rfl hd k)) (rx_any_c (rx_hAb_ok (fun w H locs pc ls rest x hI hin hd k => va_zald S.1 S.2.1 hK.1 hI.1 2 1 rfl rfl hin hd k)) (rx_any_c (rx_hBb_ok (fun w H locs pc ls rest x v hI hin hd kk => va_zast S.1 S.2.1 hK.1 hI.1 (mD hj cI cZ w) hI.2 2 1 rfl rfl hin hd (fun H1 locs1 hP _ hS => kk H1 locs1 ⟨hP, hS⟩))) (rx_any_0)))
set_option maxHeartbeats 4000000 in
set_option maxRecDepth 100000 in
theorem ct_X4_marked (l : Launch) (D : va_G) (am : Nat → Nat) (cI cZ : ClassId) (hj : mJ am) : ctM l yX4_marked cX4_marked 5 (some .boolean) rX4_marked D am cI cZ [.ref (am 0)] fX4_marked := by
  intro w as g w1 r hf hg
  unfold fX4_marked at hf
  split at hf
  · next x k =>
    cases hf
    obtain ⟨hx, hk, hl⟩ := hg
    generalize x.toNatClampNeg = X at hx hl ⊢
    generalize k.toNatClampNeg = N at hk hl ⊢
    subst hx
    subst hk
    refine tr_of (rx_mc [(5, fun u w0 lv => ∃ j, j ≤ N ∧ u = N - j ∧ w0 = (w.1, w.2.1, tm w.2.2.1 X j, w.2.2.2) ∧ lv = [(0, .ref (am 0)), (1, .int (nI X)), (2, .int (nI N)), (3, .int (bI (∃ i, X ≤ i ∧ i < X + j ∧ ¬ w.2.2.1 i = 0))), (4, .int (nI (X + j)))])]) 400 400 100000 (by decide) rfl rfl (Nat.le_of_ble_eq_true rfl) pX4_marked_ok (rt_z _) (eo_X4_marked l D am cI cZ hj) ?_ ?_
    · intro pc g0 hpc u w0 lv hinv
      have hh := rx_mc_of _ hpc
      clear hpc
      simp only [List.mem_cons, List.not_mem_nil, or_false, Prod.mk.injEq] at hh
      rcases hh with ⟨rfl, rfl⟩
      · obtain ⟨j, hj, rfl, rfl, rfl⟩ := hinv
        simp only [pX4_marked, eX4_marked, rx_n, rx_s, rx_to, rx_get, rx_f1, rx_f2, rx_two, rx_ext, rx_any, rx_hV, rx_hS, rx_hG, rx_hP, rx_hAi, rx_hAb, rx_hBb, rx_hBi, rx_hBp, rx_hL, rx_hLi, rx_got, rx_pop, rx_sum, rx_len, rx_c, rx_m1, lv_args, Value.category, rx_cut_n, rx_cut_m0, rx_cut_m1, rx_iconst, rx_bipush, rx_sipush, rx_lconst, rx_iload_n, rx_iload, rx_lload_n, rx_lload, rx_aload_n, rx_aload, rx_istore_n, rx_istore, rx_lstore_n, rx_lstore, rx_astore_n, rx_astore, rx_iinc, rx_iadd, rx_isub, rx_imul, rx_iand, rx_ixor, rx_ishr, rx_idiv, rx_irem, rx_ladd, rx_lsub, rx_land, rx_lor, rx_lxor, rx_lmul, rx_ldiv, rx_lrem, rx_lushr, rx_lshl, rx_lshr, rx_lneg, rx_i2l, rx_l2i, rx_i2b, rx_lcmp, rx_dup_i, rx_dup_a, rx_pop_i, rx_pop_a, rx_if_eq, rx_if_ne, rx_if_lt, rx_if_ge, rx_if_gt, rx_if_le, rx_icmp_eq, rx_icmp_ne, rx_icmp_lt, rx_icmp_ge, rx_icmp_gt, rx_icmp_le, rx_goto, rx_tsw, rx_ireturn, rx_lreturn, rx_return_, rx_getfield, rx_putfield, rx_invokevirtual, rx_invokespecial, rx_invokestatic, rx_ldc, rx_ldc2_w, rx_iaload, rx_iastore, rx_baload, rx_bastore, Nat.reduceBEq, Nat.reduceAdd, Nat.reduceSub, Nat.reduceMul, Nat.reduceLeDiff, Nat.reduceEqDiff, Nat.reduceLT, Int.reduceLT, Int.reduceLE, Int.reduceNeg, Int.reduceToNat, Int.reduceAdd, Fin.isValue, Fin.val_zero, Fin.val_one, Fin.reduceFinMk, Fin.val_ofNat, Bool.or_true, Bool.true_or, Bool.or_false, Bool.false_or, Bool.and_true, Bool.true_and, Bool.and_false, Bool.false_and, cond_true, cond_false, ↓reduceIte, eq_self, ne_eq, not_true_eq_false, not_false_eq_true, true_and, and_true, Option.toList_some, Option.toList_none, List.cons_append, List.nil_append, Option.some.injEq, Value.int.injEq, Value.long.injEq, rx_l0, rx_l1, rx_fv0, rx_fv1, rx_fv2, rx_fv3, nI_c1, nI_c2, nI_c4, nI_c8, nI_c9, nI_c24, nI_c64, Nat.le_refl, bI_z, bI_0, bI_1, Classical.not_not, lg_cmp_ge, lg_cmp_le, lg_cmp_gt, lg_cmp_lt, lg_cmp_eq]
        simp (disch := omega) only [nI_add, nI_leI, nI_clamp]
        have e1 : tm w.2.2.1 X j (X + j) = w.2.2.1 (X + j) := if_neg (by omega)
        have e2 : upd (tm w.2.2.1 X j) (X + j) (vp_nar .boolean (nI 1)) = tm w.2.2.1 X (j + 1) := tm_s
        rw [e1, e2]
        refine ⟨fun h => ?_, fun h => ⟨fun a => ⟨vp_in_nI (by omega) (by decide), ?_⟩, fun a => ⟨vp_in_nI (by omega) (by decide), fun b => ⟨vp_in_nI (by omega) (by decide), ?_⟩, fun b => ⟨vp_in_nI (by omega) (by decide), ?_⟩⟩⟩⟩
        · have e : j = N := by omega
          rw [e]
          exact ⟨rfl, rfl⟩
        all_goals refine ⟨N - (j + 1), _, by omega, ⟨j + 1, by omega, rfl, rfl, rfl⟩, ?_⟩
        all_goals simp only [List.mem_cons, List.not_mem_nil, or_false, forall_eq_or_imp, forall_eq, Nat.reduceBEq, cond_true, cond_false, Option.some.injEq, Value.int.injEq, Value.long.injEq, Value.ref.injEq, true_and, and_true]
        · refine ⟨bI_1.mpr ?_, rfl⟩
          obtain ⟨i, a1, a2, a3⟩ := a
          exact ⟨i, a1, by omega, a3⟩
        · refine ⟨bI_0.mpr ?_, rfl⟩
          rintro ⟨i, a1, a2, a3⟩
          by_cases q : i = X + j
          · rw [q] at a3
            exact a3 b
          · exact a ⟨i, a1, by omega, a3⟩
        · exact ⟨bI_1.mpr ⟨X + j, by omega, by omega, b⟩, rfl⟩
    · simp only [pX4_marked, eX4_marked, rx_n, rx_s, rx_to, rx_get, rx_f1, rx_f2, rx_two, rx_ext, rx_any, rx_hV, rx_hS, rx_hG, rx_hP, rx_hAi, rx_hAb, rx_hBb, rx_hBi, rx_hBp, rx_hL, rx_hLi, rx_got, rx_pop, rx_sum, rx_len, rx_c, rx_m1, lv_args, Value.category, rx_cut_n, rx_cut_m0, rx_cut_m1, rx_iconst, rx_bipush, rx_sipush, rx_lconst, rx_iload_n, rx_iload, rx_lload_n, rx_lload, rx_aload_n, rx_aload, rx_istore_n, rx_istore, rx_lstore_n, rx_lstore, rx_astore_n, rx_astore, rx_iinc, rx_iadd, rx_isub, rx_imul, rx_iand, rx_ixor, rx_ishr, rx_idiv, rx_irem, rx_ladd, rx_lsub, rx_land, rx_lor, rx_lxor, rx_lmul, rx_ldiv, rx_lrem, rx_lushr, rx_lshl, rx_lshr, rx_lneg, rx_i2l, rx_l2i, rx_i2b, rx_lcmp, rx_dup_i, rx_dup_a, rx_pop_i, rx_pop_a, rx_if_eq, rx_if_ne, rx_if_lt, rx_if_ge, rx_if_gt, rx_if_le, rx_icmp_eq, rx_icmp_ne, rx_icmp_lt, rx_icmp_ge, rx_icmp_gt, rx_icmp_le, rx_goto, rx_tsw, rx_ireturn, rx_lreturn, rx_return_, rx_getfield, rx_putfield, rx_invokevirtual, rx_invokespecial, rx_invokestatic, rx_ldc, rx_ldc2_w, rx_iaload, rx_iastore, rx_baload, rx_bastore, Nat.reduceBEq, Nat.reduceAdd, Nat.reduceSub, Nat.reduceMul, Nat.reduceLeDiff, Nat.reduceEqDiff, Nat.reduceLT, Int.reduceLT, Int.reduceLE, Int.reduceNeg, Int.reduceToNat, Int.reduceAdd, Fin.isValue, Fin.val_zero, Fin.val_one, Fin.reduceFinMk, Fin.val_ofNat, Bool.or_true, Bool.true_or, Bool.or_false, Bool.false_or, Bool.and_true, Bool.true_and, Bool.and_false, Bool.false_and, cond_true, cond_false, ↓reduceIte, eq_self, ne_eq, not_true_eq_false, not_false_eq_true, true_and, and_true, Option.toList_some, Option.toList_none, List.cons_append, List.nil_append, Option.some.injEq, Value.int.injEq, Value.long.injEq, rx_l0, rx_l1, rx_fv0, rx_fv1, rx_fv2, rx_fv3, nI_c1, nI_c2, nI_c4, nI_c8, nI_c9, nI_c24, nI_c64, Nat.le_refl, bI_z, bI_0, bI_1, Classical.not_not, lg_cmp_ge, lg_cmp_le, lg_cmp_gt, lg_cmp_lt, lg_cmp_eq]
      refine ⟨N, _, by omega, ⟨0, by omega, rfl, ?_, rfl⟩, ?_⟩
      · rw [tm_0]
      · simp only [List.mem_cons, List.not_mem_nil, or_false, forall_eq_or_imp, forall_eq, Nat.reduceBEq, cond_true, cond_false, Option.some.injEq, Value.int.injEq, Value.long.injEq, Value.ref.injEq, true_and, and_true]
        exact ⟨bI_0.mpr (fun q => by obtain ⟨i, a, b, _⟩ := q; omega), rfl⟩
  · cases hf
def pX4_badHead : rx_P := [(0, .aload_n 0, 0), (1, .getfield 43, 0), (4, .bipush 64, 0), (6, .if_icmp .ge 10, 16), (9, .aload_n 0, 0), (10, .iconst 1, 0), (11, .iconst (-1), 0), (12, .invokevirtual 76, 0), (15, .ireturn, 0), (16, .iconst 0, 0), (17, .istore_n 1, 0), (18, .iload_n 1, 0), (19, .bipush 16, 0), (21, .if_icmp .ge 38, 59), (24, .aload_n 0, 0), (25, .getfield 7, 0), (28, .iload_n 1, 0), (29, .iaload, 0), (30, .iload_n 1, 0), (31, .invokestatic 80, 0), (34, .if_icmp .eq 19, 53), (37, .aload_n 0, 0), (38, .iload_n 1, 0), (39, .iconst 4, 0), (40, .if_icmp .ge 7, 47), (43, .iconst 2, 0), (44, .goto 4, 48), (47, .iconst 3, 0), (48, .iconst (-1), 0), (49, .invokevirtual 76, 0), (52, .ireturn, 0), (53, .iinc 1 1, 0), (56, .goto (-38), 18), (59, .aload_n 0, 0), (60, .bipush 16, 0), (62, .invokevirtual 24, 0), (65, .iconst 1, 0), (66, .if_icmp .lt 36, 102), (69, .aload_n 0, 0), (70, .bipush 16, 0), (72, .invokevirtual 24, 0), (75, .iconst 3, 0), (76, .if_icmp .gt 26, 102), (79, .aload_n 0, 0), (80, .bipush 18, 0), (82, .invokevirtual 24, 0), (85, .sipush 243, 0), (88, .if_icmp .ne 14, 102), (91, .aload_n 0, 0), (92, .bipush 20, 0), (94, .invokevirtual 30, 0), (97, .lconst 1, 0), (98, .lcmp, 0), (99, .ifCond .eq 10, 109), (102, .aload_n 0, 0), (103, .iconst 4, 0), (104, .iconst (-1), 0), (105, .invokevirtual 76, 0), (108, .ireturn, 0), (109, .aload_n 0, 0), (110, .bipush 52, 0), (112, .invokevirtual 24, 0), (115, .bipush 64, 0), (117, .if_icmp .ne 39, 156), (120, .aload_n 0, 0), (121, .invokevirtual 83, 0), (124, .ifCond .le 14, 138), (127, .aload_n 0, 0), (128, .bipush 54, 0), (130, .invokevirtual 24, 0), (133, .bipush 56, 0), (135, .if_icmp .ne 21, 156), (138, .aload_n 0, 0), (139, .invokevirtual 59, 0), (142, .ifCond .le 21, 163), (145, .aload_n 0, 0), (146, .bipush 58, 0), (148, .invokevirtual 24, 0), (151, .bipush 64, 0), (153, .if_icmp .eq 10, 163), (156, .aload_n 0, 0), (157, .iconst 5, 0), (158, .iconst (-1), 0), (159, .invokevirtual 76, 0), (162, .ireturn, 0), (163, .iconst 0, 0), (164, .ireturn, 0)]
theorem pX4_badHead_ok : ∀ q ∈ pX4_badHead, rx_ok cX4_badHead q := rx_ok_all (by decide +kernel)
abbrev rX4_badHead : Room := { frames := 2, cells := 0, slots := 0, locals := 42 }
noncomputable def fX4_badHead : rx_F mS := fun w as => match as with
  | [] => some (True, mU w (r5 w.1 = 0) (nI (r5 w.1)) (-1), some (.int (bI (¬ r5 w.1 = 0))))
  | _ => none
noncomputable def eX4_badHead (am : Nat → Nat) : rx_E mS := rx_any [rx_hG 43 (am 0) (fun w => .int (nI (bn w.1))), rx_hV 76 2 (am 0) fX4_breaks, rx_hG 7 (am 0) (fun w => .ref (am 1)), rx_hAi (am 1) 640 (fun w k => nI (bg w.1 k)), rx_hS 80 1 fX4_markOf, rx_hV 24 1 (am 0) fX4_two, rx_hV 30 1 (am 0) fX4_four, rx_hV 83 0 (am 0) fX4_segmentCount, rx_hV 59 0 (am 0) fX4_sectionCount]
set_option maxHeartbeats 4000000 in
set_option maxRecDepth 100000 in
theorem eo_X4_badHead (l : Launch) (D : va_G) (am : Nat → Nat) (cI cZ : ClassId) (hj : mJ am) : ∀ (p : Program) (e : Env) (s : State) (m : MethodId) (args : Array Value) (below : List Frame) (meth : Method) (c : Code) (Qw : State → Prop), CallFix p m c cX4_badHead 2 s args (Cond.code yX4_badHead cX4_badHead 2 (some .boolean) :: wsA) RX4 → mK D cI cZ s → rx_Eok (fun H locs g => W p l e rX4_badHead s m args below meth c H locs 0 0 Qw g) m cX4_badHead 2 (tr_I D vwCl (mA am) s (mW am cI cZ)) (eX4_badHead am) := by
  intro p e s m args below meth c Qw S hK
  have ht : ∀ w ∈ wsA, w.before args s = true := fun w h => S.2.2.2.2 w (wsA_in h)
  exact rx_any_c (rx_hG_ok (fun w H locs pc ls rest hI hd k => va_get (D := D) (ci := 4) (C := RX4) (T := TX4) (N := 7) S.1 S.2.1 ht inX4 S.2.2.2.1 hK.1 hI.1 0 rfl rfl 1 (by decide) (ht _ wfX4_43) (fun _ h9 => h9) rfl hd k)) (rx_any_c (rx_hV_ok S ⟨Nat.zero_le _, Nat.zero_le _⟩ mK_tr hK (cwV 2 S.2.2.2.2 (wsA_V wkX4_76 wiX4_breaks weX4_breaks winiX4 wX4_breaks) rfl rfl rfl (by decide +kernel) ⟨by decide, by decide⟩) (ct_X4_breaks l D am cI cZ hj) (fun w H hP => va_recv hK.1 hP (rfl : vwCl[4]? = some (RX4, TX4, 7)) (rfl : (mW am cI cZ w)[0]? = some _))) (rx_any_c (rx_hG_ok (fun w H locs pc ls rest hI hd k => va_get (D := D) (ci := 4) (C := RX4) (T := TX4) (N := 7) S.1 S.2.1 ht inX4 S.2.2.2.1 hK.1 hI.1 0 rfl rfl 2 (by decide) (ht _ wfX4_7) (fun _ h9 => h9) rfl hd k)) (rx_any_c (rx_hAi_ok (fun w H locs pc ls rest x hI hin hd k => va_iald S.1 S.2.1 hK.1 hI.1 1 0 rfl rfl hin hd k)) (rx_any_c (rx_hS_ok S ⟨Nat.zero_le _, Nat.zero_le _⟩ mK_tr hK (va_cwS 1 S.2.2.2.2 (wsA_S wkX4_80 wsX4_markOf winiX4 wX4_markOf) rfl rfl rfl (by decide +kernel) ⟨by decide, by decide⟩) (ct_X4_markOf l D am cI cZ)) (rx_any_c (rx_hV_ok S ⟨Nat.zero_le _, Nat.zero_le _⟩ mK_tr hK (cwV 1 S.2.2.2.2 (wsA_V wkX4_24 wiX4_two weX4_two winiX4 wX4_two) rfl rfl rfl (by decide +kernel) ⟨by decide, by decide⟩) (ct_X4_two l D am cI cZ) (fun w H hP => va_recv hK.1 hP (rfl : vwCl[4]? = some (RX4, TX4, 7)) (rfl : (mW am cI cZ w)[0]? = some _))) (rx_any_c (rx_hV_ok S ⟨Nat.zero_le _, Nat.zero_le _⟩ mK_tr hK (cwV 1 S.2.2.2.2 (wsA_V wkX4_30 wiX4_four weX4_four winiX4 wX4_four) rfl rfl rfl (by decide +kernel) ⟨by decide, by decide⟩) (ct_X4_four l D am cI cZ) (fun w H hP => va_recv hK.1 hP (rfl : vwCl[4]? = some (RX4, TX4, 7)) (rfl : (mW am cI cZ w)[0]? = some _))) (rx_any_c (rx_hV_ok S ⟨Nat.zero_le _, Nat.zero_le _⟩ mK_tr hK (cwV 0 S.2.2.2.2 (wsA_V wkX4_83 wiX4_segmentCount weX4_segmentCount winiX4 wX4_segmentCount) rfl rfl rfl (by decide +kernel) ⟨by decide, by decide⟩) (ct_X4_segmentCount l D am cI cZ) (fun w H hP => va_recv hK.1 hP (rfl : vwCl[4]? = some (RX4, TX4, 7)) (rfl : (mW am cI cZ w)[0]? = some _))) (rx_any_c (rx_hV_ok S ⟨Nat.zero_le _, Nat.zero_le _⟩ mK_tr hK (cwV 0 S.2.2.2.2 (wsA_V wkX4_59 wiX4_sectionCount weX4_sectionCount winiX4 wX4_sectionCount) rfl rfl rfl (by decide +kernel) ⟨by decide, by decide⟩) (ct_X4_sectionCount l D am cI cZ) (fun w H hP => va_recv hK.1 hP (rfl : vwCl[4]? = some (RX4, TX4, 7)) (rfl : (mW am cI cZ w)[0]? = some _))) (rx_any_0)))))))))
set_option maxHeartbeats 4000000 in
set_option maxRecDepth 100000 in
theorem ct_X4_badHead (l : Launch) (D : va_G) (am : Nat → Nat) (cI cZ : ClassId) (hj : mJ am) : ctM l yX4_badHead cX4_badHead 2 (some .boolean) rX4_badHead D am cI cZ [.ref (am 0)] fX4_badHead := by
  intro w as g w1 r hf hg
  unfold fX4_badHead at hf
  split at hf
  · cases hf
    have hB := bn_le w.1
    refine tr_of (rx_mc [(18, fun u w0 lv => w0 = w ∧ ¬ bn w.1 < 64 ∧ ∃ j, j ≤ 16 ∧ u = 20 - j ∧ (∀ i, i < j → bg w.1 i = mkv i) ∧ lv = [(0, .ref (am 0)), (1, .int (nI j))]), (109, fun u w0 lv => w0 = w ∧ u = 1 ∧ ¬ bn w.1 < 64 ∧ q2 w.1 ∧ q3 w.1 ∧ q4 w.1 ∧ lv = [(0, .ref (am 0))])]) 400 400 100000 (by decide) rfl rfl (Nat.le_of_ble_eq_true rfl) pX4_badHead_ok (rt_z _) (eo_X4_badHead l D am cI cZ hj) ?_ ?_
    · intro pc g0 hpc u w0 lv hinv
      have hh := rx_mc_of _ hpc
      clear hpc
      simp only [List.mem_cons, List.not_mem_nil, or_false, Prod.mk.injEq] at hh
      rcases hh with ⟨rfl, rfl⟩ | ⟨rfl, rfl⟩
      · obtain ⟨rfl, h0, j, hj, rfl, hz, rfl⟩ := hinv
        have b1 := bg_lt w0.1 j
        have b2 := mkv_lt j
        have d1 := bl_q2 w0.1 16
        have d2 := bl_q2 w0.1 18
        have d3 := bl_q4 w0.1 20
        simp only [pX4_badHead, eX4_badHead, fX4_breaks, fX4_four, fX4_markOf, fX4_sectionCount, fX4_segmentCount, fX4_two, rx_n, rx_s, rx_to, rx_get, rx_f1, rx_f2, rx_two, rx_ext, rx_any, rx_hV, rx_hS, rx_hG, rx_hP, rx_hAi, rx_hAb, rx_hBb, rx_hBi, rx_hBp, rx_hL, rx_hLi, rx_got, rx_pop, rx_sum, rx_len, rx_c, rx_m1, lv_args, Value.category, rx_cut_n, rx_cut_m0, rx_cut_m1, rx_iconst, rx_bipush, rx_sipush, rx_lconst, rx_iload_n, rx_iload, rx_lload_n, rx_lload, rx_aload_n, rx_aload, rx_istore_n, rx_istore, rx_lstore_n, rx_lstore, rx_astore_n, rx_astore, rx_iinc, rx_iadd, rx_isub, rx_imul, rx_iand, rx_ixor, rx_ishr, rx_idiv, rx_irem, rx_ladd, rx_lsub, rx_land, rx_lor, rx_lxor, rx_lmul, rx_ldiv, rx_lrem, rx_lushr, rx_lshl, rx_lshr, rx_lneg, rx_i2l, rx_l2i, rx_i2b, rx_lcmp, rx_dup_i, rx_dup_a, rx_pop_i, rx_pop_a, rx_if_eq, rx_if_ne, rx_if_lt, rx_if_ge, rx_if_gt, rx_if_le, rx_icmp_eq, rx_icmp_ne, rx_icmp_lt, rx_icmp_ge, rx_icmp_gt, rx_icmp_le, rx_goto, rx_tsw, rx_ireturn, rx_lreturn, rx_return_, rx_getfield, rx_putfield, rx_invokevirtual, rx_invokespecial, rx_invokestatic, rx_ldc, rx_ldc2_w, rx_iaload, rx_iastore, rx_baload, rx_bastore, Nat.reduceBEq, Nat.reduceAdd, Nat.reduceSub, Nat.reduceMul, Nat.reduceLeDiff, Nat.reduceEqDiff, Nat.reduceLT, Int.reduceLT, Int.reduceLE, Int.reduceNeg, Int.reduceToNat, Int.reduceAdd, Fin.isValue, Fin.val_zero, Fin.val_one, Fin.reduceFinMk, Fin.val_ofNat, Bool.or_true, Bool.true_or, Bool.or_false, Bool.false_or, Bool.and_true, Bool.true_and, Bool.and_false, Bool.false_and, cond_true, cond_false, ↓reduceIte, eq_self, ne_eq, not_true_eq_false, not_false_eq_true, true_and, and_true, Option.toList_some, Option.toList_none, List.cons_append, List.nil_append, Option.some.injEq, Value.int.injEq, Value.long.injEq, rx_l0, rx_l1, rx_fv0, rx_fv1, rx_fv2, rx_fv3, nI_c1, nI_c2, nI_c4, nI_c8, nI_c9, nI_c24, nI_c64, Nat.le_refl, bI_z, bI_0, bI_1, Classical.not_not, lg_cmp_ge, lg_cmp_le, lg_cmp_gt, lg_cmp_lt, lg_cmp_eq]
        simp (disch := omega) only [nI_clamp, nI_leI, nI_ltI, nI_eq, pk_lEQ]
        refine ⟨fun h => ?_, fun h => ⟨vp_in_nI (by omega) (by decide), ⟨trivial, by omega⟩, fun a => ?_, fun a => ⟨fun b => ?_, fun b => ?_⟩⟩⟩
        · have k2 : q2 w0.1 := (q2_iff _).mpr fun i hi => hz i (by omega)
          have k3 : q3 w0.1 := (q3_iff _).mpr fun i hi hl => hz i (by omega)
          have e : ¬ q4 w0.1 → r5 w0.1 = 4 := fun q => by unfold r5; rw [if_neg h0, if_pos k2, if_pos k3, if_neg q]
          refine ⟨vp_in_nI (by omega) (by decide), fun a => r5_leaf (e fun q => by have := q.1; omega) (by decide), fun a => ⟨vp_in_nI (by omega) (by decide), fun b => r5_leaf (e fun q => by have := q.2.1; omega) (by decide), fun b => ⟨vp_in_nI (by omega) (by decide), fun c => r5_leaf (e fun q => c q.2.2.1) (by decide), fun c => ⟨vp_in_nI (by omega) (by decide), fun d => ?_, fun d => r5_leaf (e fun q => d q.2.2.2) (by decide)⟩⟩⟩⟩
          refine ⟨1, _, by omega, ⟨rfl, h0, k2, k3, ⟨by omega, by omega, c, d⟩, rfl⟩, ?_⟩
          simp only [List.mem_cons, List.not_mem_nil, or_false, forall_eq_or_imp, forall_eq, Nat.reduceBEq, cond_true, cond_false, Option.some.injEq, Value.int.injEq, Value.long.injEq, Value.ref.injEq, true_and, and_true]
        · refine ⟨20 - (j + 1), _, by omega, ⟨h0, j + 1, by omega, rfl, lt_s hz a, rfl⟩, ?_⟩
          simp only [List.mem_cons, List.not_mem_nil, or_false, forall_eq_or_imp, forall_eq, Nat.reduceBEq, cond_true, cond_false, Option.some.injEq, Value.int.injEq, Value.long.injEq, Value.ref.injEq, true_and, and_true]
          exact nI_add j 1
        · have k2 : q2 w0.1 := (q2_iff _).mpr fun i hi => hz i (by omega)
          have k3 : ¬ q3 w0.1 := fun q => a ((q3_iff _).mp q j b (by omega))
          exact r5_leaf (r := 3) (by unfold r5; rw [if_neg h0, if_pos k2, if_neg k3]) (by decide)
        · have k2 : ¬ q2 w0.1 := fun q => a ((q2_iff _).mp q j (by omega))
          exact r5_leaf (r := 2) (by unfold r5; rw [if_neg h0, if_neg k2]) (by decide)
      · obtain ⟨rfl, rfl, h0, k2, k3, k4, rfl⟩ := hinv
        have c1 := gC_lt w0.1
        have c2 := sC_lt w0.1
        have d4 := bl_q2 w0.1 52
        have d5 := bl_q2 w0.1 54
        have d6 := bl_q2 w0.1 58
        simp only [pX4_badHead, eX4_badHead, fX4_breaks, fX4_four, fX4_markOf, fX4_sectionCount, fX4_segmentCount, fX4_two, rx_n, rx_s, rx_to, rx_get, rx_f1, rx_f2, rx_two, rx_ext, rx_any, rx_hV, rx_hS, rx_hG, rx_hP, rx_hAi, rx_hAb, rx_hBb, rx_hBi, rx_hBp, rx_hL, rx_hLi, rx_got, rx_pop, rx_sum, rx_len, rx_c, rx_m1, lv_args, Value.category, rx_cut_n, rx_cut_m0, rx_cut_m1, rx_iconst, rx_bipush, rx_sipush, rx_lconst, rx_iload_n, rx_iload, rx_lload_n, rx_lload, rx_aload_n, rx_aload, rx_istore_n, rx_istore, rx_lstore_n, rx_lstore, rx_astore_n, rx_astore, rx_iinc, rx_iadd, rx_isub, rx_imul, rx_iand, rx_ixor, rx_ishr, rx_idiv, rx_irem, rx_ladd, rx_lsub, rx_land, rx_lor, rx_lxor, rx_lmul, rx_ldiv, rx_lrem, rx_lushr, rx_lshl, rx_lshr, rx_lneg, rx_i2l, rx_l2i, rx_i2b, rx_lcmp, rx_dup_i, rx_dup_a, rx_pop_i, rx_pop_a, rx_if_eq, rx_if_ne, rx_if_lt, rx_if_ge, rx_if_gt, rx_if_le, rx_icmp_eq, rx_icmp_ne, rx_icmp_lt, rx_icmp_ge, rx_icmp_gt, rx_icmp_le, rx_goto, rx_tsw, rx_ireturn, rx_lreturn, rx_return_, rx_getfield, rx_putfield, rx_invokevirtual, rx_invokespecial, rx_invokestatic, rx_ldc, rx_ldc2_w, rx_iaload, rx_iastore, rx_baload, rx_bastore, Nat.reduceBEq, Nat.reduceAdd, Nat.reduceSub, Nat.reduceMul, Nat.reduceLeDiff, Nat.reduceEqDiff, Nat.reduceLT, Int.reduceLT, Int.reduceLE, Int.reduceNeg, Int.reduceToNat, Int.reduceAdd, Fin.isValue, Fin.val_zero, Fin.val_one, Fin.reduceFinMk, Fin.val_ofNat, Bool.or_true, Bool.true_or, Bool.or_false, Bool.false_or, Bool.and_true, Bool.true_and, Bool.and_false, Bool.false_and, cond_true, cond_false, ↓reduceIte, eq_self, ne_eq, not_true_eq_false, not_false_eq_true, true_and, and_true, Option.toList_some, Option.toList_none, List.cons_append, List.nil_append, Option.some.injEq, Value.int.injEq, Value.long.injEq, rx_l0, rx_l1, rx_fv0, rx_fv1, rx_fv2, rx_fv3, nI_c1, nI_c2, nI_c4, nI_c8, nI_c9, nI_c24, nI_c64, Nat.le_refl, bI_z, bI_0, bI_1, Classical.not_not, lg_cmp_ge, lg_cmp_le, lg_cmp_gt, lg_cmp_lt, lg_cmp_eq]
        simp (disch := omega) only [nI_clamp, nI_eq, nI_le0]
        have bad : ¬ q5 w0.1 → mB w0 (nI 5) (-1) = mU w0 (r5 w0.1 = 0) (nI (r5 w0.1)) (-1) ∧ bI True = bI (¬ r5 w0.1 = 0) := fun q => r5_leaf (r := 5) (by unfold r5; rw [if_neg h0, if_pos k2, if_pos k3, if_pos k4, if_neg q]) (by decide)
        have good : q5 w0.1 → w0 = mU w0 (r5 w0.1 = 0) (nI (r5 w0.1)) (-1) ∧ ¬ ¬ r5 w0.1 = 0 := fun q => by
          have e : r5 w0.1 = 0 := by unfold r5; rw [if_neg h0, if_pos k2, if_pos k3, if_pos k4, if_pos q]
          exact ⟨(mU_ok e).symm, fun z => z e⟩
        simp only [Classical.not_not] at good
        refine ⟨vp_in_nI (by omega) (by decide), fun a => bad (fun q => a q.1), fun a => ⟨fun b => ⟨fun c => good ⟨a, Or.inl b, Or.inl c⟩, fun c => ⟨vp_in_nI (by omega) (by decide), fun d => good ⟨a, Or.inl b, Or.inr d⟩, fun d => bad (fun q => q.2.2.elim c d)⟩⟩, fun b => ⟨vp_in_nI (by omega) (by decide), fun c => bad (fun q => q.2.1.elim b c), fun c => ⟨fun d => good ⟨a, Or.inr c, Or.inl d⟩, fun d => ⟨vp_in_nI (by omega) (by decide), fun e => good ⟨a, Or.inr c, Or.inr e⟩, fun e => bad (fun q => q.2.2.elim d e)⟩⟩⟩⟩⟩
    · simp only [pX4_badHead, eX4_badHead, fX4_breaks, fX4_four, fX4_markOf, fX4_sectionCount, fX4_segmentCount, fX4_two, rx_n, rx_s, rx_to, rx_get, rx_f1, rx_f2, rx_two, rx_ext, rx_any, rx_hV, rx_hS, rx_hG, rx_hP, rx_hAi, rx_hAb, rx_hBb, rx_hBi, rx_hBp, rx_hL, rx_hLi, rx_got, rx_pop, rx_sum, rx_len, rx_c, rx_m1, lv_args, Value.category, rx_cut_n, rx_cut_m0, rx_cut_m1, rx_iconst, rx_bipush, rx_sipush, rx_lconst, rx_iload_n, rx_iload, rx_lload_n, rx_lload, rx_aload_n, rx_aload, rx_istore_n, rx_istore, rx_lstore_n, rx_lstore, rx_astore_n, rx_astore, rx_iinc, rx_iadd, rx_isub, rx_imul, rx_iand, rx_ixor, rx_ishr, rx_idiv, rx_irem, rx_ladd, rx_lsub, rx_land, rx_lor, rx_lxor, rx_lmul, rx_ldiv, rx_lrem, rx_lushr, rx_lshl, rx_lshr, rx_lneg, rx_i2l, rx_l2i, rx_i2b, rx_lcmp, rx_dup_i, rx_dup_a, rx_pop_i, rx_pop_a, rx_if_eq, rx_if_ne, rx_if_lt, rx_if_ge, rx_if_gt, rx_if_le, rx_icmp_eq, rx_icmp_ne, rx_icmp_lt, rx_icmp_ge, rx_icmp_gt, rx_icmp_le, rx_goto, rx_tsw, rx_ireturn, rx_lreturn, rx_return_, rx_getfield, rx_putfield, rx_invokevirtual, rx_invokespecial, rx_invokestatic, rx_ldc, rx_ldc2_w, rx_iaload, rx_iastore, rx_baload, rx_bastore, Nat.reduceBEq, Nat.reduceAdd, Nat.reduceSub, Nat.reduceMul, Nat.reduceLeDiff, Nat.reduceEqDiff, Nat.reduceLT, Int.reduceLT, Int.reduceLE, Int.reduceNeg, Int.reduceToNat, Int.reduceAdd, Fin.isValue, Fin.val_zero, Fin.val_one, Fin.reduceFinMk, Fin.val_ofNat, Bool.or_true, Bool.true_or, Bool.or_false, Bool.false_or, Bool.and_true, Bool.true_and, Bool.and_false, Bool.false_and, cond_true, cond_false, ↓reduceIte, eq_self, ne_eq, not_true_eq_false, not_false_eq_true, true_and, and_true, Option.toList_some, Option.toList_none, List.cons_append, List.nil_append, Option.some.injEq, Value.int.injEq, Value.long.injEq, rx_l0, rx_l1, rx_fv0, rx_fv1, rx_fv2, rx_fv3, nI_c1, nI_c2, nI_c4, nI_c8, nI_c9, nI_c24, nI_c64, Nat.le_refl, bI_z, bI_0, bI_1, Classical.not_not, lg_cmp_ge, lg_cmp_le, lg_cmp_gt, lg_cmp_lt, lg_cmp_eq]
      simp (disch := omega) only [nI_leI]
      refine ⟨fun h => ?_, fun h => ?_⟩
      · refine ⟨20, _, by omega, ⟨by omega, 0, by omega, rfl, lt_0, rfl⟩, ?_⟩
        simp only [List.mem_cons, List.not_mem_nil, or_false, forall_eq_or_imp, forall_eq, Nat.reduceBEq, cond_true, cond_false, Option.some.injEq, Value.int.injEq, Value.long.injEq, Value.ref.injEq, true_and, and_true]
      · exact r5_leaf (r := 1) (if_pos (by omega)) (by decide)
  · cases hf
def pX4_badTable : rx_P := [(0, .iload_n 2, 0), (1, .ifCond .ne 5, 6), (4, .iconst 0, 0), (5, .ireturn, 0), (6, .aload_n 0, 0), (7, .getfield 7, 0), (10, .iload_n 1, 0), (11, .iaload, 0), (12, .bipush 8, 0), (14, .irem, 0), (15, .ifCond .ne 36, 51), (18, .aload_n 0, 0), (19, .iload_n 1, 0), (20, .aload_n 0, 0), (21, .getfield 43, 0), (24, .i2l, 0), (25, .invokevirtual 46, 0), (28, .ifCond .eq 23, 51), (31, .aload_n 0, 0), (32, .iload_n 1, 0), (33, .invokevirtual 30, 0), (36, .iload_n 2, 0), (37, .i2l, 0), (38, .iload_n 3, 0), (39, .i2l, 0), (40, .lmul, 0), (41, .ladd, 0), (42, .aload_n 0, 0), (43, .getfield 43, 0), (46, .i2l, 0), (47, .lcmp, 0), (48, .ifCond .le 5, 53), (51, .iconst 1, 0), (52, .ireturn, 0), (53, .aload_n 0, 0), (54, .aload_n 0, 0), (55, .iload_n 1, 0), (56, .invokevirtual 30, 0), (59, .l2i, 0), (60, .iload_n 2, 0), (61, .iload_n 3, 0), (62, .imul, 0), (63, .invokevirtual 86, 0), (66, .ireturn, 0)]
theorem pX4_badTable_ok : ∀ q ∈ pX4_badTable, rx_ok cX4_badTable q := rx_ok_all (by decide +kernel)
abbrev rX4_badTable : Room := { frames := 3, cells := 0, slots := 0, locals := 65 }
noncomputable def fX4_badTable : rx_F mS := fun w as => match as with
  | [.int x, .int k, .int z] => some (nI x.toNatClampNeg = x ∧ x.toNatClampNeg ≤ 632 ∧ nI k.toNatClampNeg = k ∧ k.toNatClampNeg < 65536 ∧ nI z.toNatClampNeg = z ∧ z.toNatClampNeg ≤ 64 ∧ 0 < z.toNatClampNeg, (w.1, w.2.1, tT w.1 w.2.2.1 x.toNatClampNeg k.toNatClampNeg z.toNatClampNeg, w.2.2.2), some (.int (bI (¬ k.toNatClampNeg = 0 ∧ (¬ tI w.1 x.toNatClampNeg (k.toNatClampNeg * z.toNatClampNeg) ∨ ∃ i, bl w.1 x.toNatClampNeg 8 ≤ i ∧ i < bl w.1 x.toNatClampNeg 8 + k.toNatClampNeg * z.toNatClampNeg ∧ ¬ w.2.2.1 i = 0)))))
  | _ => none
noncomputable def eX4_badTable (am : Nat → Nat) : rx_E mS := rx_any [rx_hG 7 (am 0) (fun w => .ref (am 1)), rx_hAi (am 1) 640 (fun w k => nI (bg w.1 k)), rx_hG 43 (am 0) (fun w => .int (nI (bn w.1))), rx_hV 46 2 (am 0) fX4_atMost, rx_hV 30 1 (am 0) fX4_four, rx_hV 86 2 (am 0) fX4_marked]
set_option maxHeartbeats 4000000 in
set_option maxRecDepth 100000 in
theorem eo_X4_badTable (l : Launch) (D : va_G) (am : Nat → Nat) (cI cZ : ClassId) (hj : mJ am) : ∀ (p : Program) (e : Env) (s : State) (m : MethodId) (args : Array Value) (below : List Frame) (meth : Method) (c : Code) (Qw : State → Prop), CallFix p m c cX4_badTable 4 s args (Cond.code yX4_badTable cX4_badTable 4 (some .boolean) :: wsA) RX4 → mK D cI cZ s → rx_Eok (fun H locs g => W p l e rX4_badTable s m args below meth c H locs 0 0 Qw g) m cX4_badTable 4 (tr_I D vwCl (mA am) s (mW am cI cZ)) (eX4_badTable am) := by
  intro p e s m args below meth c Qw S hK
  have ht : ∀ w ∈ wsA, w.before args s = true := fun w h => S.2.2.2.2 w (wsA_in h)
  exact rx_any_c (rx_hG_ok (fun w H locs pc ls rest hI hd k => va_get (D := D) (ci := 4) (C := RX4) (T := TX4) (N := 7) S.1 S.2.1 ht inX4 S.2.2.2.1 hK.1 hI.1 0 rfl rfl 2 (by decide) (ht _ wfX4_7) (fun _ h9 => h9) rfl hd k)) (rx_any_c (rx_hAi_ok (fun w H locs pc ls rest x hI hin hd k => va_iald S.1 S.2.1 hK.1 hI.1 1 0 rfl rfl hin hd k)) (rx_any_c (rx_hG_ok (fun w H locs pc ls rest hI hd k => va_get (D := D) (ci := 4) (C := RX4) (T := TX4) (N := 7) S.1 S.2.1 ht inX4 S.2.2.2.1 hK.1 hI.1 0 rfl rfl 1 (by decide) (ht _ wfX4_43) (fun _ h9 => h9) rfl hd k)) (rx_any_c (rx_hV_ok S ⟨Nat.zero_le _, Nat.zero_le _⟩ mK_tr hK (cwV 2 S.2.2.2.2 (wsA_V wkX4_46 wiX4_atMost weX4_atMost winiX4 wX4_atMost) rfl rfl rfl (by decide +kernel) ⟨by decide, by decide⟩) (ct_X4_atMost l D am cI cZ) (fun w H hP => va_recv hK.1 hP (rfl : vwCl[4]? = some (RX4, TX4, 7)) (rfl : (mW am cI cZ w)[0]? = some _))) (rx_any_c (rx_hV_ok S ⟨Nat.zero_le _, Nat.zero_le _⟩ mK_tr hK (cwV 1 S.2.2.2.2 (wsA_V wkX4_30 wiX4_four weX4_four winiX4 wX4_four) rfl rfl rfl (by decide +kernel) ⟨by decide, by decide⟩) (ct_X4_four l D am cI cZ) (fun w H hP => va_recv hK.1 hP (rfl : vwCl[4]? = some (RX4, TX4, 7)) (rfl : (mW am cI cZ w)[0]? = some _))) (rx_any_c (rx_hV_ok S ⟨Nat.zero_le _, Nat.zero_le _⟩ mK_tr hK (cwV 2 S.2.2.2.2 (wsA_V wkX4_86 wiX4_marked weX4_marked winiX4 wX4_marked) rfl rfl rfl (by decide +kernel) ⟨by decide, by decide⟩) (ct_X4_marked l D am cI cZ hj) (fun w H hP => va_recv hK.1 hP (rfl : vwCl[4]? = some (RX4, TX4, 7)) (rfl : (mW am cI cZ w)[0]? = some _))) (rx_any_0))))))
set_option maxHeartbeats 4000000 in
set_option maxRecDepth 100000 in
theorem ct_X4_badTable (l : Launch) (D : va_G) (am : Nat → Nat) (cI cZ : ClassId) (hj : mJ am) : ctM l yX4_badTable cX4_badTable 4 (some .boolean) rX4_badTable D am cI cZ [.ref (am 0)] fX4_badTable := by
  intro w as g w1 r hf hg
  unfold fX4_badTable at hf
  split at hf
  · next x k z =>
    cases hf
    exact tr_of rx_nc 0 200 0 (by decide) rfl rfl (Nat.le_of_ble_eq_true rfl) pX4_badTable_ok (rt_z _) (eo_X4_badTable l D am cI cZ hj) (fun pc g h => by cases h) (by
      simp only [pX4_badTable, eX4_badTable, fX4_atMost, fX4_four, fX4_marked, rx_n, rx_s, rx_to, rx_get, rx_f1, rx_f2, rx_two, rx_ext, rx_any, rx_hV, rx_hS, rx_hG, rx_hP, rx_hAi, rx_hAb, rx_hBb, rx_hBi, rx_hBp, rx_hL, rx_hLi, rx_got, rx_pop, rx_sum, rx_len, rx_c, rx_m1, lv_args, Value.category, rx_cut_n, rx_cut_m0, rx_cut_m1, rx_iconst, rx_bipush, rx_sipush, rx_lconst, rx_iload_n, rx_iload, rx_lload_n, rx_lload, rx_aload_n, rx_aload, rx_istore_n, rx_istore, rx_lstore_n, rx_lstore, rx_astore_n, rx_astore, rx_iinc, rx_iadd, rx_isub, rx_imul, rx_iand, rx_ixor, rx_ishr, rx_idiv, rx_irem, rx_ladd, rx_lsub, rx_land, rx_lor, rx_lxor, rx_lmul, rx_ldiv, rx_lrem, rx_lushr, rx_lshl, rx_lshr, rx_lneg, rx_i2l, rx_l2i, rx_i2b, rx_lcmp, rx_dup_i, rx_dup_a, rx_pop_i, rx_pop_a, rx_if_eq, rx_if_ne, rx_if_lt, rx_if_ge, rx_if_gt, rx_if_le, rx_icmp_eq, rx_icmp_ne, rx_icmp_lt, rx_icmp_ge, rx_icmp_gt, rx_icmp_le, rx_goto, rx_tsw, rx_ireturn, rx_lreturn, rx_return_, rx_getfield, rx_putfield, rx_invokevirtual, rx_invokespecial, rx_invokestatic, rx_ldc, rx_ldc2_w, rx_iaload, rx_iastore, rx_baload, rx_bastore, Nat.reduceBEq, Nat.reduceAdd, Nat.reduceSub, Nat.reduceMul, Nat.reduceLeDiff, Nat.reduceEqDiff, Nat.reduceLT, Int.reduceLT, Int.reduceLE, Int.reduceNeg, Int.reduceToNat, Int.reduceAdd, Fin.isValue, Fin.val_zero, Fin.val_one, Fin.reduceFinMk, Fin.val_ofNat, Bool.or_true, Bool.true_or, Bool.or_false, Bool.false_or, Bool.and_true, Bool.true_and, Bool.and_false, Bool.false_and, cond_true, cond_false, ↓reduceIte, eq_self, ne_eq, not_true_eq_false, not_false_eq_true, true_and, and_true, Option.toList_some, Option.toList_none, List.cons_append, List.nil_append, Option.some.injEq, Value.int.injEq, Value.long.injEq, rx_l0, rx_l1, rx_fv0, rx_fv1, rx_fv2, rx_fv3, nI_c1, nI_c2, nI_c4, nI_c8, nI_c9, nI_c24, nI_c64, Nat.le_refl, bI_z, bI_0, bI_1, Classical.not_not, lg_cmp_ge, lg_cmp_le, lg_cmp_gt, lg_cmp_lt, lg_cmp_eq]
      obtain ⟨hx, hxl, hk, hkl, hz, hzl, hz0⟩ := hg
      generalize x.toNatClampNeg = X at hx hxl ⊢
      generalize k.toNatClampNeg = C at hk hkl ⊢
      generalize z.toNatClampNeg = Z at hz hzl hz0 ⊢
      subst hx
      subst hk
      subst hz
      have hB := bn_le w.1
      have b1 := bg_lt w.1 X
      have p4 := bl_q4 w.1 X
      have p8 := bl_8 w.1 X
      have pp : C * Z ≤ 65536 * 64 := Nat.mul_le_mul (by omega) hzl
      have em : bl w.1 X 8 % 8 = bg w.1 X % 8 := by
        have := bl_2 w.1 X
        have := bl_4 w.1 X
        omega
      simp (disch := omega) only [nI_z, nI_clamp, pk_rem, bn_l, uN_bn, nI_l, lN_mul, lN_add, pk_lLE, lN_i, pk_mul]
      have lf : ¬ C = 0 → ¬ tI w.1 X (C * Z) → (w = (w.1, w.2.1, tT w.1 w.2.2.1 X C Z, w.2.2.2) ∧ ¬ C = 0 ∧ (¬ tI w.1 X (C * Z) ∨ ∃ i, bl w.1 X 8 ≤ i ∧ i < bl w.1 X 8 + C * Z ∧ ¬ w.2.2.1 i = 0)) := fun h0 q => ⟨by unfold tT; rw [if_neg (fun z => q z.2)], h0, Or.inl q⟩
      refine ⟨fun h0 => ⟨vp_in_nI (by omega) (by decide), by decide, fun a => lf h0 (fun z => a (by rw [← em]; exact z.1)), fun a => ⟨⟨vp_in_nI (by omega) (by decide), by omega⟩, fun b => lf h0 (fun z => by have := z.2; omega), fun b => ⟨vp_in_nI (by omega) (by decide), ?_⟩⟩⟩, fun h0 => ⟨?_, fun q => q.1 h0⟩⟩
      · have e4 : bl w.1 X 4 = bl w.1 X 8 := by omega
        refine ⟨fun c => ?_, fun c => lf h0 (fun z => by have := z.2; omega)⟩
        simp (disch := omega) only [nI_clamp]
        rw [e4]
        have ti : tI w.1 X (C * Z) := ⟨by omega, by omega⟩
        refine ⟨vp_in_nI (by omega) (by decide), ⟨trivial, trivial, by omega⟩, by unfold tT; rw [if_pos ⟨h0, ti⟩], bI_iff ⟨fun q => ⟨h0, Or.inr q⟩, fun q => q.2.resolve_left (fun z => z ti)⟩⟩
      · unfold tT
        rw [if_neg (fun z => z.1 h0)])
  · cases hf
