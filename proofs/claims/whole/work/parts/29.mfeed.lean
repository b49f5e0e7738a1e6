def pX4_spoil : rx_P := [(0, .aload_n 0, 0), (1, .iload_n 1, 0), (2, .aload_n 0, 0), (3, .getfield 43, 0), (6, .i2l, 0), (7, .invokestatic 169, 0), (10, .ifCond .eq 7, 17), (13, .iconst 1, 0), (14, .goto 4, 18), (17, .iconst 0, 0), (18, .putfield 21, 0), (21, .aload_n 0, 0), (22, .getfield 21, 0), (25, .ifCond .le 4, 29), (28, .return_, 0), (29, .aload_n 0, 0), (30, .getfield 7, 0), (33, .iload_n 1, 0), (34, .aload_n 0, 0), (35, .getfield 7, 0), (38, .iload_n 1, 0), (39, .iaload, 0), (40, .iload_n 2, 0), (41, .sipush 255, 0), (44, .iand, 0), (45, .ixor, 0), (46, .iastore, 0), (47, .aload_n 0, 0), (48, .iconst 0, 0), (49, .putfield 140, 0), (52, .return_, 0)]
theorem pX4_spoil_ok : ∀ q ∈ pX4_spoil, rx_ok cX4_spoil q := rx_ok_all (by decide +kernel)
abbrev rX4_spoil : Room := { frames := 1, cells := 0, slots := 0, locals := 22 }
noncomputable def fX4_spoil : rx_F mS := fun w as => match as with
  | [.int k, .int v] => some (True, cif (vp_in k (bn w.1)) (bPut w.1 k.toNatClampNeg (bg w.1 k.toNatClampNeg ^^^ (v.toBitVec.toNat % 256)), nI 0, w.2.2.1, nI 0, w.2.2.2.2) (w.1, nI 1, w.2.2), none)
  | _ => none
noncomputable def eX4_spoil (am : Nat → Nat) : rx_E mS := rx_any [rx_hG 43 (am 0) (fun w => .int (nI (bn w.1))), rx_hS 169 2 fX4_out, rx_hP 21 (am 0) (fun w v => match v with | .int z => some (True, (w.1, z, w.2.2)) | _ => none), rx_hG 21 (am 0) (fun w => .int w.2.1), rx_hG 7 (am 0) (fun w => .ref (am 1)), rx_hAi (am 1) 640 (fun w k => nI (bg w.1 k)), rx_hBp (am 1) 640 (fun _ _ v => ∃ m, m < 256 ∧ v = nI m) (fun w k v => (bPut w.1 k v.toNatClampNeg, w.2)), rx_hP 140 (am 0) (fun w v => match v with | .int z => some (narrow .boolean (.int z) = .int z ∧ fits .boolean (.int z) = true, (w.1, w.2.1, w.2.2.1, z, w.2.2.2.2)) | _ => none)]
set_option maxHeartbeats 4000000 in
set_option maxRecDepth 100000 in
theorem eo_X4_spoil (l : Launch) (D : va_G) (am : Nat → Nat) (cI cZ : ClassId) (hj : mJ am) : ∀ (p : Program) (e : Env) (s : State) (m : MethodId) (args : Array Value) (below : List Frame) (meth : Method) (c : Code) (Qw : State → Prop), CallFix p m c cX4_spoil 3 s args (Cond.code yX4_spoil cX4_spoil 3 none :: wsA) RX4 → mK D cI cZ s → rx_Eok (fun H locs g => W p l e rX4_spoil s m args below meth c H locs 0 0 Qw g) m cX4_spoil 3 (tr_I D vwCl (mA am) s (mW am cI cZ)) (eX4_spoil am) := by
  intro p e s m args below meth c Qw S hK
  have ht : ∀ w ∈ wsA, w.before args s = true := fun w h => S.2.2.2.2 w (wsA_in h)
  exact rx_any_c (rx_hG_ok (fun w H locs pc ls rest hI hd k => va_get (D := D) (ci := 4) (C := RX4) (T := TX4) (N := 7) S.1 S.2.1 ht inX4 S.2.2.2.1 hK.1 hI.1 0 rfl rfl 1 (by decide) (ht _ wfX4_43) (fun _ h9 => h9) rfl hd k)) (rx_any_c (rx_hS_ok S ⟨Nat.zero_le _, Nat.zero_le _⟩ mK_tr hK (va_cwS 2 S.2.2.2.2 (wsA_S wkX4_169 wsX4_out winiX4 wX4_out) rfl rfl rfl (by decide +kernel) ⟨by decide, by decide⟩) (ct_X4_out l D am cI cZ)) (rx_any_c (rx_hP_ok (fun w v g w1 H locs pc ls rest hfv hg hI hd kk => by
    cases v with
    | int z =>
      cases hfv
      exact va_put (D := D) (ci := 4) (ty := .int) (C := RX4) (T := TX4) (N := 7) S.1 S.2.1 ht inX4 tyX4 tyX4_ok nmX4 S.2.2.2.1 hK.1 hI.1 (mD hj cI cZ w) hI.2 0 rfl rfl 0 (by decide) (ht _ wfX4_21) (fun _ h9 => h9) rfl (by decide +kernel) rfl rfl (Nat.le_of_ble_eq_true rfl) hd (fun H1 locs1 hP _ hS => kk H1 locs1 ⟨hP, hS⟩)
    | _ => cases hfv)) (rx_any_c (rx_hG_ok (fun w H locs pc ls rest hI hd k => va_get (D := D) (ci := 4) (C := RX4) (T := TX4) (N := 7) S.1 S.2.1 ht inX4 S.2.2.2.1 hK.1 hI.1 0 rfl rfl 0 (by decide) (ht _ wfX4_21) (fun _ h9 => h9) rfl hd k)) (rx_any_c (rx_hG_ok (fun w H locs pc ls rest hI hd k => va_get (D := D) (ci := 4) (C := RX4) (T := TX4) (N := 7) S.1 S.2.1 ht inX4 S.2.2.2.1 hK.1 hI.1 0 rfl rfl 2 (by decide) (ht _ wfX4_7) (fun _ h9 => h9) rfl hd k)) (rx_any_c (rx_hAi_ok (fun w H locs pc ls rest x hI hin hd k => va_iald S.1 S.2.1 hK.1 hI.1 1 0 rfl rfl hin hd k)) (rx_any_c (rx_hBp_ok (fun w H locs pc ls rest x v hI hin hp hd kk => va_iast S.1 S.2.1 hK.1 hI.1 (mD hj cI cZ w) hI.2 1 0 rfl rfl hin hd (fun H1 locs1 hP _ hS => kk H1 locs1 ⟨by rw [mW_bp hp]; exact hP, hS⟩))) (rx_any_c (rx_hP_ok (fun w v g w1 H locs pc ls rest hfv hg hI hd kk => by
    cases v with
    | int z =>
      cases hfv
      exact va_put (D := D) (ci := 4) (ty := .boolean) (C := RX4) (T := TX4) (N := 7) S.1 S.2.1 ht inX4 tyX4 tyX4_ok nmX4 S.2.2.2.1 hK.1 hI.1 (mD hj cI cZ w) hI.2 0 rfl rfl 4 (by decide) (ht _ wfX4_140) (fun _ h9 => h9) rfl (by decide +kernel) hg.1 hg.2 (Nat.le_of_ble_eq_true rfl) hd (fun H1 locs1 hP _ hS => kk H1 locs1 ⟨hP, hS⟩)
    | _ => cases hfv)) (rx_any_0))))))))
set_option maxHeartbeats 4000000 in
set_option maxRecDepth 100000 in
theorem ct_X4_spoil (l : Launch) (D : va_G) (am : Nat → Nat) (cI cZ : ClassId) (hj : mJ am) : ctM l yX4_spoil cX4_spoil 3 none rX4_spoil D am cI cZ [.ref (am 0)] fX4_spoil := by
  intro w as g w1 r hf hg
  unfold fX4_spoil at hf
  split at hf
  · next k v =>
    cases hf
    have hB := bn_le w.1
    refine tr_of (rx_mc [(21, fun u w0 lv => u = 1 ∧ w0 = (w.1, nI (cif (vp_in k (bn w.1)) 0 1), w.2.2) ∧ lv = [(0, .ref (am 0)), (1, .int k), (2, .int v)])]) 400 400 100000 (by decide) rfl rfl (Nat.le_of_ble_eq_true rfl) pX4_spoil_ok (rt_v) (eo_X4_spoil l D am cI cZ hj) ?_ ?_
    · intro pc g0 hpc u w0 lv hinv
      have hh := rx_mc_of _ hpc
      clear hpc
      simp only [List.mem_cons, List.not_mem_nil, or_false, Prod.mk.injEq] at hh
      rcases hh with ⟨rfl, rfl⟩
      · obtain ⟨rfl, rfl, rfl⟩ := hinv
        simp only [pX4_spoil, eX4_spoil, fX4_out, rx_n, rx_s, rx_to, rx_get, rx_f1, rx_f2, rx_two, rx_ext, rx_any, rx_hV, rx_hS, rx_hG, rx_hP, rx_hAi, rx_hAb, rx_hBb, rx_hBi, rx_hBp, rx_hL, rx_hLi, rx_got, rx_pop, rx_sum, rx_len, rx_c, rx_m1, lv_args, Value.category, rx_cut_n, rx_cut_m0, rx_cut_m1, rx_iconst, rx_bipush, rx_sipush, rx_lconst, rx_iload_n, rx_iload, rx_lload_n, rx_lload, rx_aload_n, rx_aload, rx_istore_n, rx_istore, rx_lstore_n, rx_lstore, rx_astore_n, rx_astore, rx_iinc, rx_iadd, rx_isub, rx_imul, rx_iand, rx_ixor, rx_ishr, rx_idiv, rx_irem, rx_ladd, rx_lsub, rx_land, rx_lor, rx_lxor, rx_lmul, rx_ldiv, rx_lrem, rx_lushr, rx_lshl, rx_lshr, rx_lneg, rx_i2l, rx_l2i, rx_i2b, rx_lcmp, rx_dup_i, rx_dup_a, rx_pop_i, rx_pop_a, rx_if_eq, rx_if_ne, rx_if_lt, rx_if_ge, rx_if_gt, rx_if_le, rx_icmp_eq, rx_icmp_ne, rx_icmp_lt, rx_icmp_ge, rx_icmp_gt, rx_icmp_le, rx_goto, rx_tsw, rx_ireturn, rx_lreturn, rx_return_, rx_getfield, rx_putfield, rx_invokevirtual, rx_invokespecial, rx_invokestatic, rx_ldc, rx_ldc2_w, rx_iaload, rx_iastore, rx_baload, rx_bastore, Nat.reduceBEq, Nat.reduceAdd, Nat.reduceSub, Nat.reduceMul, Nat.reduceLeDiff, Nat.reduceEqDiff, Nat.reduceLT, Int.reduceLT, Int.reduceLE, Int.reduceNeg, Int.reduceToNat, Int.reduceAdd, Fin.isValue, Fin.val_zero, Fin.val_one, Fin.reduceFinMk, Fin.val_ofNat, Bool.or_true, Bool.true_or, Bool.or_false, Bool.false_or, Bool.and_true, Bool.true_and, Bool.and_false, Bool.false_and, cond_true, cond_false, ↓reduceIte, eq_self, ne_eq, not_true_eq_false, not_false_eq_true, true_and, and_true, Option.toList_some, Option.toList_none, List.cons_append, List.nil_append, Option.some.injEq, Value.int.injEq, Value.long.injEq, rx_l0, rx_l1, rx_fv0, rx_fv1, rx_fv2, rx_fv3, nI_c1, nI_c2, nI_c4, nI_c8, nI_c9, nI_c24, nI_c64, Nat.le_refl, bI_z, bI_0, bI_1, Classical.not_not, lg_cmp_ge, lg_cmp_le, lg_cmp_gt, lg_cmp_lt, lg_cmp_eq]
        by_cases a : vp_in k (bn w.1)
        · obtain ⟨K, hK, rfl, ek⟩ := vp_ex a (by omega)
          have hb := bg_lt w.1 K
          have hx := xor_lt hb v.toBitVec.toNat
          rw [cif_t a, cif_t a]
          simp (disch := omega) only [nI_clamp, nI_xor]
          simp only [le10, le20, le30, le00, false_implies, true_implies, not_false_eq_true, not_true_eq_false, true_and, and_true, Classical.not_not]
          exact ⟨vp_in_nI (by omega) (by decide), ⟨vp_in_nI (by omega) (by decide), _, hx, rfl⟩, rfl, rfl⟩
        · rw [cif_f a, cif_f a]
          simp only [le10, le20, le30, le00, false_implies, true_implies, not_false_eq_true, not_true_eq_false, true_and, and_true, Classical.not_not]
    · simp only [pX4_spoil, eX4_spoil, fX4_out, rx_n, rx_s, rx_to, rx_get, rx_f1, rx_f2, rx_two, rx_ext, rx_any, rx_hV, rx_hS, rx_hG, rx_hP, rx_hAi, rx_hAb, rx_hBb, rx_hBi, rx_hBp, rx_hL, rx_hLi, rx_got, rx_pop, rx_sum, rx_len, rx_c, rx_m1, lv_args, Value.category, rx_cut_n, rx_cut_m0, rx_cut_m1, rx_iconst, rx_bipush, rx_sipush, rx_lconst, rx_iload_n, rx_iload, rx_lload_n, rx_lload, rx_aload_n, rx_aload, rx_istore_n, rx_istore, rx_lstore_n, rx_lstore, rx_astore_n, rx_astore, rx_iinc, rx_iadd, rx_isub, rx_imul, rx_iand, rx_ixor, rx_ishr, rx_idiv, rx_irem, rx_ladd, rx_lsub, rx_land, rx_lor, rx_lxor, rx_lmul, rx_ldiv, rx_lrem, rx_lushr, rx_lshl, rx_lshr, rx_lneg, rx_i2l, rx_l2i, rx_i2b, rx_lcmp, rx_dup_i, rx_dup_a, rx_pop_i, rx_pop_a, rx_if_eq, rx_if_ne, rx_if_lt, rx_if_ge, rx_if_gt, rx_if_le, rx_icmp_eq, rx_icmp_ne, rx_icmp_lt, rx_icmp_ge, rx_icmp_gt, rx_icmp_le, rx_goto, rx_tsw, rx_ireturn, rx_lreturn, rx_return_, rx_getfield, rx_putfield, rx_invokevirtual, rx_invokespecial, rx_invokestatic, rx_ldc, rx_ldc2_w, rx_iaload, rx_iastore, rx_baload, rx_bastore, Nat.reduceBEq, Nat.reduceAdd, Nat.reduceSub, Nat.reduceMul, Nat.reduceLeDiff, Nat.reduceEqDiff, Nat.reduceLT, Int.reduceLT, Int.reduceLE, Int.reduceNeg, Int.reduceToNat, Int.reduceAdd, Fin.isValue, Fin.val_zero, Fin.val_one, Fin.reduceFinMk, Fin.val_ofNat, Bool.or_true, Bool.true_or, Bool.or_false, Bool.false_or, Bool.and_true, Bool.true_and, Bool.and_false, Bool.false_and, cond_true, cond_false, ↓reduceIte, eq_self, ne_eq, not_true_eq_false, not_false_eq_true, true_and, and_true, Option.toList_some, Option.toList_none, List.cons_append, List.nil_append, Option.some.injEq, Value.int.injEq, Value.long.injEq, rx_l0, rx_l1, rx_fv0, rx_fv1, rx_fv2, rx_fv3, nI_c1, nI_c2, nI_c4, nI_c8, nI_c9, nI_c24, nI_c64, Nat.le_refl, bI_z, bI_0, bI_1, Classical.not_not, lg_cmp_ge, lg_cmp_le, lg_cmp_gt, lg_cmp_lt, lg_cmp_eq]
      simp (disch := omega) only [bn_l, out_iff]
      refine ⟨fun a => ?_, fun a => ?_⟩
      · have a := Classical.not_not.mp a
        refine ⟨1, _, by omega, ⟨rfl, by rw [cif_t a], rfl⟩, ?_⟩
        simp only [List.mem_cons, List.not_mem_nil, or_false, forall_eq_or_imp, forall_eq, Nat.reduceBEq, cond_true, cond_false, Option.some.injEq, Value.int.injEq, Value.long.injEq, Value.ref.injEq, true_and, and_true]
      · refine ⟨1, _, by omega, ⟨rfl, by rw [cif_f a], rfl⟩, ?_⟩
        simp only [List.mem_cons, List.not_mem_nil, or_false, forall_eq_or_imp, forall_eq, Nat.reduceBEq, cond_true, cond_false, Option.some.injEq, Value.int.injEq, Value.long.injEq, Value.ref.injEq, true_and, and_true]
  · cases hf
def pX4_feed : rx_P := [(0, .aload_n 0, 0), (1, .iload_n 3, 0), (2, .iconst 1, 0), (3, .if_icmp .lt 9, 12), (6, .iload_n 3, 0), (7, .bipush 8, 0), (9, .if_icmp .le 7, 16), (12, .iconst 1, 0), (13, .goto 20, 33), (16, .aload_n 0, 0), (17, .getfield 43, 0), (20, .iload_n 3, 0), (21, .iadd, 0), (22, .sipush 640, 0), (25, .if_icmp .le 7, 32), (28, .iconst 2, 0), (29, .goto 4, 33), (32, .iconst 0, 0), (33, .putfield 21, 0), (36, .aload_n 0, 0), (37, .getfield 21, 0), (40, .ifCond .le 5, 45), (43, .iconst 0, 0), (44, .ireturn, 0), (45, .iload_n 3, 0), (46, .iconst 1, 0), (47, .isub, 0), (48, .istore 4, 0), (50, .iload 4, 0), (52, .ifCond .lt 40, 92), (55, .aload_n 0, 0), (56, .getfield 7, 0), (59, .aload_n 0, 0), (60, .getfield 43, 0), (63, .lload_n 1, 0), (64, .bipush 8, 0), (66, .iload 4, 0), (68, .imul, 0), (69, .lshr, 0), (70, .ldc2_w 167, 0), (73, .land, 0), (74, .l2i, 0), (75, .iastore, 0), (76, .aload_n 0, 0), (77, .dup, 0), (78, .getfield 43, 0), (81, .iconst 1, 0), (82, .iadd, 0), (83, .putfield 43, 0), (86, .iinc 4 (-1), 0), (89, .goto (-39), 50), (92, .aload_n 0, 0), (93, .iconst 0, 0), (94, .putfield 140, 0), (97, .aload_n 0, 0), (98, .getfield 43, 0), (101, .ireturn, 0)]
theorem pX4_feed_ok : ∀ q ∈ pX4_feed, rx_ok cX4_feed q := rx_ok_all (by decide +kernel)
abbrev rX4_feed : Room := { frames := 0, cells := 0, slots := 0, locals := 0 }
noncomputable def fX4_feed : rx_F mS := fun w as => match as with
  | [.long x, .int z] => some (True, cif (cFeed w.1 z = 0) (fd w.1 (uN x) z.toNatClampNeg, nI 0, w.2.2.1, nI 0, w.2.2.2.2) (w.1, nI (cFeed w.1 z), w.2.2), some (.int (cif (cFeed w.1 z = 0) (nI (bn w.1 + z.toNatClampNeg)) (nI 0))))
  | _ => none
noncomputable def eX4_feed (am : Nat → Nat) : rx_E mS := rx_any [rx_hG 43 (am 0) (fun w => .int (nI (bn w.1))), rx_hP 21 (am 0) (fun w v => match v with | .int z => some (True, (w.1, z, w.2.2)) | _ => none), rx_hG 21 (am 0) (fun w => .int w.2.1), rx_hG 7 (am 0) (fun w => .ref (am 1)), rx_hL 167 (lN 255), rx_hBp (am 1) 640 (fun _ _ v => ∃ m, m < 256 ∧ v = nI m) (fun w k v => (bPut w.1 k v.toNatClampNeg, w.2)), rx_hP 43 (am 0) (fun w v => match v with | .int z => some (z.toNatClampNeg ≤ 640 ∧ nI z.toNatClampNeg = z, (bSz w.1 z.toNatClampNeg, w.2)) | _ => none), rx_hP 140 (am 0) (fun w v => match v with | .int z => some (narrow .boolean (.int z) = .int z ∧ fits .boolean (.int z) = true, (w.1, w.2.1, w.2.2.1, z, w.2.2.2.2)) | _ => none)]
set_option maxHeartbeats 4000000 in
set_option maxRecDepth 100000 in
theorem eo_X4_feed (l : Launch) (D : va_G) (am : Nat → Nat) (cI cZ : ClassId) (hj : mJ am) : ∀ (p : Program) (e : Env) (s : State) (m : MethodId) (args : Array Value) (below : List Frame) (meth : Method) (c : Code) (Qw : State → Prop), CallFix p m c cX4_feed 5 s args (Cond.code yX4_feed cX4_feed 5 (some .int) :: wsA) RX4 → mK D cI cZ s → rx_Eok (fun H locs g => W p l e rX4_feed s m args below meth c H locs 0 0 Qw g) m cX4_feed 5 (tr_I D vwCl (mA am) s (mW am cI cZ)) (eX4_feed am) := by
  intro p e s m args below meth c Qw S hK
  have ht : ∀ w ∈ wsA, w.before args s = true := fun w h => S.2.2.2.2 w (wsA_in h)
  exact rx_any_c (rx_hG_ok (fun w H locs pc ls rest hI hd k => va_get (D := D) (ci := 4) (C := RX4) (T := TX4) (N := 7) S.1 S.2.1 ht inX4 S.2.2.2.1 hK.1 hI.1 0 rfl rfl 1 (by decide) (ht _ wfX4_43) (fun _ h9 => h9) rfl hd k)) (rx_any_c (rx_hP_ok (fun w v g w1 H locs pc ls rest hfv hg hI hd kk => by
    cases v with
    | int z =>
      cases hfv
      exact va_put (D := D) (ci := 4) (ty := .int) (C := RX4) (T := TX4) (N := 7) S.1 S.2.1 ht inX4 tyX4 tyX4_ok nmX4 S.2.2.2.1 hK.1 hI.1 (mD hj cI cZ w) hI.2 0 rfl rfl 0 (by decide) (ht _ wfX4_21) (fun _ h9 => h9) rfl (by decide +kernel) rfl rfl (Nat.le_of_ble_eq_true rfl) hd (fun H1 locs1 hP _ hS => kk H1 locs1 ⟨hP, hS⟩)
    | _ => cases hfv)) (rx_any_c (rx_hG_ok (fun w H locs pc ls rest hI hd k => va_get (D := D) (ci := 4) (C := RX4) (T := TX4) (N := 7) S.1 S.2.1 ht inX4 S.2.2.2.1 hK.1 hI.1 0 rfl rfl 0 (by decide) (ht _ wfX4_21) (fun _ h9 => h9) rfl hd k)) (rx_any_c (rx_hG_ok (fun w H locs pc ls rest hI hd k => va_get (D := D) (ci := 4) (C := RX4) (T := TX4) (N := 7) S.1 S.2.1 ht inX4 S.2.2.2.1 hK.1 hI.1 0 rfl rfl 2 (by decide) (ht _ wfX4_7) (fun _ h9 => h9) rfl hd k)) (rx_any_c (rx_hL_ok S (ht _ wcX4_167)) (rx_any_c (rx_hBp_ok (fun w H locs pc ls rest x v hI hin hp hd kk => va_iast S.1 S.2.1 hK.1 hI.1 (mD hj cI cZ w) hI.2 1 0 rfl rfl hin hd (fun H1 locs1 hP _ hS => kk H1 locs1 ⟨by rw [mW_bp hp]; exact hP, hS⟩))) (rx_any_c (rx_hP_ok (fun w v g w1 H locs pc ls rest hfv hg hI hd kk => by
    cases v with
    | int z =>
      cases hfv
      exact va_put (D := D) (ci := 4) (ty := .int) (C := RX4) (T := TX4) (N := 7) S.1 S.2.1 ht inX4 tyX4 tyX4_ok nmX4 S.2.2.2.1 hK.1 hI.1 (mD hj cI cZ w) hI.2 0 rfl rfl 1 (by decide) (ht _ wfX4_43) (fun _ h9 => h9) rfl (by decide +kernel) rfl rfl (Nat.le_of_ble_eq_true rfl) hd (fun H1 locs1 hP _ hS => kk H1 locs1 ⟨by rw [mW_sz hg.1 hg.2]; exact hP, hS⟩)
    | _ => cases hfv)) (rx_any_c (rx_hP_ok (fun w v g w1 H locs pc ls rest hfv hg hI hd kk => by
    cases v with
    | int z =>
      cases hfv
      exact va_put (D := D) (ci := 4) (ty := .boolean) (C := RX4) (T := TX4) (N := 7) S.1 S.2.1 ht inX4 tyX4 tyX4_ok nmX4 S.2.2.2.1 hK.1 hI.1 (mD hj cI cZ w) hI.2 0 rfl rfl 4 (by decide) (ht _ wfX4_140) (fun _ h9 => h9) rfl (by decide +kernel) hg.1 hg.2 (Nat.le_of_ble_eq_true rfl) hd (fun H1 locs1 hP _ hS => kk H1 locs1 ⟨hP, hS⟩)
    | _ => cases hfv)) (rx_any_0))))))))
set_option maxHeartbeats 4000000 in
set_option maxRecDepth 100000 in
theorem ct_X4_feed (l : Launch) (D : va_G) (am : Nat → Nat) (cI cZ : ClassId) (hj : mJ am) : ctM l yX4_feed cX4_feed 5 (some .int) rX4_feed D am cI cZ [.ref (am 0)] fX4_feed := by
  intro w as g w1 r hf hg
  unfold fX4_feed at hf
  split at hf
  · next x z =>
    cases hf
    have hB := bn_le w.1
    refine tr_of (rx_mc [(36, fun u w0 lv => u = 100 ∧ w0 = (w.1, nI (cFeed w.1 z), w.2.2) ∧ lv = [(0, .ref (am 0)), (1, .long x), (3, .int z)]), (50, fun u w0 lv => ∃ N j b, N ≤ 8 ∧ j ≤ N ∧ u = j ∧ cFeed w.1 z = 0 ∧ z = nI N ∧ bn b + j ≤ 640 ∧ fd b (uN x) j = fd w.1 (uN x) N ∧ w0 = (b, nI 0, w.2.2) ∧ lv = [(0, .ref (am 0)), (1, .long x), (4, .int (nI j - nI 1))])]) 400 400 100000 (by decide) rfl rfl (Nat.le_of_ble_eq_true rfl) pX4_feed_ok (rt_i _) (eo_X4_feed l D am cI cZ hj) ?_ ?_
    · intro pc g0 hpc u w0 lv hinv
      have hh := rx_mc_of _ hpc
      clear hpc
      simp only [List.mem_cons, List.not_mem_nil, or_false, Prod.mk.injEq] at hh
      rcases hh with ⟨rfl, rfl⟩ | ⟨rfl, rfl⟩
      · obtain ⟨rfl, rfl, rfl⟩ := hinv
        simp only [pX4_feed, eX4_feed, rx_n, rx_s, rx_to, rx_get, rx_f1, rx_f2, rx_two, rx_ext, rx_any, rx_hV, rx_hS, rx_hG, rx_hP, rx_hAi, rx_hAb, rx_hBb, rx_hBi, rx_hBp, rx_hL, rx_hLi, rx_got, rx_pop, rx_sum, rx_len, rx_c, rx_m1, lv_args, Value.category, rx_cut_n, rx_cut_m0, rx_cut_m1, rx_iconst, rx_bipush, rx_sipush, rx_lconst, rx_iload_n, rx_iload, rx_lload_n, rx_lload, rx_aload_n, rx_aload, rx_istore_n, rx_istore, rx_lstore_n, rx_lstore, rx_astore_n, rx_astore, rx_iinc, rx_iadd, rx_isub, rx_imul, rx_iand, rx_ixor, rx_ishr, rx_idiv, rx_irem, rx_ladd, rx_lsub, rx_land, rx_lor, rx_lxor, rx_lmul, rx_ldiv, rx_lrem, rx_lushr, rx_lshl, rx_lshr, rx_lneg, rx_i2l, rx_l2i, rx_i2b, rx_lcmp, rx_dup_i, rx_dup_a, rx_pop_i, rx_pop_a, rx_if_eq, rx_if_ne, rx_if_lt, rx_if_ge, rx_if_gt, rx_if_le, rx_icmp_eq, rx_icmp_ne, rx_icmp_lt, rx_icmp_ge, rx_icmp_gt, rx_icmp_le, rx_goto, rx_tsw, rx_ireturn, rx_lreturn, rx_return_, rx_getfield, rx_putfield, rx_invokevirtual, rx_invokespecial, rx_invokestatic, rx_ldc, rx_ldc2_w, rx_iaload, rx_iastore, rx_baload, rx_bastore, Nat.reduceBEq, Nat.reduceAdd, Nat.reduceSub, Nat.reduceMul, Nat.reduceLeDiff, Nat.reduceEqDiff, Nat.reduceLT, Int.reduceLT, Int.reduceLE, Int.reduceNeg, Int.reduceToNat, Int.reduceAdd, Fin.isValue, Fin.val_zero, Fin.val_one, Fin.reduceFinMk, Fin.val_ofNat, Bool.or_true, Bool.true_or, Bool.or_false, Bool.false_or, Bool.and_true, Bool.true_and, Bool.and_false, Bool.false_and, cond_true, cond_false, ↓reduceIte, eq_self, ne_eq, not_true_eq_false, not_false_eq_true, true_and, and_true, Option.toList_some, Option.toList_none, List.cons_append, List.nil_append, Option.some.injEq, Value.int.injEq, Value.long.injEq, rx_l0, rx_l1, rx_fv0, rx_fv1, rx_fv2, rx_fv3, nI_c1, nI_c2, nI_c4, nI_c8, nI_c9, nI_c24, nI_c64, Nat.le_refl, bI_z, bI_0, bI_1, Classical.not_not, lg_cmp_ge, lg_cmp_le, lg_cmp_gt, lg_cmp_lt, lg_cmp_eq]
        have hl := cFeed_lt (b := w.1) (z := z)
        rw [nI_le0 (by omega)]
        refine ⟨fun a => ?_, fun a => ?_⟩
        · obtain ⟨N, n1, n2, hz, -, n3⟩ := cFeed_0 a
          refine ⟨N, _, by omega, ⟨N, N, w.1, n2, Nat.le_refl _, rfl, a, hz, n3, rfl, by rw [a], rfl⟩, ?_⟩
          simp only [List.mem_cons, List.not_mem_nil, or_false, forall_eq_or_imp, forall_eq, Nat.reduceBEq, cond_true, cond_false, Option.some.injEq, Value.int.injEq, Value.long.injEq, Value.ref.injEq, true_and, and_true]
          rw [hz]
        · rw [cif_f a, cif_f a]
          exact ⟨rfl, rfl⟩
      · obtain ⟨N, j, b, hN, hj2, rfl, h0, hz, hb, he, rfl, rfl⟩ := hinv
        simp only [pX4_feed, eX4_feed, rx_n, rx_s, rx_to, rx_get, rx_f1, rx_f2, rx_two, rx_ext, rx_any, rx_hV, rx_hS, rx_hG, rx_hP, rx_hAi, rx_hAb, rx_hBb, rx_hBi, rx_hBp, rx_hL, rx_hLi, rx_got, rx_pop, rx_sum, rx_len, rx_c, rx_m1, lv_args, Value.category, rx_cut_n, rx_cut_m0, rx_cut_m1, rx_iconst, rx_bipush, rx_sipush, rx_lconst, rx_iload_n, rx_iload, rx_lload_n, rx_lload, rx_aload_n, rx_aload, rx_istore_n, rx_istore, rx_lstore_n, rx_lstore, rx_astore_n, rx_astore, rx_iinc, rx_iadd, rx_isub, rx_imul, rx_iand, rx_ixor, rx_ishr, rx_idiv, rx_irem, rx_ladd, rx_lsub, rx_land, rx_lor, rx_lxor, rx_lmul, rx_ldiv, rx_lrem, rx_lushr, rx_lshl, rx_lshr, rx_lneg, rx_i2l, rx_l2i, rx_i2b, rx_lcmp, rx_dup_i, rx_dup_a, rx_pop_i, rx_pop_a, rx_if_eq, rx_if_ne, rx_if_lt, rx_if_ge, rx_if_gt, rx_if_le, rx_icmp_eq, rx_icmp_ne, rx_icmp_lt, rx_icmp_ge, rx_icmp_gt, rx_icmp_le, rx_goto, rx_tsw, rx_ireturn, rx_lreturn, rx_return_, rx_getfield, rx_putfield, rx_invokevirtual, rx_invokespecial, rx_invokestatic, rx_ldc, rx_ldc2_w, rx_iaload, rx_iastore, rx_baload, rx_bastore, Nat.reduceBEq, Nat.reduceAdd, Nat.reduceSub, Nat.reduceMul, Nat.reduceLeDiff, Nat.reduceEqDiff, Nat.reduceLT, Int.reduceLT, Int.reduceLE, Int.reduceNeg, Int.reduceToNat, Int.reduceAdd, Fin.isValue, Fin.val_zero, Fin.val_one, Fin.reduceFinMk, Fin.val_ofNat, Bool.or_true, Bool.true_or, Bool.or_false, Bool.false_or, Bool.and_true, Bool.true_and, Bool.and_false, Bool.false_and, cond_true, cond_false, ↓reduceIte, eq_self, ne_eq, not_true_eq_false, not_false_eq_true, true_and, and_true, Option.toList_some, Option.toList_none, List.cons_append, List.nil_append, Option.some.injEq, Value.int.injEq, Value.long.injEq, rx_l0, rx_l1, rx_fv0, rx_fv1, rx_fv2, rx_fv3, nI_c1, nI_c2, nI_c4, nI_c8, nI_c9, nI_c24, nI_c64, Nat.le_refl, bI_z, bI_0, bI_1, Classical.not_not, lg_cmp_ge, lg_cmp_le, lg_cmp_gt, lg_cmp_lt, lg_cmp_eq]
        rename_i u
        refine ⟨fun h => ?_, fun h => ?_⟩
        · have hu : u = 0 := by
            rcases Nat.eq_zero_or_pos u with q | q
            · exact q
            · rw [pk_sub q] at h
              exact absurd h (nI_pos (by omega))
          subst hu
          have he : b = fd w.1 (uN x) N := he
          obtain ⟨N', n1, n2, hz', n4, n3⟩ := cFeed_0 h0
          have hNN : N = N' := (nI_eq (by omega) (by omega)).mp (hz.symm.trans hz')
          rw [cif_t h0, cif_t h0, n4, ← hNN, he, bn_fd N w.1 (uN x) (by omega)]
          exact ⟨⟨rfl, rfl⟩, rfl, rfl⟩
        · have hu : 0 < u := by
            rcases Nat.eq_zero_or_pos u with q | q
            · rw [q] at h
              exact absurd (by decide) h
            · exact q
          obtain ⟨v, rfl⟩ : ∃ v, u = v + 1 := ⟨u - 1, by omega⟩
          have e1 : nI (v + 1) - nI 1 = nI v := by rw [pk_sub (by omega)]; rfl
          have hm : uN x / 256 ^ v % 256 < 256 := Nat.mod_lt _ (by decide)
          rw [e1, lshr_byte x (show v < 8 by omega)]
          simp (disch := omega) only [nI_clamp, bn_put, nI_add]
          refine ⟨⟨vp_in_nI (by omega) (by decide), _, hm, rfl⟩, ⟨by omega, trivial⟩, v, _, by omega, ⟨N, v, bAdd b (uN x / 256 ^ v % 256), hN, by omega, rfl, h0, hz, by rw [bn_add (by omega)]; omega, he, rfl, rfl⟩, ?_⟩
          simp only [List.mem_cons, List.not_mem_nil, or_false, forall_eq_or_imp, forall_eq, Nat.reduceBEq, cond_true, cond_false, Option.some.injEq, Value.int.injEq, Value.long.injEq, Value.ref.injEq, true_and, and_true]
          exact i_m1 _
    · simp only [pX4_feed, eX4_feed, rx_n, rx_s, rx_to, rx_get, rx_f1, rx_f2, rx_two, rx_ext, rx_any, rx_hV, rx_hS, rx_hG, rx_hP, rx_hAi, rx_hAb, rx_hBb, rx_hBi, rx_hBp, rx_hL, rx_hLi, rx_got, rx_pop, rx_sum, rx_len, rx_c, rx_m1, lv_args, Value.category, rx_cut_n, rx_cut_m0, rx_cut_m1, rx_iconst, rx_bipush, rx_sipush, rx_lconst, rx_iload_n, rx_iload, rx_lload_n, rx_lload, rx_aload_n, rx_aload, rx_istore_n, rx_istore, rx_lstore_n, rx_lstore, rx_astore_n, rx_astore, rx_iinc, rx_iadd, rx_isub, rx_imul, rx_iand, rx_ixor, rx_ishr, rx_idiv, rx_irem, rx_ladd, rx_lsub, rx_land, rx_lor, rx_lxor, rx_lmul, rx_ldiv, rx_lrem, rx_lushr, rx_lshl, rx_lshr, rx_lneg, rx_i2l, rx_l2i, rx_i2b, rx_lcmp, rx_dup_i, rx_dup_a, rx_pop_i, rx_pop_a, rx_if_eq, rx_if_ne, rx_if_lt, rx_if_ge, rx_if_gt, rx_if_le, rx_icmp_eq, rx_icmp_ne, rx_icmp_lt, rx_icmp_ge, rx_icmp_gt, rx_icmp_le, rx_goto, rx_tsw, rx_ireturn, rx_lreturn, rx_return_, rx_getfield, rx_putfield, rx_invokevirtual, rx_invokespecial, rx_invokestatic, rx_ldc, rx_ldc2_w, rx_iaload, rx_iastore, rx_baload, rx_bastore, Nat.reduceBEq, Nat.reduceAdd, Nat.reduceSub, Nat.reduceMul, Nat.reduceLeDiff, Nat.reduceEqDiff, Nat.reduceLT, Int.reduceLT, Int.reduceLE, Int.reduceNeg, Int.reduceToNat, Int.reduceAdd, Fin.isValue, Fin.val_zero, Fin.val_one, Fin.reduceFinMk, Fin.val_ofNat, Bool.or_true, Bool.true_or, Bool.or_false, Bool.false_or, Bool.and_true, Bool.true_and, Bool.and_false, Bool.false_and, cond_true, cond_false, ↓reduceIte, eq_self, ne_eq, not_true_eq_false, not_false_eq_true, true_and, and_true, Option.toList_some, Option.toList_none, List.cons_append, List.nil_append, Option.some.injEq, Value.int.injEq, Value.long.injEq, rx_l0, rx_l1, rx_fv0, rx_fv1, rx_fv2, rx_fv3, nI_c1, nI_c2, nI_c4, nI_c8, nI_c9, nI_c24, nI_c64, Nat.le_refl, bI_z, bI_0, bI_1, Classical.not_not, lg_cmp_ge, lg_cmp_le, lg_cmp_gt, lg_cmp_lt, lg_cmp_eq]
      have leaf : ∀ c, cFeed w.1 z = c → (w.1, nI c, w.2.2) = ((w.1, nI (cFeed w.1 z), w.2.2) : mS) := fun c e => by rw [e]
      refine ⟨fun a => ?_, fun a => ⟨fun b => ⟨fun c => ?_, fun c => ?_⟩, fun b => ?_⟩⟩
      · refine ⟨100, _, by omega, ⟨rfl, leaf 1 (cif_t (Or.inl a)), rfl⟩, ?_⟩
        simp only [List.mem_cons, List.not_mem_nil, or_false, forall_eq_or_imp, forall_eq, Nat.reduceBEq, cond_true, cond_false, Option.some.injEq, Value.int.injEq, Value.long.injEq, Value.ref.injEq, true_and, and_true]
      · obtain ⟨N, n1, n2, hz, n4⟩ := z_in a b
        rw [hz, nI_add, nI_leI (by omega) (by omega)] at c
        refine ⟨100, _, by omega, ⟨rfl, leaf 0 ?_, rfl⟩, ?_⟩
        · unfold cFeed
          rw [cif_f (fun q => q.elim a (fun q => Int32.not_lt.mpr b q)), cif_t (by omega)]
        · simp only [List.mem_cons, List.not_mem_nil, or_false, forall_eq_or_imp, forall_eq, Nat.reduceBEq, cond_true, cond_false, Option.some.injEq, Value.int.injEq, Value.long.injEq, Value.ref.injEq, true_and, and_true]
      · obtain ⟨N, n1, n2, hz, n4⟩ := z_in a b
        rw [hz, nI_add, nI_leI (by omega) (by omega)] at c
        refine ⟨100, _, by omega, ⟨rfl, leaf 2 ?_, rfl⟩, ?_⟩
        · unfold cFeed
          rw [cif_f (fun q => q.elim a (fun q => Int32.not_lt.mpr b q)), cif_f (by omega)]
        · simp only [List.mem_cons, List.not_mem_nil, or_false, forall_eq_or_imp, forall_eq, Nat.reduceBEq, cond_true, cond_false, Option.some.injEq, Value.int.injEq, Value.long.injEq, Value.ref.injEq, true_and, and_true]
      · refine ⟨100, _, by omega, ⟨rfl, leaf 1 (cif_t (Or.inr (Int32.not_le.mp b))), rfl⟩, ?_⟩
        simp only [List.mem_cons, List.not_mem_nil, or_false, forall_eq_or_imp, forall_eq, Nat.reduceBEq, cond_true, cond_false, Option.some.injEq, Value.int.injEq, Value.long.injEq, Value.ref.injEq, true_and, and_true]
  · cases hf
