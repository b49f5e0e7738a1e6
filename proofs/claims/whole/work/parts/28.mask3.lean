def pX4_symbol : rx_P := [(0, .aload_n 0, 0), (1, .iload_n 3, 0), (2, .ldc2_w 186, 0), (5, .invokestatic 169, 0), (8, .ifCond .eq 7, 15), (11, .iconst 1, 0), (12, .goto 44, 56), (15, .aload_n 0, 0), (16, .invokevirtual 172, 0), (19, .ifCond .ne 7, 26), (22, .iconst 2, 0), (23, .goto 33, 56), (26, .iload_n 1, 0), (27, .aload_n 0, 0), (28, .invokevirtual 59, 0), (31, .i2l, 0), (32, .invokestatic 169, 0), (35, .ifCond .ne 16, 51), (38, .iload_n 2, 0), (39, .aload_n 0, 0), (40, .iload_n 1, 0), (41, .invokevirtual 134, 0), (44, .i2l, 0), (45, .invokestatic 169, 0), (48, .ifCond .eq 7, 55), (51, .iconst 3, 0), (52, .goto 4, 56), (55, .iconst 0, 0), (56, .putfield 21, 0), (59, .aload_n 0, 0), (60, .getfield 21, 0), (63, .ifCond .le 5, 68), (66, .lconst 0, 0), (67, .lreturn, 0), (68, .aload_n 0, 0), (69, .iload_n 1, 0), (70, .iload_n 2, 0), (71, .invokevirtual 124, 0), (74, .istore 4, 0), (76, .iload_n 3, 0), (77, .iconst 2, 0), (78, .if_icmp .ge 18, 96), (81, .aload_n 0, 0), (82, .iload 4, 0), (84, .bipush 8, 0), (86, .iadd, 0), (87, .bipush 8, 0), (89, .iload_n 3, 0), (90, .imul, 0), (91, .iadd, 0), (92, .invokevirtual 177, 0), (95, .lreturn, 0), (96, .iload_n 3, 0), (97, .iconst 4, 0), (98, .if_icmp .ne 26, 124), (101, .aload_n 0, 0), (102, .aload_n 0, 0), (103, .aload_n 0, 0), (104, .iload_n 1, 0), (105, .invokevirtual 127, 0), (108, .invokevirtual 70, 0), (111, .aload_n 0, 0), (112, .iload 4, 0), (114, .invokevirtual 30, 0), (117, .l2i, 0), (118, .iadd, 0), (119, .invokevirtual 183, 0), (122, .i2l, 0), (123, .lreturn, 0), (124, .iload_n 3, 0), (125, .iconst 2, 0), (126, .if_icmp .ne 16, 142), (129, .aload_n 0, 0), (130, .iload 4, 0), (132, .bipush 6, 0), (134, .iadd, 0), (135, .invokevirtual 24, 0), (138, .i2l, 0), (139, .goto 16, 155), (142, .aload_n 0, 0), (143, .getfield 7, 0), (146, .iload 4, 0), (148, .iconst 4, 0), (149, .iadd, 0), (150, .iaload, 0), (151, .bipush 16, 0), (153, .idiv, 0), (154, .i2l, 0), (155, .lreturn, 0)]
theorem pX4_symbol_ok : ∀ q ∈ pX4_symbol, rx_ok cX4_symbol q := rx_ok_all (by decide +kernel)
abbrev rX4_symbol : Room := { frames := 6, cells := 0, slots := 0, locals := 126 }
noncomputable def fX4_symbol : rx_F mS := fun w as => match as with
  | [.int k, .int i, .int x] => some (mG w → gd w.1, (w.1, nI (cSym (mG w) w.1 k i x), w.2.2), some (.long (cif (cSym (mG w) w.1 k i x = 0) (lN (vSym w.1 k.toNatClampNeg i.toNatClampNeg x.toNatClampNeg)) (lN 0))))
  | _ => none
noncomputable def eX4_symbol (am : Nat → Nat) : rx_E mS := rx_any [rx_hL 186 (lN 5), rx_hS 169 2 fX4_out, rx_hV 172 0 (am 0) fX4_good, rx_hV 59 0 (am 0) fX4_sectionCount, rx_hV 134 1 (am 0) fX4_countOf, rx_hP 21 (am 0) (fun w v => match v with | .int z => some (True, (w.1, z, w.2.2)) | _ => none), rx_hG 21 (am 0) (fun w => .int w.2.1), rx_hV 124 2 (am 0) fX4_symbolAt, rx_hV 177 1 (am 0) fX4_eight, rx_hV 127 1 (am 0) fX4_linkOf, rx_hV 70 1 (am 0) fX4_placeOf, rx_hV 30 1 (am 0) fX4_four, rx_hV 183 1 (am 0) fX4_nameLength, rx_hV 24 1 (am 0) fX4_two, rx_hG 7 (am 0) (fun w => .ref (am 1)), rx_hAi (am 1) 640 (fun w k => nI (bg w.1 k))]
set_option maxHeartbeats 4000000 in
set_option maxRecDepth 100000 in
theorem eo_X4_symbol (l : Launch) (D : va_G) (am : Nat → Nat) (cI cZ : ClassId) (hj : mJ am) : ∀ (p : Program) (e : Env) (s : State) (m : MethodId) (args : Array Value) (below : List Frame) (meth : Method) (c : Code) (Qw : State → Prop), CallFix p m c cX4_symbol 5 s args (Cond.code yX4_symbol cX4_symbol 5 (some .long) :: wsA) RX4 → mK D cI cZ s → rx_Eok (fun H locs g => W p l e rX4_symbol s m args below meth c H locs 0 0 Qw g) m cX4_symbol 5 (tr_I D vwCl (mA am) s (mW am cI cZ)) (eX4_symbol am) := by
  intro p e s m args below meth c Qw S hK
  have ht : ∀ w ∈ wsA, w.before args s = true := fun w h => S.2.2.2.2 w (wsA_in h)
  exact rx_any_c (rx_hL_ok S (ht _ wcX4_186)) (rx_any_c (rx_hS_ok S ⟨Nat.zero_le _, Nat.zero_le _⟩ mK_tr hK (va_cwS 2 S.2.2.2.2 (wsA_S wkX4_169 wsX4_out winiX4 wX4_out) rfl rfl rfl (by decide +kernel) ⟨by decide, by decide⟩) (ct_X4_out l D am cI cZ)) (rx_any_c (rx_hV_ok S ⟨Nat.zero_le _, Nat.zero_le _⟩ mK_tr hK (cwV 0 S.2.2.2.2 (wsA_V wkX4_172 wiX4_good weX4_good winiX4 wX4_good) rfl rfl rfl (by decide +kernel) ⟨by decide, by decide⟩) (ct_X4_good l D am cI cZ) (fun w H hP => va_recv hK.1 hP (rfl : vwCl[4]? = some (RX4, TX4, 7)) (rfl : (mW am cI cZ w)[0]? = some _))) (rx_any_c (rx_hV_ok S ⟨Nat.zero_le _, Nat.zero_le _⟩ mK_tr hK (cwV 0 S.2.2.2.2 (wsA_V wkX4_59 wiX4_sectionCount weX4_sectionCount winiX4 wX4_sectionCount) rfl rfl rfl (by decide +kernel) ⟨by decide, by decide⟩) (ct_X4_sectionCount l D am cI cZ) (fun w H hP => va_recv hK.1 hP (rfl : vwCl[4]? = some (RX4, TX4, 7)) (rfl : (mW am cI cZ w)[0]? = some _))) (rx_any_c (rx_hV_ok S ⟨Nat.zero_le _, Nat.zero_le _⟩ mK_tr hK (cwV 1 S.2.2.2.2 (wsA_V wkX4_134 wiX4_countOf weX4_countOf winiX4 wX4_countOf) rfl rfl rfl (by decide +kernel) ⟨by decide, by decide⟩) (ct_X4_countOf l D am cI cZ) (fun w H hP => va_recv hK.1 hP (rfl : vwCl[4]? = some (RX4, TX4, 7)) (rfl : (mW am cI cZ w)[0]? = some _))) (rx_any_c (rx_hP_ok (fun w v g w1 H locs pc ls rest hfv hg hI hd kk => by
    cases v with
    | int z =>
      cases hfv
      exact va_put (D := D) (ci := 4) (ty := .int) (C := RX4) (T := TX4) (N := 7) S.1 S.2.1 ht inX4 tyX4 tyX4_ok nmX4 S.2.2.2.1 hK.1 hI.1 (mD hj cI cZ w) hI.2 0 rfl rfl 0 (by decide) (ht _ wfX4_21) (fun _ h9 => h9) rfl (by decide +kernel) rfl rfl (Nat.le_of_ble_eq_true rfl) hd (fun H1 locs1 hP _ hS => kk H1 locs1 ⟨hP, hS⟩)
    | _ => cases hfv)) (rx_any_c (rx_hG_ok (fun w H locs pc ls rest hI hd k => va_get (D := D) (ci := 4) (C := RX4) (T := TX4) (N := 7) S.1 S.2.1 ht inX4 S.2.2.2.1 hK.1 hI.1 0 rfl rfl 0 (by decide) (ht _ wfX4_21) (fun _ h9 => h9) rfl hd k)) (rx_any_c (rx_hV_ok S ⟨Nat.zero_le _, Nat.zero_le _⟩ mK_tr hK (cwV 2 S.2.2.2.2 (wsA_V wkX4_124 wiX4_symbolAt weX4_symbolAt winiX4 wX4_symbolAt) rfl rfl rfl (by decide +kernel) ⟨by decide, by decide⟩) (ct_X4_symbolAt l D am cI cZ) (fun w H hP => va_recv hK.1 hP (rfl : vwCl[4]? = some (RX4, TX4, 7)) (rfl : (mW am cI cZ w)[0]? = some _))) (rx_any_c (rx_hV_ok S ⟨Nat.zero_le _, Nat.zero_le _⟩ mK_tr hK (cwV 1 S.2.2.2.2 (wsA_V wkX4_177 wiX4_eight weX4_eight winiX4 wX4_eight) rfl rfl rfl (by decide +kernel) ⟨by decide, by decide⟩) (ct_X4_eight l D am cI cZ) (fun w H hP => va_recv hK.1 hP (rfl : vwCl[4]? = some (RX4, TX4, 7)) (rfl : (mW am cI cZ w)[0]? = some _))) (rx_any_c (rx_hV_ok S ⟨Nat.zero_le _, Nat.zero_le _⟩ mK_tr hK (cwV 1 S.2.2.2.2 (wsA_V wkX4_127 wiX4_linkOf weX4_linkOf winiX4 wX4_linkOf) rfl rfl rfl (by decide +kernel) ⟨by decide, by decide⟩) (ct_X4_linkOf l D am cI cZ) (fun w H hP => va_recv hK.1 hP (rfl : vwCl[4]? = some (RX4, TX4, 7)) (rfl : (mW am cI cZ w)[0]? = some _))) (rx_any_c (rx_hV_ok S ⟨Nat.zero_le _, Nat.zero_le _⟩ mK_tr hK (cwV 1 S.2.2.2.2 (wsA_V wkX4_70 wiX4_placeOf weX4_placeOf winiX4 wX4_placeOf) rfl rfl rfl (by decide +kernel) ⟨by decide, by decide⟩) (ct_X4_placeOf l D am cI cZ) (fun w H hP => va_recv hK.1 hP (rfl : vwCl[4]? = some (RX4, TX4, 7)) (rfl : (mW am cI cZ w)[0]? = some _))) (rx_any_c (rx_hV_ok S ⟨Nat.zero_le _, Nat.zero_le _⟩ mK_tr hK (cwV 1 S.2.2.2.2 (wsA_V wkX4_30 wiX4_four weX4_four winiX4 wX4_four) rfl rfl rfl (by decide +kernel) ⟨by decide, by decide⟩) (ct_X4_four l D am cI cZ) (fun w H hP => va_recv hK.1 hP (rfl : vwCl[4]? = some (RX4, TX4, 7)) (rfl : (mW am cI cZ w)[0]? = some _))) (rx_any_c (rx_hV_ok S ⟨Nat.zero_le _, Nat.zero_le _⟩ mK_tr hK (cwV 1 S.2.2.2.2 (wsA_V wkX4_183 wiX4_nameLength weX4_nameLength winiX4 wX4_nameLength) rfl rfl rfl (by decide +kernel) ⟨by decide, by decide⟩) (ct_X4_nameLength l D am cI cZ) (fun w H hP => va_recv hK.1 hP (rfl : vwCl[4]? = some (RX4, TX4, 7)) (rfl : (mW am cI cZ w)[0]? = some _))) (rx_any_c (rx_hV_ok S ⟨Nat.zero_le _, Nat.zero_le _⟩ mK_tr hK (cwV 1 S.2.2.2.2 (wsA_V wkX4_24 wiX4_two weX4_two winiX4 wX4_two) rfl rfl rfl (by decide +kernel) ⟨by decide, by decide⟩) (ct_X4_two l D am cI cZ) (fun w H hP => va_recv hK.1 hP (rfl : vwCl[4]? = some (RX4, TX4, 7)) (rfl : (mW am cI cZ w)[0]? = some _))) (rx_any_c (rx_hG_ok (fun w H locs pc ls rest hI hd k => va_get (D := D) (ci := 4) (C := RX4) (T := TX4) (N := 7) S.1 S.2.1 ht inX4 S.2.2.2.1 hK.1 hI.1 0 rfl rfl 2 (by decide) (ht _ wfX4_7) (fun _ h9 => h9) rfl hd k)) (rx_any_c (rx_hAi_ok (fun w H locs pc ls rest x hI hin hd k => va_iald S.1 S.2.1 hK.1 hI.1 1 0 rfl rfl hin hd k)) (rx_any_0))))))))))))))))
set_option maxHeartbeats 4000000 in
set_option maxRecDepth 100000 in
theorem ct_X4_symbol (l : Launch) (D : va_G) (am : Nat → Nat) (cI cZ : ClassId) (hj : mJ am) : ctM l yX4_symbol cX4_symbol 5 (some .long) rX4_symbol D am cI cZ [.ref (am 0)] fX4_symbol := by
  intro w as g w1 r hf hg
  unfold fX4_symbol at hf
  split at hf
  · next k i x =>
    cases hf
    refine tr_of (rx_mc [(59, fun u w0 lv => u = 1 ∧ w0 = (w.1, nI (cSym (mG w) w.1 k i x), w.2.2) ∧ lv = [(0, .ref (am 0)), (1, .int k), (2, .int i), (3, .int x)])]) 400 400 100000 (by decide) rfl rfl (Nat.le_of_ble_eq_true rfl) pX4_symbol_ok (rt_l _) (eo_X4_symbol l D am cI cZ hj) ?_ ?_
    · intro pc g0 hpc u w0 lv hinv
      have hh := rx_mc_of _ hpc
      clear hpc
      simp only [List.mem_cons, List.not_mem_nil, or_false, Prod.mk.injEq] at hh
      rcases hh with ⟨rfl, rfl⟩
      · obtain ⟨rfl, rfl, rfl⟩ := hinv
        simp only [pX4_symbol, eX4_symbol, fX4_countOf, fX4_eight, fX4_four, fX4_good, fX4_linkOf, fX4_nameLength, fX4_out, fX4_placeOf, fX4_sectionCount, fX4_symbolAt, fX4_two, rx_n, rx_s, rx_to, rx_get, rx_f1, rx_f2, rx_two, rx_ext, rx_any, rx_hV, rx_hS, rx_hG, rx_hP, rx_hAi, rx_hAb, rx_hBb, rx_hBi, rx_hBp, rx_hL, rx_hLi, rx_got, rx_pop, rx_sum, rx_len, rx_c, rx_m1, lv_args, Value.category, rx_cut_n, rx_cut_m0, rx_cut_m1, rx_iconst, rx_bipush, rx_sipush, rx_lconst, rx_iload_n, rx_iload, rx_lload_n, rx_lload, rx_aload_n, rx_aload, rx_istore_n, rx_istore, rx_lstore_n, rx_lstore, rx_astore_n, rx_astore, rx_iinc, rx_iadd, rx_isub, rx_imul, rx_iand, rx_ixor, rx_ishr, rx_idiv, rx_irem, rx_ladd, rx_lsub, rx_land, rx_lor, rx_lxor, rx_lmul, rx_ldiv, rx_lrem, rx_lushr, rx_lshl, rx_lshr, rx_lneg, rx_i2l, rx_l2i, rx_i2b, rx_lcmp, rx_dup_i, rx_dup_a, rx_pop_i, rx_pop_a, rx_if_eq, rx_if_ne, rx_if_lt, rx_if_ge, rx_if_gt, rx_if_le, rx_icmp_eq, rx_icmp_ne, rx_icmp_lt, rx_icmp_ge, rx_icmp_gt, rx_icmp_le, rx_goto, rx_tsw, rx_ireturn, rx_lreturn, rx_return_, rx_getfield, rx_putfield, rx_invokevirtual, rx_invokespecial, rx_invokestatic, rx_ldc, rx_ldc2_w, rx_iaload, rx_iastore, rx_baload, rx_bastore, Nat.reduceBEq, Nat.reduceAdd, Nat.reduceSub, Nat.reduceMul, Nat.reduceLeDiff, Nat.reduceEqDiff, Nat.reduceLT, Int.reduceLT, Int.reduceLE, Int.reduceNeg, Int.reduceToNat, Int.reduceAdd, Fin.isValue, Fin.val_zero, Fin.val_one, Fin.reduceFinMk, Fin.val_ofNat, Bool.or_true, Bool.true_or, Bool.or_false, Bool.false_or, Bool.and_true, Bool.true_and, Bool.and_false, Bool.false_and, cond_true, cond_false, ↓reduceIte, eq_self, ne_eq, not_true_eq_false, not_false_eq_true, true_and, and_true, Option.toList_some, Option.toList_none, List.cons_append, List.nil_append, Option.some.injEq, Value.int.injEq, Value.long.injEq, rx_l0, rx_l1, rx_fv0, rx_fv1, rx_fv2, rx_fv3, nI_c1, nI_c2, nI_c4, nI_c8, nI_c9, nI_c24, nI_c64, Nat.le_refl, bI_z, bI_0, bI_1, Classical.not_not, lg_cmp_ge, lg_cmp_le, lg_cmp_gt, lg_cmp_lt, lg_cmp_eq]
        have hl := cSym_lt (G := mG w) (b := w.1) (k := k) (i := i) (x := x)
        rw [nI_le0 (by omega)]
        refine ⟨fun a => ?_, fun a => by rw [cif_f a]⟩
        rw [cif_t a]
        obtain ⟨hx, hG, hk, hi⟩ := cSym_0 a
        have hc := sC_lt w.1
        have hB := bn_le w.1
        have h12 := gd_t12 (hg hG)
        obtain ⟨X, hX, rfl, ex⟩ := vp_ex hx (by decide)
        obtain ⟨K, hK, rfl, ek⟩ := vp_ex hk (by omega)
        rw [ek] at hi
        have hR := t9_room h12.1 hK
        have hcO : cO w.1 K ≤ 640 := by unfold cO; split <;> omega
        obtain ⟨J, hJ, rfl, ej⟩ := vp_ex hi (by omega)
        have hkd : kd w.1 K = 2 := Classical.byContradiction fun q => by
          have e : cO w.1 K = 0 := if_neg q
          omega
        have e5 : cO w.1 K = rL w.1 K / 24 := if_pos hkd
        have hY : yA w.1 K J + 24 ≤ bn w.1 := by unfold yA; omega
        obtain ⟨hL1, hS, hS2⟩ := ysN_ok (hg hG) hK hkd (show J < rL w.1 K / 24 by omega)
        have hS3 := nmL_le w.1 (rP w.1 (lK w.1 K) + bl w.1 (yA w.1 K J) 4)
        have g1 := bl_q2 w.1 (yA w.1 K J + 6)
        have g2 := bg_lt w.1 (yA w.1 K J + 4)
        have e0 : nI (rP w.1 K) + nI 24 * nI J = nI (yA w.1 K J) := by unfold yA; rw [pk_mul, nI_add]
        rw [ex, ek, ej, e0]
        simp (disch := omega) only [pk_mul, nI_add, nI_clamp, nI_leI, nI_eq, nI_l, lN_i, pk_div]
        refine ⟨⟨h12.1.1, trivial, hK⟩, fun b => ⟨fun c => ⟨fun d => ⟨vp_in_nI (by omega) (by decide), by decide, ?_⟩, fun d => ⟨vp_in_nI (by omega) (by decide), ?_⟩⟩, fun c => ⟨⟨h12.1.1, trivial, hK⟩, ⟨h12.1.1, trivial, hL1⟩, vp_in_nI (by omega) (by decide), ⟨trivial, hS2⟩, ?_⟩⟩, fun b => ⟨vp_in_nI (by omega) (by decide), ?_⟩⟩
        · have : X = 3 := by omega
          subst this; rfl
        · subst d; rfl
        · subst c
          exact nI_l (n := nmL w.1 (rP w.1 (lK w.1 K) + bl w.1 (yA w.1 K J) 4)) (by omega)
        · have : X = 0 ∨ X = 1 := by omega
          rcases this with rfl | rfl <;> rfl
    · simp only [pX4_symbol, eX4_symbol, fX4_countOf, fX4_eight, fX4_four, fX4_good, fX4_linkOf, fX4_nameLength, fX4_out, fX4_placeOf, fX4_sectionCount, fX4_symbolAt, fX4_two, rx_n, rx_s, rx_to, rx_get, rx_f1, rx_f2, rx_two, rx_ext, rx_any, rx_hV, rx_hS, rx_hG, rx_hP, rx_hAi, rx_hAb, rx_hBb, rx_hBi, rx_hBp, rx_hL, rx_hLi, rx_got, rx_pop, rx_sum, rx_len, rx_c, rx_m1, lv_args, Value.category, rx_cut_n, rx_cut_m0, rx_cut_m1, rx_iconst, rx_bipush, rx_sipush, rx_lconst, rx_iload_n, rx_iload, rx_lload_n, rx_lload, rx_aload_n, rx_aload, rx_istore_n, rx_istore, rx_lstore_n, rx_lstore, rx_astore_n, rx_astore, rx_iinc, rx_iadd, rx_isub, rx_imul, rx_iand, rx_ixor, rx_ishr, rx_idiv, rx_irem, rx_ladd, rx_lsub, rx_land, rx_lor, rx_lxor, rx_lmul, rx_ldiv, rx_lrem, rx_lushr, rx_lshl, rx_lshr, rx_lneg, rx_i2l, rx_l2i, rx_i2b, rx_lcmp, rx_dup_i, rx_dup_a, rx_pop_i, rx_pop_a, rx_if_eq, rx_if_ne, rx_if_lt, rx_if_ge, rx_if_gt, rx_if_le, rx_icmp_eq, rx_icmp_ne, rx_icmp_lt, rx_icmp_ge, rx_icmp_gt, rx_icmp_le, rx_goto, rx_tsw, rx_ireturn, rx_lreturn, rx_return_, rx_getfield, rx_putfield, rx_invokevirtual, rx_invokespecial, rx_invokestatic, rx_ldc, rx_ldc2_w, rx_iaload, rx_iastore, rx_baload, rx_bastore, Nat.reduceBEq, Nat.reduceAdd, Nat.reduceSub, Nat.reduceMul, Nat.reduceLeDiff, Nat.reduceEqDiff, Nat.reduceLT, Int.reduceLT, Int.reduceLE, Int.reduceNeg, Int.reduceToNat, Int.reduceAdd, Fin.isValue, Fin.val_zero, Fin.val_one, Fin.reduceFinMk, Fin.val_ofNat, Bool.or_true, Bool.true_or, Bool.or_false, Bool.false_or, Bool.and_true, Bool.true_and, Bool.and_false, Bool.false_and, cond_true, cond_false, ↓reduceIte, eq_self, ne_eq, not_true_eq_false, not_false_eq_true, true_and, and_true, Option.toList_some, Option.toList_none, List.cons_append, List.nil_append, Option.some.injEq, Value.int.injEq, Value.long.injEq, rx_l0, rx_l1, rx_fv0, rx_fv1, rx_fv2, rx_fv3, nI_c1, nI_c2, nI_c4, nI_c8, nI_c9, nI_c24, nI_c64, Nat.le_refl, bI_z, bI_0, bI_1, Classical.not_not, lg_cmp_ge, lg_cmp_le, lg_cmp_gt, lg_cmp_lt, lg_cmp_eq]
      have hc := sC_lt w.1
      simp (disch := omega) only [nI_l, out_iff]
      simp only [le10, le20, le30, le00, mG_eq, false_implies, true_implies, not_false_eq_true, not_true_eq_false, true_and, and_true, Classical.not_not]
      refine ⟨fun a => ⟨fun b => ⟨fun c => ?_, fun c => ?_⟩, fun b => ?_⟩, fun a => ?_⟩
      · refine ⟨1, _, by omega, ⟨rfl, by unfold cSym; rw [cif_t a, cif_t b, cif_f c], rfl⟩, ?_⟩
        simp only [List.mem_cons, List.not_mem_nil, or_false, forall_eq_or_imp, forall_eq, Nat.reduceBEq, cond_true, cond_false, Option.some.injEq, Value.int.injEq, Value.long.injEq, Value.ref.injEq, true_and, and_true]
      · obtain ⟨K, hK, rfl, ek⟩ := vp_ex c (by omega)
        have h9 := (gd_t12 (hg b)).1
        have hR := t9_room h9 hK
        have hB := bn_le w.1
        have hcO : cO w.1 K ≤ 640 := by unfold cO; split <;> omega
        rw [ek]
        simp (disch := omega) only [nI_l, out_iff, Classical.not_not]
        refine ⟨⟨h9, trivial, hK⟩, fun d => ?_, fun d => ?_⟩
        · refine ⟨1, _, by omega, ⟨rfl, by unfold cSym; rw [cif_t a, cif_t b, cif_t c, ek, cif_t d], rfl⟩, ?_⟩
          simp only [List.mem_cons, List.not_mem_nil, or_false, forall_eq_or_imp, forall_eq, Nat.reduceBEq, cond_true, cond_false, Option.some.injEq, Value.int.injEq, Value.long.injEq, Value.ref.injEq, true_and, and_true]
        · refine ⟨1, _, by omega, ⟨rfl, by unfold cSym; rw [cif_t a, cif_t b, cif_t c, ek, cif_f d], rfl⟩, ?_⟩
          simp only [List.mem_cons, List.not_mem_nil, or_false, forall_eq_or_imp, forall_eq, Nat.reduceBEq, cond_true, cond_false, Option.some.injEq, Value.int.injEq, Value.long.injEq, Value.ref.injEq, true_and, and_true]
      · refine ⟨1, _, by omega, ⟨rfl, by unfold cSym; rw [cif_t a, cif_f b], rfl⟩, ?_⟩
        simp only [List.mem_cons, List.not_mem_nil, or_false, forall_eq_or_imp, forall_eq, Nat.reduceBEq, cond_true, cond_false, Option.some.injEq, Value.int.injEq, Value.long.injEq, Value.ref.injEq, true_and, and_true]
      · refine ⟨1, _, by omega, ⟨rfl, by unfold cSym; rw [cif_f a], rfl⟩, ?_⟩
        simp only [List.mem_cons, List.not_mem_nil, or_false, forall_eq_or_imp, forall_eq, Nat.reduceBEq, cond_true, cond_false, Option.some.injEq, Value.int.injEq, Value.long.injEq, Value.ref.injEq, true_and, and_true]
  · cases hf
