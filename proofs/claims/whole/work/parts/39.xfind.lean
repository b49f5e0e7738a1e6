def pX3_find : rx_P := [(0, .aload_n 0, 0), (1, .invokevirtual 82, 0), (4, .aload_n 0, 0), (5, .getfield 21, 0), (8, .invokevirtual 85, 0), (11, .istore_n 3, 0), (12, .iconst 0, 0), (13, .istore 4, 0), (15, .iload 4, 0), (17, .iload_n 3, 0), (18, .if_icmp .ge 48, 66), (21, .aload_n 0, 0), (22, .getfield 21, 0), (25, .iload 4, 0), (27, .invokevirtual 94, 0), (30, .istore 5, 0), (32, .aload_n 0, 0), (33, .getfield 21, 0), (36, .iload 5, 0), (38, .invokevirtual 125, 0), (41, .ifCond .eq 19, 60), (44, .aload_n 0, 0), (45, .getfield 21, 0), (48, .lload_n 1, 0), (49, .iload 5, 0), (51, .invokevirtual 129, 0), (54, .ifCond .eq 6, 60), (57, .iload 4, 0), (59, .ireturn, 0), (60, .iinc 4 1, 0), (63, .goto (-48), 15), (66, .iconst (-1), 0), (67, .ireturn, 0)]
theorem pX3_find_ok : ∀ q ∈ pX3_find, rx_ok cX3_find q := rx_ok_all (by decide +kernel)
abbrev rX3_find : Room := { frames := 7, cells := 1, slots := 6, locals := 103 }
noncomputable def fX3_find : rx_Fx cS := fun w as => match as with
  | [.long x] => some (cG w → gd w.1, cG w, w, some (.int (oI (fun k => gL w.1 k ∧ gI w.1 (uN x) k) (gC w.1))), xIS)
  | _ => none
noncomputable def eX3_find (ad : Nat → Nat) (w2 : cS) (r : tx_R) : rx_E cS := rx_any [rx_hVx 82 0 (ad 0) (fun w E => w = w2 ∧ r = .inr E) fX3_needGood, rx_hG 21 (ad 0) (fun w => .ref (ad 2)), rx_hV 85 0 (ad 2) fX0_segmentCount, rx_hV 94 1 (ad 2) fX0_segmentStart, rx_hV 125 1 (ad 2) fX0_isLoaded, rx_hV 129 2 (ad 2) fX0_liesInMemory]
set_option maxHeartbeats 4000000 in
set_option maxRecDepth 100000 in
theorem eo_X3_find (l : Launch) (hl : l.stackTraces = false) (D : va_G) (ad : Nat → Nat) (cB : ClassId) (w2 : cS) (r : tx_R) : ∀ (p : Program) (e : Env) (s : State) (m : MethodId) (args : Array Value) (below : List Frame) (meth : Method) (c : Code), CallFix p m c cX3_find 6 s args (Cond.code yX3_find cX3_find 6 (some .int) :: wsA) yX3_find.cls → xK D cB s → tz (cA ad) s s.heap → c.exceptionTable.isEmpty = true → meth.locks = false → rx_Eok (fun H locs g => W p l e rX3_find s m args below meth c H locs 0 0 (tx_MQ below D vwCl (cA ad) (cW ad cB w2) r args s) g) m cX3_find 6 (tr_I D vwCl (cA ad) s (cW ad cB)) (eX3_find ad w2 r) := by
  intro p e s m args below meth c S0 hK hz hnh hlocks
  have S : CallFix p m c cX3_find 6 s args (Cond.code yX3_find cX3_find 6 (some .int) :: wsA) RX3 := S0
  have ht : ∀ w ∈ wsA, w.before args s = true := fun w h => S.2.2.2.2 w (wsA_in h)
  exact rx_any_c (rx_hVx_ok S ⟨Nat.le_of_ble_eq_true rfl, Nat.le_of_ble_eq_true rfl⟩ xK_tr hK hz hnh hlocks (cwV 0 S.2.2.2.2 (wsA_V wkX3_82 wiX3_needGood weX3_needGood winiX3 wX3_needGood) rfl rfl rfl (by decide +kernel) ⟨by decide, by decide⟩) (ct_X3_needGood l hl D ad cB).use (fun w E h => by rw [h.1, h.2]; exact ⟨rfl, rfl⟩) (fun w H hP => va_recv hK.1.1 hP (rfl : vwCl[3]? = some (RX3, TX3, 5)) (rfl : (cW ad cB w)[0]? = some _))) (rx_any_c (rx_hG_ok (fun w H locs pc ls rest hI hd k => va_get (D := D) (ci := 3) (C := RX3) (T := TX3) (N := 5) S.1 S.2.1 ht inX3 S.2.2.2.1 hK.1.1 hI.1 0 rfl rfl 1 (by decide) (ht _ wfX3_21) (fun _ h9 => h9) rfl hd k)) (rx_any_c (rx_hV_ok S ⟨Nat.zero_le _, Nat.zero_le _⟩ cK_tr hK.1 (cwV 0 S.2.2.2.2 (wsA_V wkX3_85 wiX0_segmentCount weX0_segmentCount winiX0 wX0_segmentCount) rfl rfl rfl (by decide +kernel) ⟨by decide, by decide⟩) (ct_X0_segmentCount l D ad cB) (fun w H hP => va_recv hK.1.1 hP (rfl : vwCl[0]? = some (RX0, TX0, 1)) (rfl : (cW ad cB w)[2]? = some _))) (rx_any_c (rx_hV_ok S ⟨Nat.zero_le _, Nat.zero_le _⟩ cK_tr hK.1 (cwV 1 S.2.2.2.2 (wsA_V wkX3_94 wiX0_segmentStart weX0_segmentStart winiX0 wX0_segmentStart) rfl rfl rfl (by decide +kernel) ⟨by decide, by decide⟩) (ct_X0_segmentStart l D ad cB) (fun w H hP => va_recv hK.1.1 hP (rfl : vwCl[0]? = some (RX0, TX0, 1)) (rfl : (cW ad cB w)[2]? = some _))) (rx_any_c (rx_hV_ok S ⟨Nat.zero_le _, Nat.zero_le _⟩ cK_tr hK.1 (cwV 1 S.2.2.2.2 (wsA_V wkX3_125 wiX0_isLoaded weX0_isLoaded winiX0 wX0_isLoaded) rfl rfl rfl (by decide +kernel) ⟨by decide, by decide⟩) (ct_X0_isLoaded l D ad cB) (fun w H hP => va_recv hK.1.1 hP (rfl : vwCl[0]? = some (RX0, TX0, 1)) (rfl : (cW ad cB w)[2]? = some _))) (rx_any_c (rx_hV_ok S ⟨Nat.zero_le _, Nat.zero_le _⟩ cK_tr hK.1 (cwV 2 S.2.2.2.2 (wsA_V wkX3_129 wiX0_liesInMemory weX0_liesInMemory winiX0 wX0_liesInMemory) rfl rfl rfl (by decide +kernel) ⟨by decide, by decide⟩) (ct_X0_liesInMemory l D ad cB) (fun w H hP => va_recv hK.1.1 hP (rfl : vwCl[0]? = some (RX0, TX0, 1)) (rfl : (cW ad cB w)[2]? = some _))) (rx_any_0))))))
set_option maxHeartbeats 4000000 in
set_option maxRecDepth 100000 in
theorem ct_X3_find (l : Launch) (hl : l.stackTraces = false) (D : va_G) (ad : Nat → Nat) (cB : ClassId) : ctX l yX3_find cX3_find 6 (some .int) rX3_find D ad cB [.ref (ad 0)] fX3_find := by
  intro w as g ok w1 v E hf hg w2 r H1 H2
  unfold fX3_find at hf
  split at hf
  · next x =>
    cases hf
    refine tx_of (rx_1c 15 (fun u w0 lv => w0 = w ∧ cG w ∧ ∃ k, k ≤ gC w.1 ∧ u = gC w.1 - k ∧ (∀ i, i < k → ¬ (gL w.1 i ∧ gI w.1 (uN x) i)) ∧ lv = [(0, .ref (ad 0)), (1, .long x), (3, .int (nI (gC w.1))), (4, .int (nI k))])) 300 300 100000 (by decide) rfl (Nat.le_of_ble_eq_true rfl) pX3_find_ok (tx_rt H1 H2 (rt_i _)) (eo_X3_find l hl D ad cB w2 r) ?_ ?_
    · intro pc g0 hpc u w0 lv hinv
      have hh := rx_1c_of hpc
      clear hpc
      obtain ⟨rfl, rfl⟩ := hh
      obtain ⟨hw0, a2, k, hk, rfl, hz, rfl⟩ := hinv
      subst hw0
      have hd := hg a2
      have h6 := gd6 hd
      have hc := gC_lt w0.1
      obtain ⟨e1, e2⟩ := H1 a2
      simp only [pX3_find, eX3_find, fX0_isLoaded, fX0_liesInMemory, fX0_segmentCount, fX0_segmentStart, fX3_needGood, rx_n, rx_s, rx_to, rx_get, rx_f1, rx_f2, rx_two, rx_ext, rx_any, rx_hV, rx_hS, rx_hG, rx_hP, rx_hAi, rx_hAb, rx_hBb, rx_hBi, rx_hL, rx_hLi, rx_got, rx_pop, rx_sum, rx_len, rx_c, rx_m1, lv_args, Value.category, rx_cut_n, rx_cut_1, rx_iconst, rx_bipush, rx_sipush, rx_lconst, rx_iload_n, rx_iload, rx_lload_n, rx_lload, rx_aload_n, rx_aload, rx_istore_n, rx_istore, rx_lstore_n, rx_lstore, rx_astore_n, rx_astore, rx_iinc, rx_iadd, rx_isub, rx_imul, rx_iand, rx_ixor, rx_ishr, rx_idiv, rx_irem, rx_ladd, rx_lsub, rx_land, rx_lor, rx_lxor, rx_lmul, rx_ldiv, rx_lrem, rx_lushr, rx_lshl, rx_lshr, rx_lneg, rx_i2l, rx_l2i, rx_i2b, rx_lcmp, rx_dup_i, rx_dup_a, rx_pop_i, rx_pop_a, rx_if_eq, rx_if_ne, rx_if_lt, rx_if_ge, rx_if_gt, rx_if_le, rx_icmp_eq, rx_icmp_ne, rx_icmp_lt, rx_icmp_ge, rx_icmp_gt, rx_icmp_le, rx_goto, rx_tsw, rx_ireturn, rx_lreturn, rx_return_, rx_getfield, rx_putfield, rx_invokevirtual, rx_invokespecial, rx_invokestatic, rx_ldc, rx_ldc2_w, rx_iaload, rx_iastore, rx_baload, rx_bastore, rx_hVx, rx_hSx, rx_gotx, tx_X_c, tx_X_0, tx_n_e, tx_e_e, rx_cut_n, Nat.reduceBEq, Nat.reduceAdd, Nat.reduceSub, Nat.reduceMul, Nat.reduceLeDiff, Nat.reduceEqDiff, Nat.reduceLT, Int.reduceLT, Int.reduceLE, Int.reduceNeg, Int.reduceToNat, Int.reduceAdd, Fin.isValue, Fin.val_zero, Fin.val_one, Fin.reduceFinMk, Fin.val_ofNat, Bool.or_true, Bool.true_or, Bool.or_false, Bool.false_or, Bool.and_true, Bool.true_and, Bool.and_false, Bool.false_and, cond_true, cond_false, ↓reduceIte, eq_self, ne_eq, not_true_eq_false, not_false_eq_true, true_and, and_true, Option.toList_some, Option.toList_none, List.cons_append, List.nil_append, Option.some.injEq, Value.int.injEq, Value.long.injEq, rx_l0, rx_l1, rx_fv0, rx_fv1, rx_fv2, rx_fv3, nI_c1, nI_c2, nI_c4, nI_c8, nI_c9, nI_c24, nI_c64, Nat.le_refl, bI_z, bI_0, bI_1, Classical.not_not, lg_cmp_ge, lg_cmp_le, lg_cmp_gt, lg_cmp_lt, lg_cmp_eq]
      rw [nI_leI (by omega) (by omega)]
      refine ⟨fun h => ⟨e1.symm, ?_⟩, fun h => ?_⟩
      · rw [e2, oI_none (fun i hi => hz i (by omega))]
      have hk2 : k < gC w0.1 := by omega
      have next : nI k + nI 1 = nI (k + 1) := nI_add k 1
      have hA := t6_gA h6 hk2
      simp (disch := omega) only [t6_gS h6, nm_at, nm_a0]
      have go : (¬ (gL w0.1 k ∧ gI w0.1 (uN x) k)) → ∀ i, i < k + 1 → ¬ (gL w0.1 i ∧ gI w0.1 (uN x) i) := fun q => lt_s hz q
      refine ⟨fun h2 => ?_, fun h2 => ⟨fun h3 => ?_, fun h3 => ?_⟩⟩
      · refine ⟨gC w0.1 - (k + 1), _, by omega, ⟨a2, k + 1, by omega, rfl, go (fun q => h2 q.1), rfl⟩, ?_⟩
        simp only [List.mem_cons, List.not_mem_nil, or_false, forall_eq_or_imp, forall_eq, Nat.reduceBEq, cond_true, cond_false, Option.some.injEq, Value.int.injEq, Value.long.injEq, Value.ref.injEq, true_and, and_true]
        exact next
      · refine ⟨gC w0.1 - (k + 1), _, by omega, ⟨a2, k + 1, by omega, rfl, go (fun q => h3 q.2), rfl⟩, ?_⟩
        simp only [List.mem_cons, List.not_mem_nil, or_false, forall_eq_or_imp, forall_eq, Nat.reduceBEq, cond_true, cond_false, Option.some.injEq, Value.int.injEq, Value.long.injEq, Value.ref.injEq, true_and, and_true]
        exact next
      · rw [e2, oI_some hz ⟨h2, h3⟩ hk2]
        exact ⟨e1.symm, rfl⟩
    · simp only [pX3_find, eX3_find, fX0_isLoaded, fX0_liesInMemory, fX0_segmentCount, fX0_segmentStart, fX3_needGood, rx_n, rx_s, rx_to, rx_get, rx_f1, rx_f2, rx_two, rx_ext, rx_any, rx_hV, rx_hS, rx_hG, rx_hP, rx_hAi, rx_hAb, rx_hBb, rx_hBi, rx_hL, rx_hLi, rx_got, rx_pop, rx_sum, rx_len, rx_c, rx_m1, lv_args, Value.category, rx_cut_n, rx_cut_1, rx_iconst, rx_bipush, rx_sipush, rx_lconst, rx_iload_n, rx_iload, rx_lload_n, rx_lload, rx_aload_n, rx_aload, rx_istore_n, rx_istore, rx_lstore_n, rx_lstore, rx_astore_n, rx_astore, rx_iinc, rx_iadd, rx_isub, rx_imul, rx_iand, rx_ixor, rx_ishr, rx_idiv, rx_irem, rx_ladd, rx_lsub, rx_land, rx_lor, rx_lxor, rx_lmul, rx_ldiv, rx_lrem, rx_lushr, rx_lshl, rx_lshr, rx_lneg, rx_i2l, rx_l2i, rx_i2b, rx_lcmp, rx_dup_i, rx_dup_a, rx_pop_i, rx_pop_a, rx_if_eq, rx_if_ne, rx_if_lt, rx_if_ge, rx_if_gt, rx_if_le, rx_icmp_eq, rx_icmp_ne, rx_icmp_lt, rx_icmp_ge, rx_icmp_gt, rx_icmp_le, rx_goto, rx_tsw, rx_ireturn, rx_lreturn, rx_return_, rx_getfield, rx_putfield, rx_invokevirtual, rx_invokespecial, rx_invokestatic, rx_ldc, rx_ldc2_w, rx_iaload, rx_iastore, rx_baload, rx_bastore, rx_hVx, rx_hSx, rx_gotx, tx_X_c, tx_X_0, tx_n_e, tx_e_e, rx_cut_n, Nat.reduceBEq, Nat.reduceAdd, Nat.reduceSub, Nat.reduceMul, Nat.reduceLeDiff, Nat.reduceEqDiff, Nat.reduceLT, Int.reduceLT, Int.reduceLE, Int.reduceNeg, Int.reduceToNat, Int.reduceAdd, Fin.isValue, Fin.val_zero, Fin.val_one, Fin.reduceFinMk, Fin.val_ofNat, Bool.or_true, Bool.true_or, Bool.or_false, Bool.false_or, Bool.and_true, Bool.true_and, Bool.and_false, Bool.false_and, cond_true, cond_false, ↓reduceIte, eq_self, ne_eq, not_true_eq_false, not_false_eq_true, true_and, and_true, Option.toList_some, Option.toList_none, List.cons_append, List.nil_append, Option.some.injEq, Value.int.injEq, Value.long.injEq, rx_l0, rx_l1, rx_fv0, rx_fv1, rx_fv2, rx_fv3, nI_c1, nI_c2, nI_c4, nI_c8, nI_c9, nI_c24, nI_c64, Nat.le_refl, bI_z, bI_0, bI_1, Classical.not_not, lg_cmp_ge, lg_cmp_le, lg_cmp_gt, lg_cmp_lt, lg_cmp_eq]
      by_cases a2 : cG w
      · have hd := hg a2
        have h6 := gd6 hd
        have hc := gC_lt w.1
        rw [t6_gC h6]
        refine ⟨fun _ => ⟨gC w.1, _, by omega, ⟨a2, 0, by omega, rfl, lt_0, rfl⟩, ?_⟩, fun z => absurd a2 z⟩
        simp only [List.mem_cons, List.not_mem_nil, or_false, forall_eq_or_imp, forall_eq, Nat.reduceBEq, cond_true, cond_false, Option.some.injEq, Value.int.injEq, Value.long.injEq, Value.ref.injEq, true_and, and_true]
      · obtain ⟨rfl, rfl⟩ := H2 a2
        exact ⟨fun z => absurd z a2, fun _ => ⟨rfl, rfl⟩⟩
  · cases hf
