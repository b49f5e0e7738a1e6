def pX3_many : rx_P := [(0, .iload_n 1, 0), (1, .iconst 1, 0), (2, .invokestatic 79, 0), (5, .aload_n 0, 0), (6, .invokevirtual 82, 0), (9, .iload_n 1, 0), (10, .ifCond .ne 13, 23), (13, .aload_n 0, 0), (14, .getfield 21, 0), (17, .invokevirtual 85, 0), (20, .goto 10, 30), (23, .aload_n 0, 0), (24, .getfield 21, 0), (27, .invokevirtual 88, 0), (30, .ireturn, 0)]
theorem pX3_many_ok : ∀ q ∈ pX3_many, rx_ok cX3_many q := rx_ok_all (by decide +kernel)
abbrev rX3_many : Room := { frames := 7, cells := 1, slots := 6, locals := 104 }
noncomputable def fX3_many : rx_Fx cS := fun w as => match as with
  | [.int x] => some (cG w → gd w.1, cMany (cG w) x = 0, w, some (.int (cif (x = 0) (nI (gC w.1)) (nI (sC w.1)))), eE xIA xIS xIS (cMany (cG w) x))
  | _ => none
noncomputable def eX3_many (ad : Nat → Nat) (w2 : cS) (r : tx_R) : rx_E cS := rx_any [rx_hSx 79 2 (fun w E => w = w2 ∧ r = .inr E) fX3_needWhat, rx_hVx 82 0 (ad 0) (fun w E => w = w2 ∧ r = .inr E) fX3_needGood, rx_hG 21 (ad 0) (fun w => .ref (ad 2)), rx_hV 85 0 (ad 2) fX0_segmentCount, rx_hV 88 0 (ad 2) fX0_sectionCount]
set_option maxHeartbeats 4000000 in
set_option maxRecDepth 100000 in
theorem eo_X3_many (l : Launch) (hl : l.stackTraces = false) (D : va_G) (ad : Nat → Nat) (cB : ClassId) (w2 : cS) (r : tx_R) : ∀ (p : Program) (e : Env) (s : State) (m : MethodId) (args : Array Value) (below : List Frame) (meth : Method) (c : Code), CallFix p m c cX3_many 2 s args (Cond.code yX3_many cX3_many 2 (some .int) :: wsA) yX3_many.cls → xK D cB s → tz (cA ad) s s.heap → c.exceptionTable.isEmpty = true → meth.locks = false → rx_Eok (fun H locs g => W p l e rX3_many s m args below meth c H locs 0 0 (tx_MQ below D vwCl (cA ad) (cW ad cB w2) r args s) g) m cX3_many 2 (tr_I D vwCl (cA ad) s (cW ad cB)) (eX3_many ad w2 r) := by
  intro p e s m args below meth c S0 hK hz hnh hlocks
  have S : CallFix p m c cX3_many 2 s args (Cond.code yX3_many cX3_many 2 (some .int) :: wsA) RX3 := S0
  have ht : ∀ w ∈ wsA, w.before args s = true := fun w h => S.2.2.2.2 w (wsA_in h)
  exact rx_any_c (rx_hSx_ok S ⟨Nat.le_of_ble_eq_true rfl, Nat.le_of_ble_eq_true rfl⟩ xK_tr hK hz hnh hlocks (va_cwS 2 S.2.2.2.2 (wsA_S wkX3_79 wsX3_needWhat winiX3 wX3_needWhat) rfl rfl rfl (by decide +kernel) ⟨by decide, by decide⟩) (ct_X3_needWhat l hl D ad cB).use (fun w E h => by rw [h.1, h.2]; exact ⟨rfl, rfl⟩)) (rx_any_c (rx_hVx_ok S ⟨Nat.le_of_ble_eq_true rfl, Nat.le_of_ble_eq_true rfl⟩ xK_tr hK hz hnh hlocks (cwV 0 S.2.2.2.2 (wsA_V wkX3_82 wiX3_needGood weX3_needGood winiX3 wX3_needGood) rfl rfl rfl (by decide +kernel) ⟨by decide, by decide⟩) (ct_X3_needGood l hl D ad cB).use (fun w E h => by rw [h.1, h.2]; exact ⟨rfl, rfl⟩) (fun w H hP => va_recv hK.1.1 hP (rfl : vwCl[3]? = some (RX3, TX3, 5)) (rfl : (cW ad cB w)[0]? = some _))) (rx_any_c (rx_hG_ok (fun w H locs pc ls rest hI hd k => va_get (D := D) (ci := 3) (C := RX3) (T := TX3) (N := 5) S.1 S.2.1 ht inX3 S.2.2.2.1 hK.1.1 hI.1 0 rfl rfl 1 (by decide) (ht _ wfX3_21) (fun _ h9 => h9) rfl hd k)) (rx_any_c (rx_hV_ok S ⟨Nat.zero_le _, Nat.zero_le _⟩ cK_tr hK.1 (cwV 0 S.2.2.2.2 (wsA_V wkX3_85 wiX0_segmentCount weX0_segmentCount winiX0 wX0_segmentCount) rfl rfl rfl (by decide +kernel) ⟨by decide, by decide⟩) (ct_X0_segmentCount l D ad cB) (fun w H hP => va_recv hK.1.1 hP (rfl : vwCl[0]? = some (RX0, TX0, 1)) (rfl : (cW ad cB w)[2]? = some _))) (rx_any_c (rx_hV_ok S ⟨Nat.zero_le _, Nat.zero_le _⟩ cK_tr hK.1 (cwV 0 S.2.2.2.2 (wsA_V wkX3_88 wiX0_sectionCount weX0_sectionCount winiX0 wX0_sectionCount) rfl rfl rfl (by decide +kernel) ⟨by decide, by decide⟩) (ct_X0_sectionCount l D ad cB) (fun w H hP => va_recv hK.1.1 hP (rfl : vwCl[0]? = some (RX0, TX0, 1)) (rfl : (cW ad cB w)[2]? = some _))) (rx_any_0)))))
set_option maxHeartbeats 4000000 in
set_option maxRecDepth 100000 in
theorem ct_X3_many (l : Launch) (hl : l.stackTraces = false) (D : va_G) (ad : Nat → Nat) (cB : ClassId) : ctX l yX3_many cX3_many 2 (some .int) rX3_many D ad cB [.ref (ad 0)] fX3_many := by
  intro w as g ok w1 v E hf hg w2 r H1 H2
  unfold fX3_many at hf
  split at hf
  · next x =>
    cases hf
    refine tx_of rx_nc 0 300 0 (by decide) rfl (Nat.le_of_ble_eq_true rfl) pX3_many_ok (tx_rt H1 H2 (rt_i _)) (eo_X3_many l hl D ad cB w2 r) (fun pc g h => by cases h) ?_
    simp only [pX3_many, eX3_many, fX0_sectionCount, fX0_segmentCount, fX3_needGood, fX3_needWhat, rx_n, rx_s, rx_to, rx_get, rx_f1, rx_f2, rx_two, rx_ext, rx_any, rx_hV, rx_hS, rx_hG, rx_hP, rx_hAi, rx_hAb, rx_hBb, rx_hBi, rx_hL, rx_hLi, rx_got, rx_pop, rx_sum, rx_len, rx_c, rx_m1, lv_args, Value.category, rx_cut_n, rx_cut_1, rx_iconst, rx_bipush, rx_sipush, rx_lconst, rx_iload_n, rx_iload, rx_lload_n, rx_lload, rx_aload_n, rx_aload, rx_istore_n, rx_istore, rx_lstore_n, rx_lstore, rx_astore_n, rx_astore, rx_iinc, rx_iadd, rx_isub, rx_imul, rx_iand, rx_ixor, rx_ishr, rx_idiv, rx_irem, rx_ladd, rx_lsub, rx_land, rx_lor, rx_lxor, rx_lmul, rx_ldiv, rx_lrem, rx_lushr, rx_lshl, rx_lshr, rx_lneg, rx_i2l, rx_l2i, rx_i2b, rx_lcmp, rx_dup_i, rx_dup_a, rx_pop_i, rx_pop_a, rx_if_eq, rx_if_ne, rx_if_lt, rx_if_ge, rx_if_gt, rx_if_le, rx_icmp_eq, rx_icmp_ne, rx_icmp_lt, rx_icmp_ge, rx_icmp_gt, rx_icmp_le, rx_goto, rx_tsw, rx_ireturn, rx_lreturn, rx_return_, rx_getfield, rx_putfield, rx_invokevirtual, rx_invokespecial, rx_invokestatic, rx_ldc, rx_ldc2_w, rx_iaload, rx_iastore, rx_baload, rx_bastore, rx_hVx, rx_hSx, rx_gotx, tx_X_c, tx_X_0, tx_n_e, tx_e_e, rx_cut_n, Nat.reduceBEq, Nat.reduceAdd, Nat.reduceSub, Nat.reduceMul, Nat.reduceLeDiff, Nat.reduceEqDiff, Nat.reduceLT, Int.reduceLT, Int.reduceLE, Int.reduceNeg, Int.reduceToNat, Int.reduceAdd, Fin.isValue, Fin.val_zero, Fin.val_one, Fin.reduceFinMk, Fin.val_ofNat, Bool.or_true, Bool.true_or, Bool.or_false, Bool.false_or, Bool.and_true, Bool.true_and, Bool.and_false, Bool.false_and, cond_true, cond_false, ↓reduceIte, eq_self, ne_eq, not_true_eq_false, not_false_eq_true, true_and, and_true, Option.toList_some, Option.toList_none, List.cons_append, List.nil_append, Option.some.injEq, Value.int.injEq, Value.long.injEq, rx_l0, rx_l1, rx_fv0, rx_fv1, rx_fv2, rx_fv3, nI_c1, nI_c2, nI_c4, nI_c8, nI_c9, nI_c24, nI_c64, Nat.le_refl, bI_z, bI_0, bI_1, Classical.not_not, lg_cmp_ge, lg_cmp_le, lg_cmp_gt, lg_cmp_lt, lg_cmp_eq]
    by_cases a1 : vp_in x 2
    · by_cases a2 : cG w
      · have h6 := gd6 (hg a2)
        obtain ⟨rfl, rfl⟩ := H1 (by unfold cMany; rw [cif_t a1, cif_t a2])
        refine ⟨fun _ => ⟨fun _ => ⟨fun z => ⟨rfl, ?_⟩, fun z => ⟨rfl, ?_⟩⟩, fun z => absurd a2 z⟩, fun z => absurd a1 z⟩
        · rw [cif_f z, t6_sC h6]
        · rw [cif_t z, t6_gC h6]
      · have hc : cMany (cG w) x = 2 := by unfold cMany; rw [cif_t a1, cif_f a2]
        obtain ⟨rfl, rfl⟩ := H2 (by rw [hc]; decide)
        refine ⟨fun _ => ⟨fun z => absurd z a2, fun _ => ⟨rfl, ?_⟩⟩, fun z => absurd a1 z⟩
        rw [hc]; rfl
    · have hc : cMany (cG w) x = 1 := by unfold cMany; rw [cif_f a1]
      obtain ⟨rfl, rfl⟩ := H2 (by rw [hc]; decide)
      refine ⟨fun z => absurd z a1, fun _ => ⟨rfl, ?_⟩⟩
      rw [hc]; rfl
  · cases hf
def pX3_symbols : rx_P := [(0, .aload_n 0, 0), (1, .invokevirtual 82, 0), (4, .iload_n 1, 0), (5, .aload_n 0, 0), (6, .getfield 21, 0), (9, .invokevirtual 88, 0), (12, .invokestatic 91, 0), (15, .aload_n 0, 0), (16, .getfield 21, 0), (19, .aload_n 0, 0), (20, .getfield 21, 0), (23, .iload_n 1, 0), (24, .invokevirtual 102, 0), (27, .invokevirtual 111, 0), (30, .ireturn, 0)]
theorem pX3_symbols_ok : ∀ q ∈ pX3_symbols, rx_ok cX3_symbols q := rx_ok_all (by decide +kernel)
abbrev rX3_symbols : Room := { frames := 7, cells := 1, slots := 6, locals := 104 }
noncomputable def fX3_symbols : rx_Fx cS := fun w as => match as with
  | [.int k] => some (cG w → gd w.1, cSyms (cG w) w.1 k = 0, w, some (.int (nI (cO w.1 k.toNatClampNeg))), eE xIS xNE xNE (cSyms (cG w) w.1 k))
  | _ => none
noncomputable def eX3_symbols (ad : Nat → Nat) (w2 : cS) (r : tx_R) : rx_E cS := rx_any [rx_hVx 82 0 (ad 0) (fun w E => w = w2 ∧ r = .inr E) fX3_needGood, rx_hG 21 (ad 0) (fun w => .ref (ad 2)), rx_hV 88 0 (ad 2) fX0_sectionCount, rx_hSx 91 2 (fun w E => w = w2 ∧ r = .inr E) fX3_needNumber, rx_hV 102 1 (ad 2) fX0_sectionStart, rx_hV 111 1 (ad 2) fX0_symbolCount]
set_option maxHeartbeats 4000000 in
set_option maxRecDepth 100000 in
theorem eo_X3_symbols (l : Launch) (hl : l.stackTraces = false) (D : va_G) (ad : Nat → Nat) (cB : ClassId) (w2 : cS) (r : tx_R) : ∀ (p : Program) (e : Env) (s : State) (m : MethodId) (args : Array Value) (below : List Frame) (meth : Method) (c : Code), CallFix p m c cX3_symbols 2 s args (Cond.code yX3_symbols cX3_symbols 2 (some .int) :: wsA) yX3_symbols.cls → xK D cB s → tz (cA ad) s s.heap → c.exceptionTable.isEmpty = true → meth.locks = false → rx_Eok (fun H locs g => W p l e rX3_symbols s m args below meth c H locs 0 0 (tx_MQ below D vwCl (cA ad) (cW ad cB w2) r args s) g) m cX3_symbols 2 (tr_I D vwCl (cA ad) s (cW ad cB)) (eX3_symbols ad w2 r) := by
  intro p e s m args below meth c S0 hK hz hnh hlocks
  have S : CallFix p m c cX3_symbols 2 s args (Cond.code yX3_symbols cX3_symbols 2 (some .int) :: wsA) RX3 := S0
  have ht : ∀ w ∈ wsA, w.before args s = true := fun w h => S.2.2.2.2 w (wsA_in h)
  exact rx_any_c (rx_hVx_ok S ⟨Nat.le_of_ble_eq_true rfl, Nat.le_of_ble_eq_true rfl⟩ xK_tr hK hz hnh hlocks (cwV 0 S.2.2.2.2 (wsA_V wkX3_82 wiX3_needGood weX3_needGood winiX3 wX3_needGood) rfl rfl rfl (by decide +kernel) ⟨by decide, by decide⟩) (ct_X3_needGood l hl D ad cB).use (fun w E h => by rw [h.1, h.2]; exact ⟨rfl, rfl⟩) (fun w H hP => va_recv hK.1.1 hP (rfl : vwCl[3]? = some (RX3, TX3, 5)) (rfl : (cW ad cB w)[0]? = some _))) (rx_any_c (rx_hG_ok (fun w H locs pc ls rest hI hd k => va_get (D := D) (ci := 3) (C := RX3) (T := TX3) (N := 5) S.1 S.2.1 ht inX3 S.2.2.2.1 hK.1.1 hI.1 0 rfl rfl 1 (by decide) (ht _ wfX3_21) (fun _ h9 => h9) rfl hd k)) (rx_any_c (rx_hV_ok S ⟨Nat.zero_le _, Nat.zero_le _⟩ cK_tr hK.1 (cwV 0 S.2.2.2.2 (wsA_V wkX3_88 wiX0_sectionCount weX0_sectionCount winiX0 wX0_sectionCount) rfl rfl rfl (by decide +kernel) ⟨by decide, by decide⟩) (ct_X0_sectionCount l D ad cB) (fun w H hP => va_recv hK.1.1 hP (rfl : vwCl[0]? = some (RX0, TX0, 1)) (rfl : (cW ad cB w)[2]? = some _))) (rx_any_c (rx_hSx_ok S ⟨Nat.le_of_ble_eq_true rfl, Nat.le_of_ble_eq_true rfl⟩ xK_tr hK hz hnh hlocks (va_cwS 2 S.2.2.2.2 (wsA_S wkX3_91 wsX3_needNumber winiX3 wX3_needNumber) rfl rfl rfl (by decide +kernel) ⟨by decide, by decide⟩) (ct_X3_needNumber l hl D ad cB).use (fun w E h => by rw [h.1, h.2]; exact ⟨rfl, rfl⟩)) (rx_any_c (rx_hV_ok S ⟨Nat.zero_le _, Nat.zero_le _⟩ cK_tr hK.1 (cwV 1 S.2.2.2.2 (wsA_V wkX3_102 wiX0_sectionStart weX0_sectionStart winiX0 wX0_sectionStart) rfl rfl rfl (by decide +kernel) ⟨by decide, by decide⟩) (ct_X0_sectionStart l D ad cB) (fun w H hP => va_recv hK.1.1 hP (rfl : vwCl[0]? = some (RX0, TX0, 1)) (rfl : (cW ad cB w)[2]? = some _))) (rx_any_c (rx_hV_ok S ⟨Nat.zero_le _, Nat.zero_le _⟩ cK_tr hK.1 (cwV 1 S.2.2.2.2 (wsA_V wkX3_111 wiX0_symbolCount weX0_symbolCount winiX0 wX0_symbolCount) rfl rfl rfl (by decide +kernel) ⟨by decide, by decide⟩) (ct_X0_symbolCount l D ad cB) (fun w H hP => va_recv hK.1.1 hP (rfl : vwCl[0]? = some (RX0, TX0, 1)) (rfl : (cW ad cB w)[2]? = some _))) (rx_any_0))))))
set_option maxHeartbeats 4000000 in
set_option maxRecDepth 100000 in
theorem ct_X3_symbols (l : Launch) (hl : l.stackTraces = false) (D : va_G) (ad : Nat → Nat) (cB : ClassId) : ctX l yX3_symbols cX3_symbols 2 (some .int) rX3_symbols D ad cB [.ref (ad 0)] fX3_symbols := by
  intro w as g ok w1 v E hf hg w2 r H1 H2
  unfold fX3_symbols at hf
  split at hf
  · next k =>
    cases hf
    refine tx_of rx_nc 0 300 0 (by decide) rfl (Nat.le_of_ble_eq_true rfl) pX3_symbols_ok (tx_rt H1 H2 (rt_i _)) (eo_X3_symbols l hl D ad cB w2 r) (fun pc g h => by cases h) ?_
    simp only [pX3_symbols, eX3_symbols, fX0_sectionCount, fX0_sectionStart, fX0_symbolCount, fX3_needGood, fX3_needNumber, rx_n, rx_s, rx_to, rx_get, rx_f1, rx_f2, rx_two, rx_ext, rx_any, rx_hV, rx_hS, rx_hG, rx_hP, rx_hAi, rx_hAb, rx_hBb, rx_hBi, rx_hL, rx_hLi, rx_got, rx_pop, rx_sum, rx_len, rx_c, rx_m1, lv_args, Value.category, rx_cut_n, rx_cut_1, rx_iconst, rx_bipush, rx_sipush, rx_lconst, rx_iload_n, rx_iload, rx_lload_n, rx_lload, rx_aload_n, rx_aload, rx_istore_n, rx_istore, rx_lstore_n, rx_lstore, rx_astore_n, rx_astore, rx_iinc, rx_iadd, rx_isub, rx_imul, rx_iand, rx_ixor, rx_ishr, rx_idiv, rx_irem, rx_ladd, rx_lsub, rx_land, rx_lor, rx_lxor, rx_lmul, rx_ldiv, rx_lrem, rx_lushr, rx_lshl, rx_lshr, rx_lneg, rx_i2l, rx_l2i, rx_i2b, rx_lcmp, rx_dup_i, rx_dup_a, rx_pop_i, rx_pop_a, rx_if_eq, rx_if_ne, rx_if_lt, rx_if_ge, rx_if_gt, rx_if_le, rx_icmp_eq, rx_icmp_ne, rx_icmp_lt, rx_icmp_ge, rx_icmp_gt, rx_icmp_le, rx_goto, rx_tsw, rx_ireturn, rx_lreturn, rx_return_, rx_getfield, rx_putfield, rx_invokevirtual, rx_invokespecial, rx_invokestatic, rx_ldc, rx_ldc2_w, rx_iaload, rx_iastore, rx_baload, rx_bastore, rx_hVx, rx_hSx, rx_gotx, tx_X_c, tx_X_0, tx_n_e, tx_e_e, rx_cut_n, Nat.reduceBEq, Nat.reduceAdd, Nat.reduceSub, Nat.reduceMul, Nat.reduceLeDiff, Nat.reduceEqDiff, Nat.reduceLT, Int.reduceLT, Int.reduceLE, Int.reduceNeg, Int.reduceToNat, Int.reduceAdd, Fin.isValue, Fin.val_zero, Fin.val_one, Fin.reduceFinMk, Fin.val_ofNat, Bool.or_true, Bool.true_or, Bool.or_false, Bool.false_or, Bool.and_true, Bool.true_and, Bool.and_false, Bool.false_and, cond_true, cond_false, ↓reduceIte, eq_self, ne_eq, not_true_eq_false, not_false_eq_true, true_and, and_true, Option.toList_some, Option.toList_none, List.cons_append, List.nil_append, Option.some.injEq, Value.int.injEq, Value.long.injEq, rx_l0, rx_l1, rx_fv0, rx_fv1, rx_fv2, rx_fv3, nI_c1, nI_c2, nI_c4, nI_c8, nI_c9, nI_c24, nI_c64, Nat.le_refl, bI_z, bI_0, bI_1, Classical.not_not, lg_cmp_ge, lg_cmp_le, lg_cmp_gt, lg_cmp_lt, lg_cmp_eq]
    simp only [nu_c2, nu_s2, and_true, true_and]
    by_cases a2 : cG w
    · have hd := hg a2
      have h6 := gd6 hd
      rw [t6_sC h6]
      by_cases a3 : vp_in k (sC w.1)
      · obtain ⟨j, hj, -, rfl, ej⟩ := vp_jx a3
        obtain ⟨rfl, rfl⟩ := H1 (by unfold cSyms; rw [cif_t a2, cif_t a3])
        refine ⟨fun _ => ⟨fun _ => ⟨rfl, ?_⟩, fun z => absurd a3 z⟩, fun z => absurd a2 z⟩
        rw [ej, t6_sS h6, yC_at hd hj]
      · have hc : cSyms (cG w) w.1 k = 2 := by unfold cSyms; rw [cif_t a2, cif_f a3]
        obtain ⟨rfl, rfl⟩ := H2 (by rw [hc]; decide)
        refine ⟨fun _ => ⟨fun z => absurd z a3, fun _ => ⟨rfl, ?_⟩⟩, fun z => absurd a2 z⟩
        rw [hc]; rfl
    · have hc : cSyms (cG w) w.1 k = 1 := by unfold cSyms; rw [cif_f a2]
      obtain ⟨rfl, rfl⟩ := H2 (by rw [hc]; decide)
      refine ⟨fun z => absurd z a2, fun _ => ⟨rfl, ?_⟩⟩
      rw [hc]; rfl
  · cases hf
def pX3_letter : rx_P := [(0, .aload_n 0, 0), (1, .invokevirtual 82, 0), (4, .iload_n 1, 0), (5, .aload_n 0, 0), (6, .getfield 21, 0), (9, .invokevirtual 88, 0), (12, .invokestatic 91, 0), (15, .aload_n 0, 0), (16, .getfield 21, 0), (19, .aload_n 0, 0), (20, .getfield 21, 0), (23, .iload_n 1, 0), (24, .invokevirtual 102, 0), (27, .invokevirtual 105, 0), (30, .istore_n 3, 0), (31, .iload_n 2, 0), (32, .aload_n 0, 0), (33, .getfield 10, 0), (36, .iload_n 3, 0), (37, .invokevirtual 108, 0), (40, .invokestatic 91, 0), (43, .aload_n 0, 0), (44, .getfield 10, 0), (47, .iload_n 3, 0), (48, .iload_n 2, 0), (49, .iadd, 0), (50, .iconst 1, 0), (51, .invokevirtual 98, 0), (54, .l2i, 0), (55, .ireturn, 0)]
theorem pX3_letter_ok : ∀ q ∈ pX3_letter, rx_ok cX3_letter q := rx_ok_all (by decide +kernel)
abbrev rX3_letter : Room := { frames := 7, cells := 1, slots := 6, locals := 104 }
noncomputable def fX3_letter : rx_Fx cS := fun w as => match as with
  | [.int k, .int i] => some (cG w → gd w.1, cLet (cG w) w.1 k i = 0, w, some (.int (nI (bg w.1 (nmA w.1 k.toNatClampNeg + i.toNatClampNeg)))), eE xIS xNE xNE (cLet (cG w) w.1 k i))
  | _ => none
noncomputable def eX3_letter (ad : Nat → Nat) (w2 : cS) (r : tx_R) : rx_E cS := rx_any [rx_hVx 82 0 (ad 0) (fun w E => w = w2 ∧ r = .inr E) fX3_needGood, rx_hG 21 (ad 0) (fun w => .ref (ad 2)), rx_hV 88 0 (ad 2) fX0_sectionCount, rx_hSx 91 2 (fun w E => w = w2 ∧ r = .inr E) fX3_needNumber, rx_hV 102 1 (ad 2) fX0_sectionStart, rx_hV 105 1 (ad 2) fX0_sectionNamePlace, rx_hG 10 (ad 0) (fun w => .ref (ad 1)), rx_hV 108 1 (ad 1) fX1_textLength, rx_hV 98 2 (ad 1) fX1_number]
set_option maxHeartbeats 4000000 in
set_option maxRecDepth 100000 in
theorem eo_X3_letter (l : Launch) (hl : l.stackTraces = false) (D : va_G) (ad : Nat → Nat) (cB : ClassId) (w2 : cS) (r : tx_R) : ∀ (p : Program) (e : Env) (s : State) (m : MethodId) (args : Array Value) (below : List Frame) (meth : Method) (c : Code), CallFix p m c cX3_letter 4 s args (Cond.code yX3_letter cX3_letter 4 (some .int) :: wsA) yX3_letter.cls → xK D cB s → tz (cA ad) s s.heap → c.exceptionTable.isEmpty = true → meth.locks = false → rx_Eok (fun H locs g => W p l e rX3_letter s m args below meth c H locs 0 0 (tx_MQ below D vwCl (cA ad) (cW ad cB w2) r args s) g) m cX3_letter 4 (tr_I D vwCl (cA ad) s (cW ad cB)) (eX3_letter ad w2 r) := by
  intro p e s m args below meth c S0 hK hz hnh hlocks
  have S : CallFix p m c cX3_letter 4 s args (Cond.code yX3_letter cX3_letter 4 (some .int) :: wsA) RX3 := S0
  have ht : ∀ w ∈ wsA, w.before args s = true := fun w h => S.2.2.2.2 w (wsA_in h)
  exact rx_any_c (rx_hVx_ok S ⟨Nat.le_of_ble_eq_true rfl, Nat.le_of_ble_eq_true rfl⟩ xK_tr hK hz hnh hlocks (cwV 0 S.2.2.2.2 (wsA_V wkX3_82 wiX3_needGood weX3_needGood winiX3 wX3_needGood) rfl rfl rfl (by decide +kernel) ⟨by decide, by decide⟩) (ct_X3_needGood l hl D ad cB).use (fun w E h => by rw [h.1, h.2]; exact ⟨rfl, rfl⟩) (fun w H hP => va_recv hK.1.1 hP (rfl : vwCl[3]? = some (RX3, TX3, 5)) (rfl : (cW ad cB w)[0]? = some _))) (rx_any_c (rx_hG_ok (fun w H locs pc ls rest hI hd k => va_get (D := D) (ci := 3) (C := RX3) (T := TX3) (N := 5) S.1 S.2.1 ht inX3 S.2.2.2.1 hK.1.1 hI.1 0 rfl rfl 1 (by decide) (ht _ wfX3_21) (fun _ h9 => h9) rfl hd k)) (rx_any_c (rx_hV_ok S ⟨Nat.zero_le _, Nat.zero_le _⟩ cK_tr hK.1 (cwV 0 S.2.2.2.2 (wsA_V wkX3_88 wiX0_sectionCount weX0_sectionCount winiX0 wX0_sectionCount) rfl rfl rfl (by decide +kernel) ⟨by decide, by decide⟩) (ct_X0_sectionCount l D ad cB) (fun w H hP => va_recv hK.1.1 hP (rfl : vwCl[0]? = some (RX0, TX0, 1)) (rfl : (cW ad cB w)[2]? = some _))) (rx_any_c (rx_hSx_ok S ⟨Nat.le_of_ble_eq_true rfl, Nat.le_of_ble_eq_true rfl⟩ xK_tr hK hz hnh hlocks (va_cwS 2 S.2.2.2.2 (wsA_S wkX3_91 wsX3_needNumber winiX3 wX3_needNumber) rfl rfl rfl (by decide +kernel) ⟨by decide, by decide⟩) (ct_X3_needNumber l hl D ad cB).use (fun w E h => by rw [h.1, h.2]; exact ⟨rfl, rfl⟩)) (rx_any_c (rx_hV_ok S ⟨Nat.zero_le _, Nat.zero_le _⟩ cK_tr hK.1 (cwV 1 S.2.2.2.2 (wsA_V wkX3_102 wiX0_sectionStart weX0_sectionStart winiX0 wX0_sectionStart) rfl rfl rfl (by decide +kernel) ⟨by decide, by decide⟩) (ct_X0_sectionStart l D ad cB) (fun w H hP => va_recv hK.1.1 hP (rfl : vwCl[0]? = some (RX0, TX0, 1)) (rfl : (cW ad cB w)[2]? = some _))) (rx_any_c (rx_hV_ok S ⟨Nat.zero_le _, Nat.zero_le _⟩ cK_tr hK.1 (cwV 1 S.2.2.2.2 (wsA_V wkX3_105 wiX0_sectionNamePlace weX0_sectionNamePlace winiX0 wX0_sectionNamePlace) rfl rfl rfl (by decide +kernel) ⟨by decide, by decide⟩) (ct_X0_sectionNamePlace l D ad cB) (fun w H hP => va_recv hK.1.1 hP (rfl : vwCl[0]? = some (RX0, TX0, 1)) (rfl : (cW ad cB w)[2]? = some _))) (rx_any_c (rx_hG_ok (fun w H locs pc ls rest hI hd k => va_get (D := D) (ci := 3) (C := RX3) (T := TX3) (N := 5) S.1 S.2.1 ht inX3 S.2.2.2.1 hK.1.1 hI.1 0 rfl rfl 0 (by decide) (ht _ wfX3_10) (fun _ h9 => h9) rfl hd k)) (rx_any_c (rx_hV_ok S ⟨Nat.zero_le _, Nat.zero_le _⟩ cK_tr hK.1 (cwV 1 S.2.2.2.2 (wsA_V wkX3_108 wiX1_textLength weX1_textLength winiX1 wX1_textLength) rfl rfl rfl (by decide +kernel) ⟨by decide, by decide⟩) (ct_X1_textLength l D ad cB) (fun w H hP => va_recv hK.1.1 hP (rfl : vwCl[1]? = some (RX1, TX1, 2)) (rfl : (cW ad cB w)[1]? = some _))) (rx_any_c (rx_hV_ok S ⟨Nat.zero_le _, Nat.zero_le _⟩ cK_tr hK.1 (cwV 2 S.2.2.2.2 (wsA_V wkX3_98 wiX1_number weX1_number winiX1 wX1_number) rfl rfl rfl (by decide +kernel) ⟨by decide, by decide⟩) (ct_X1_number l D ad cB) (fun w H hP => va_recv hK.1.1 hP (rfl : vwCl[1]? = some (RX1, TX1, 2)) (rfl : (cW ad cB w)[1]? = some _))) (rx_any_0)))))))))
set_option maxHeartbeats 4000000 in
set_option maxRecDepth 100000 in
theorem ct_X3_letter (l : Launch) (hl : l.stackTraces = false) (D : va_G) (ad : Nat → Nat) (cB : ClassId) : ctX l yX3_letter cX3_letter 4 (some .int) rX3_letter D ad cB [.ref (ad 0)] fX3_letter := by
  intro w as g ok w1 v E hf hg w2 r H1 H2
  unfold fX3_letter at hf
  split at hf
  · next k i =>
    cases hf
    refine tx_of rx_nc 0 300 0 (by decide) rfl (Nat.le_of_ble_eq_true rfl) pX3_letter_ok (tx_rt H1 H2 (rt_i _)) (eo_X3_letter l hl D ad cB w2 r) (fun pc g h => by cases h) ?_
    simp only [pX3_letter, eX3_letter, fX0_sectionCount, fX0_sectionNamePlace, fX0_sectionStart, fX1_number, fX1_textLength, fX3_needGood, fX3_needNumber, rx_n, rx_s, rx_to, rx_get, rx_f1, rx_f2, rx_two, rx_ext, rx_any, rx_hV, rx_hS, rx_hG, rx_hP, rx_hAi, rx_hAb, rx_hBb, rx_hBi, rx_hL, rx_hLi, rx_got, rx_pop, rx_sum, rx_len, rx_c, rx_m1, lv_args, Value.category, rx_cut_n, rx_cut_1, rx_iconst, rx_bipush, rx_sipush, rx_lconst, rx_iload_n, rx_iload, rx_lload_n, rx_lload, rx_aload_n, rx_aload, rx_istore_n, rx_istore, rx_lstore_n, rx_lstore, rx_astore_n, rx_astore, rx_iinc, rx_iadd, rx_isub, rx_imul, rx_iand, rx_ixor, rx_ishr, rx_idiv, rx_irem, rx_ladd, rx_lsub, rx_land, rx_lor, rx_lxor, rx_lmul, rx_ldiv, rx_lrem, rx_lushr, rx_lshl, rx_lshr, rx_lneg, rx_i2l, rx_l2i, rx_i2b, rx_lcmp, rx_dup_i, rx_dup_a, rx_pop_i, rx_pop_a, rx_if_eq, rx_if_ne, rx_if_lt, rx_if_ge, rx_if_gt, rx_if_le, rx_icmp_eq, rx_icmp_ne, rx_icmp_lt, rx_icmp_ge, rx_icmp_gt, rx_icmp_le, rx_goto, rx_tsw, rx_ireturn, rx_lreturn, rx_return_, rx_getfield, rx_putfield, rx_invokevirtual, rx_invokespecial, rx_invokestatic, rx_ldc, rx_ldc2_w, rx_iaload, rx_iastore, rx_baload, rx_bastore, rx_hVx, rx_hSx, rx_gotx, tx_X_c, tx_X_0, tx_n_e, tx_e_e, rx_cut_n, Nat.reduceBEq, Nat.reduceAdd, Nat.reduceSub, Nat.reduceMul, Nat.reduceLeDiff, Nat.reduceEqDiff, Nat.reduceLT, Int.reduceLT, Int.reduceLE, Int.reduceNeg, Int.reduceToNat, Int.reduceAdd, Fin.isValue, Fin.val_zero, Fin.val_one, Fin.reduceFinMk, Fin.val_ofNat, Bool.or_true, Bool.true_or, Bool.or_false, Bool.false_or, Bool.and_true, Bool.true_and, Bool.and_false, Bool.false_and, cond_true, cond_false, ↓reduceIte, eq_self, ne_eq, not_true_eq_false, not_false_eq_true, true_and, and_true, Option.toList_some, Option.toList_none, List.cons_append, List.nil_append, Option.some.injEq, Value.int.injEq, Value.long.injEq, rx_l0, rx_l1, rx_fv0, rx_fv1, rx_fv2, rx_fv3, nI_c1, nI_c2, nI_c4, nI_c8, nI_c9, nI_c24, nI_c64, Nat.le_refl, bI_z, bI_0, bI_1, Classical.not_not, lg_cmp_ge, lg_cmp_le, lg_cmp_gt, lg_cmp_lt, lg_cmp_eq]
    simp only [nu_c2, nu_s2, and_true, true_and]
    by_cases a2 : cG w
    · have hd := hg a2
      have h6 := gd6 hd
      rw [t6_sC h6]
      by_cases a3 : vp_in k (sC w.1)
      · obtain ⟨j, hj, -, rfl, ej⟩ := vp_jx a3
        obtain ⟨z, hz1, hz2⟩ := nmA_bn hd hj
        obtain ⟨ht1, ht2⟩ := tl_at hz1 hz2
        have hB := bn_le w.1
        rw [t6_sS h6, nP_at hd hj, ht1, nI_clamp (by omega)]
        rw [ej] at H1
        by_cases a4 : vp_in i (nmL w.1 (nmA w.1 j))
        · obtain ⟨q, hq, -, rfl, eq⟩ := vp_jx a4
          obtain ⟨rfl, rfl⟩ := H1 (by unfold cLet; rw [cif_t a2, cif_t a3, ej, cif_t a4])
          refine ⟨fun _ => ⟨fun _ => ⟨fun _ => ⟨rfl, ?_⟩, fun z => absurd ⟨a4, rfl, by omega⟩ z⟩, fun z => absurd a3 z⟩, fun z => absurd a2 z⟩
          rw [eq, nm_at (by omega), bl_1, lN_i]
        · have hc : cLet (cG w) w.1 (nI j) i = 2 := by unfold cLet; rw [cif_t a2, cif_t a3, ej, cif_f a4]
          obtain ⟨rfl, rfl⟩ := H2 (by rw [hc]; decide)
          refine ⟨fun _ => ⟨fun _ => ⟨fun z => absurd z.1 a4, fun _ => ⟨⟨rfl, by omega⟩, rfl, ?_⟩⟩, fun z => absurd a3 z⟩, fun z => absurd a2 z⟩
          rw [hc]; rfl
      · have hc : cLet (cG w) w.1 k i = 2 := by unfold cLet; rw [cif_t a2, cif_f a3]
        obtain ⟨rfl, rfl⟩ := H2 (by rw [hc]; decide)
        refine ⟨fun _ => ⟨fun z => absurd z a3, fun _ => ⟨rfl, ?_⟩⟩, fun z => absurd a2 z⟩
        rw [hc]; rfl
    · have hc : cLet (cG w) w.1 k i = 1 := by unfold cLet; rw [cif_f a2]
      obtain ⟨rfl, rfl⟩ := H2 (by rw [hc]; decide)
      refine ⟨fun z => absurd z a2, fun _ => ⟨rfl, ?_⟩⟩
      rw [hc]; rfl
  · cases hf
