def pX3_spoil : rx_P := [(0, .iload_n 1, 0), (1, .ifCond .lt 14, 15), (4, .iload_n 1, 0), (5, .aload_n 0, 0), (6, .getfield 10, 0), (9, .getfield 49, 0), (12, .if_icmp .lt 13, 25), (15, .new 42, 0), (18, .dup, 0), (19, .ldc 61, 0), (21, .invokespecial 46, 0), (24, .athrow, 0), (25, .aload_n 0, 0), (26, .getfield 10, 0), (29, .iload_n 1, 0), (30, .iload_n 2, 0), (31, .invokevirtual 63, 0), (34, .aload_n 0, 0), (35, .iconst 0, 0), (36, .putfield 34, 0), (39, .return_, 0)]
theorem pX3_spoil_ok : ∀ q ∈ pX3_spoil, rx_ok cX3_spoil q := rx_ok_all (by decide +kernel)
abbrev rX3_spoil : Room := { frames := 6, cells := 1, slots := 6, locals := 83 }
noncomputable def fX3_spoil : rx_Fx cS := fun w as => match as with
  | [.int k, .int v] => some (True, vp_in k (bn w.1), (bPut w.1 k.toNatClampNeg (bg w.1 k.toNatClampNeg ^^^ (v.toBitVec.toNat % 256)), nI 0, w.2.2.1, w.2.2.2), none, xIA)
  | _ => none
noncomputable def dX3_spoil (ad : Nat → Nat) : rx_E cS := rx_any [rx_hG 10 (ad 0) (fun w => .ref (ad 1)), rx_hG 49 (ad 1) (fun w => .int (nI (bn w.1)))]
set_option maxHeartbeats 4000000 in
set_option maxRecDepth 100000 in
theorem do_X3_spoil (l : Launch) (D : va_G) (ad : Nat → Nat) (cB : ClassId) : ∀ (p : Program) (e : Env) (s : State) (m : MethodId) (args : Array Value) (below : List Frame) (meth : Method) (c : Code) (Qw : State → Prop), CallFix p m c cX3_spoil 3 s args (Cond.code yX3_spoil cX3_spoil 3 none :: wsA) yX3_spoil.cls → xK D cB s → rx_Eok (fun H locs g => W p l e rX3_spoil s m args below meth c H locs 0 0 Qw g) m cX3_spoil 3 (fun w H locs => va_P D vwCl (cW ad cB w) H ∧ H = s.heap ∧ locs = []) (dX3_spoil ad) := by
  intro p e s m args below meth c Qw S0 hK
  have S : CallFix p m c cX3_spoil 3 s args (Cond.code yX3_spoil cX3_spoil 3 none :: wsA) RX3 := S0
  have ht : ∀ w ∈ wsA, w.before args s = true := fun w h => S.2.2.2.2 w (wsA_in h)
  exact rx_any_c (rx_hG_ok (fun w H locs pc ls rest hI hd k => va_get (D := D) (ci := 3) (C := RX3) (T := TX3) (N := 5) S.1 S.2.1 ht inX3 S.2.2.2.1 hK.1.1 hI.1 0 rfl rfl 0 (by decide) (ht _ wfX3_10) (fun _ h9 => h9) rfl hd k)) (rx_any_c (rx_hG_ok (fun w H locs pc ls rest hI hd k => va_getN (D := D) (ci := 1) (C := RX1) (T := TX1) (N := 2) S.1 S.2.1 ht inX1 S.2.2.2.1 hK.1.1 hI.1 1 rfl rfl 1 (by decide) (va_Nw.use rfl hK.1.2.1) (fun _ h9 => h9) rfl hd k)) (rx_any_0))
noncomputable def eX3_spoil (ad : Nat → Nat) : rx_E cS := rx_any [rx_hG 10 (ad 0) (fun w => .ref (ad 1)), rx_hV 63 2 (ad 1) fX1_turnOver, rx_hP 34 (ad 0) (fun w v => match v with | .int z => some (narrow .boolean (.int z) = .int z ∧ fits .boolean (.int z) = true, (w.1, z, w.2.2.1, w.2.2.2)) | _ => none)]
set_option maxHeartbeats 4000000 in
set_option maxRecDepth 100000 in
theorem eo_X3_spoil (l : Launch) (D : va_G) (ad : Nat → Nat) (cB : ClassId) (hj : cJ ad) : ∀ (p : Program) (e : Env) (s : State) (m : MethodId) (args : Array Value) (below : List Frame) (meth : Method) (c : Code) (Qw : State → Prop), CallFix p m c cX3_spoil 3 s args (Cond.code yX3_spoil cX3_spoil 3 none :: wsA) yX3_spoil.cls → xK D cB s → rx_Eok (fun H locs g => W p l e rX3_spoil s m args below meth c H locs 0 0 Qw g) m cX3_spoil 3 (tr_I D vwCl (cA ad) s (cW ad cB)) (eX3_spoil ad) := by
  intro p e s m args below meth c Qw S0 hK
  have S : CallFix p m c cX3_spoil 3 s args (Cond.code yX3_spoil cX3_spoil 3 none :: wsA) RX3 := S0
  have ht : ∀ w ∈ wsA, w.before args s = true := fun w h => S.2.2.2.2 w (wsA_in h)
  exact rx_any_c (rx_hG_ok (fun w H locs pc ls rest hI hd k => va_get (D := D) (ci := 3) (C := RX3) (T := TX3) (N := 5) S.1 S.2.1 ht inX3 S.2.2.2.1 hK.1.1 hI.1 0 rfl rfl 0 (by decide) (ht _ wfX3_10) (fun _ h9 => h9) rfl hd k)) (rx_any_c (rx_hV_ok S ⟨Nat.zero_le _, Nat.zero_le _⟩ cK_tr hK.1 (cwV 2 S.2.2.2.2 (wsA_V wkX3_63 wiX1_turnOver weX1_turnOver winiX1 wX1_turnOver) rfl rfl rfl (by decide +kernel) ⟨by decide, by decide⟩) (ct_X1_turnOver l D ad cB hj) (fun w H hP => va_recv hK.1.1 hP (rfl : vwCl[1]? = some (RX1, TX1, 2)) (rfl : (cW ad cB w)[1]? = some _))) (rx_any_c (rx_hP_ok (fun w v g w1 H locs pc ls rest hfv hg hI hd kk => by
    cases v with
    | int z =>
      cases hfv
      exact va_put (D := D) (ci := 3) (ty := .boolean) (C := RX3) (T := TX3) (N := 5) S.1 S.2.1 ht inX3 tyX3 tyX3_ok nmX3 S.2.2.2.1 hK.1.1 hI.1 (cD hj cB w) hI.2 0 rfl rfl 3 (by decide) (ht _ wfX3_34) (fun _ h9 => h9) rfl (by decide +kernel) hg.1 hg.2 (Nat.le_of_ble_eq_true rfl) hd (fun H1 locs1 hP _ hS => kk H1 locs1 ⟨hP, hS⟩)
    | _ => cases hfv)) (rx_any_0)))
set_option maxHeartbeats 4000000 in
set_option maxRecDepth 100000 in
theorem ct_X3_spoil (l : Launch) (hl : l.stackTraces = false) (D : va_G) (ad : Nat → Nat) (cB : ClassId) (hj : cJ ad) : ctX l yX3_spoil cX3_spoil 3 none rX3_spoil D ad cB [.ref (ad 0)] fX3_spoil := by
  intro w as g ok w1 v E hf hg w2 r H1 H2
  unfold fX3_spoil at hf
  split at hf
  · next k v =>
    cases hf
    refine tx_ofT [(15, xIA)] (tx_e 25 (fun w1 lv => w1 = w ∧ vp_in k (bn w.1) ∧ lv = [(0, .ref (ad 0)), (1, .int k), (2, .int v)])) 200 (by decide) rfl (Nat.le_of_ble_eq_true rfl) pX3_spoil_ok (tx_rt H1 H2 (rt_v)) ?_ (do_X3_spoil l D ad cB) ?_ ?_
    · intro t X hm
      rcases List.mem_cons.mp hm with h9 | hm
      · cases h9
        exact tx_site (l := l) (cls := xIA) (text := "there is no such byte") (t := 15) (ik := 42) (is := 61) (ic := 46) (i1 := 7) (b1 := Bundle.six) hl (by decide +kernel) (by decide +kernel) (by decide +kernel) (by decide +kernel) (by decide +kernel) wl_IA wn_IA (by decide +kernel) tm_IA rfl (by decide +kernel) (by decide +kernel) (by decide +kernel) (by decide +kernel) (by decide +kernel) ⟨by decide, by decide, by decide, by decide⟩
      cases hm
    · intro p e s m args below meth c S hr hK hz hnh hlocks pc g hpc wx lv st ls hlv hP hg9
      rw [tx_e_e] at hpc
      cases e9 : (pc == 25) with
      | false => rw [e9] at hpc; cases hpc
      | true =>
        rw [e9] at hpc
        cases hpc
        have e8 : pc = 25 := by simpa using e9
        subst e8
        obtain ⟨rfl, hG⟩ := hg9
        refine rx_whole (I := tr_I D vwCl (cA ad) s (cW ad cB)) (P := pX3_spoil) (Q := fun w v => w = w2 ∧ r = .inl v) S.1 S.2.1 (rx_nc) 200 200 10000 pX3_spoil_ok (eo_X3_spoil l D ad cB hj p e s m args below meth c _ S hK) (fun w H locs pc ls i st v hI hrt hd hq => tx_back1 S.1 S.2.1 hr (tx_rt H1 H2 (rt_v)) hlocks w H locs pc ls i st v hI hrt hd hq) ?_ hlv ⟨hP, va_S.rf⟩ ?_
        · intro pc g h
          cases h
        · obtain ⟨hwx, a, rfl⟩ := hG
          subst hwx
          obtain ⟨e1, e2⟩ := H1 a
          simp only [pX3_spoil, eX3_spoil, fX1_turnOver, rx_n, rx_s, rx_to, rx_get, rx_f1, rx_f2, rx_two, rx_ext, rx_any, rx_hV, rx_hS, rx_hG, rx_hP, rx_hAi, rx_hAb, rx_hBb, rx_hBi, rx_hL, rx_hLi, rx_got, rx_pop, rx_sum, rx_len, rx_c, rx_m1, lv_args, Value.category, rx_cut_n, rx_cut_1, rx_iconst, rx_bipush, rx_sipush, rx_lconst, rx_iload_n, rx_iload, rx_lload_n, rx_lload, rx_aload_n, rx_aload, rx_istore_n, rx_istore, rx_lstore_n, rx_lstore, rx_astore_n, rx_astore, rx_iinc, rx_iadd, rx_isub, rx_imul, rx_iand, rx_ixor, rx_ishr, rx_idiv, rx_irem, rx_ladd, rx_lsub, rx_land, rx_lor, rx_lxor, rx_lmul, rx_ldiv, rx_lrem, rx_lushr, rx_lshl, rx_lshr, rx_lneg, rx_i2l, rx_l2i, rx_i2b, rx_lcmp, rx_dup_i, rx_dup_a, rx_pop_i, rx_pop_a, rx_if_eq, rx_if_ne, rx_if_lt, rx_if_ge, rx_if_gt, rx_if_le, rx_icmp_eq, rx_icmp_ne, rx_icmp_lt, rx_icmp_ge, rx_icmp_gt, rx_icmp_le, rx_goto, rx_tsw, rx_ireturn, rx_lreturn, rx_return_, rx_getfield, rx_putfield, rx_invokevirtual, rx_invokespecial, rx_invokestatic, rx_ldc, rx_ldc2_w, rx_iaload, rx_iastore, rx_baload, rx_bastore, rx_hVx, rx_hSx, rx_gotx, tx_X_c, tx_X_0, tx_n_e, tx_e_e, rx_cut_n, Nat.reduceBEq, Nat.reduceAdd, Nat.reduceSub, Nat.reduceMul, Nat.reduceLeDiff, Nat.reduceEqDiff, Nat.reduceLT, Int.reduceLT, Int.reduceLE, Int.reduceNeg, Int.reduceToNat, Int.reduceAdd, Fin.isValue, Fin.val_zero, Fin.val_one, Fin.reduceFinMk, Fin.val_ofNat, Bool.or_true, Bool.true_or, Bool.or_false, Bool.false_or, Bool.and_true, Bool.true_and, Bool.and_false, Bool.false_and, cond_true, cond_false, ↓reduceIte, eq_self, ne_eq, not_true_eq_false, not_false_eq_true, true_and, and_true, Option.toList_some, Option.toList_none, List.cons_append, List.nil_append, Option.some.injEq, Value.int.injEq, Value.long.injEq, rx_l0, rx_l1, rx_fv0, rx_fv1, rx_fv2, rx_fv3, nI_c1, nI_c2, nI_c4, nI_c8, nI_c9, nI_c24, nI_c64, Nat.le_refl, bI_z, bI_0, bI_1, Classical.not_not, lg_cmp_ge, lg_cmp_le, lg_cmp_gt, lg_cmp_lt, lg_cmp_eq]
          have hb := bg_lt wx.1 k.toNatClampNeg
          rw [uB_sx hb, e1, e2]
          exact ⟨a, ⟨rfl, rfl⟩, rfl, rfl⟩
    · simp only [pX3_spoil, dX3_spoil, rx_n, rx_s, rx_to, rx_get, rx_f1, rx_f2, rx_two, rx_ext, rx_any, rx_hV, rx_hS, rx_hG, rx_hP, rx_hAi, rx_hAb, rx_hBb, rx_hBi, rx_hL, rx_hLi, rx_got, rx_pop, rx_sum, rx_len, rx_c, rx_m1, lv_args, Value.category, rx_cut_n, rx_cut_1, rx_iconst, rx_bipush, rx_sipush, rx_lconst, rx_iload_n, rx_iload, rx_lload_n, rx_lload, rx_aload_n, rx_aload, rx_istore_n, rx_istore, rx_lstore_n, rx_lstore, rx_astore_n, rx_astore, rx_iinc, rx_iadd, rx_isub, rx_imul, rx_iand, rx_ixor, rx_ishr, rx_idiv, rx_irem, rx_ladd, rx_lsub, rx_land, rx_lor, rx_lxor, rx_lmul, rx_ldiv, rx_lrem, rx_lushr, rx_lshl, rx_lshr, rx_lneg, rx_i2l, rx_l2i, rx_i2b, rx_lcmp, rx_dup_i, rx_dup_a, rx_pop_i, rx_pop_a, rx_if_eq, rx_if_ne, rx_if_lt, rx_if_ge, rx_if_gt, rx_if_le, rx_icmp_eq, rx_icmp_ne, rx_icmp_lt, rx_icmp_ge, rx_icmp_gt, rx_icmp_le, rx_goto, rx_tsw, rx_ireturn, rx_lreturn, rx_return_, rx_getfield, rx_putfield, rx_invokevirtual, rx_invokespecial, rx_invokestatic, rx_ldc, rx_ldc2_w, rx_iaload, rx_iastore, rx_baload, rx_bastore, rx_hVx, rx_hSx, rx_gotx, tx_X_c, tx_X_0, tx_n_e, tx_e_e, rx_cut_n, Nat.reduceBEq, Nat.reduceAdd, Nat.reduceSub, Nat.reduceMul, Nat.reduceLeDiff, Nat.reduceEqDiff, Nat.reduceLT, Int.reduceLT, Int.reduceLE, Int.reduceNeg, Int.reduceToNat, Int.reduceAdd, Fin.isValue, Fin.val_zero, Fin.val_one, Fin.reduceFinMk, Fin.val_ofNat, Bool.or_true, Bool.true_or, Bool.or_false, Bool.false_or, Bool.and_true, Bool.true_and, Bool.and_false, Bool.false_and, cond_true, cond_false, ↓reduceIte, eq_self, ne_eq, not_true_eq_false, not_false_eq_true, true_and, and_true, Option.toList_some, Option.toList_none, List.cons_append, List.nil_append, Option.some.injEq, Value.int.injEq, Value.long.injEq, rx_l0, rx_l1, rx_fv0, rx_fv1, rx_fv2, rx_fv3, nI_c1, nI_c2, nI_c4, nI_c8, nI_c9, nI_c24, nI_c64, Nat.le_refl, bI_z, bI_0, bI_1, Classical.not_not, lg_cmp_ge, lg_cmp_le, lg_cmp_gt, lg_cmp_lt, lg_cmp_eq]
      have hB := bn_le w.1
      have hq := numb_in (x := k) (h := bn w.1) (by omega)
      refine ⟨fun z => ?_, fun z => ⟨fun z2 => hq.mp ⟨z, z2⟩, fun z2 => ?_⟩⟩
      · obtain ⟨rfl, rfl⟩ := H2 (fun q => (hq.mpr q).1 z)
        exact ⟨rfl, rfl⟩
      · obtain ⟨rfl, rfl⟩ := H2 (fun q => z2 (hq.mpr q).2)
        exact ⟨rfl, rfl⟩
  · cases hf
def pX3_feed : rx_P := [(0, .iload_n 3, 0), (1, .iconst 1, 0), (2, .if_icmp .lt 9, 11), (5, .iload_n 3, 0), (6, .bipush 8, 0), (8, .if_icmp .le 13, 21), (11, .new 42, 0), (14, .dup, 0), (15, .ldc 44, 0), (17, .invokespecial 46, 0), (20, .athrow, 0), (21, .iload_n 3, 0), (22, .sipush 640, 0), (25, .aload_n 0, 0), (26, .getfield 10, 0), (29, .getfield 49, 0), (32, .isub, 0), (33, .if_icmp .le 13, 46), (36, .new 52, 0), (39, .dup, 0), (40, .ldc 54, 0), (42, .invokespecial 56, 0), (45, .athrow, 0), (46, .iload_n 3, 0), (47, .iconst 1, 0), (48, .isub, 0), (49, .istore 4, 0), (51, .iload 4, 0), (53, .ifCond .lt 25, 78), (56, .aload_n 0, 0), (57, .getfield 10, 0), (60, .lload_n 1, 0), (61, .bipush 8, 0), (63, .iload 4, 0), (65, .imul, 0), (66, .lushr, 0), (67, .l2i, 0), (68, .i2b, 0), (69, .invokevirtual 57, 0), (72, .iinc 4 (-1), 0), (75, .goto (-24), 51), (78, .aload_n 0, 0), (79, .iconst 0, 0), (80, .putfield 34, 0), (83, .aload_n 0, 0), (84, .getfield 10, 0), (87, .getfield 49, 0), (90, .ireturn, 0)]
theorem pX3_feed_ok : ∀ q ∈ pX3_feed, rx_ok cX3_feed q := rx_ok_all (by decide +kernel)
abbrev rX3_feed : Room := { frames := 6, cells := 1, slots := 6, locals := 83 }
noncomputable def fX3_feed : rx_Fx cS := fun w as => match as with
  | [.long x, .int z] => some (True, cFeed w.1 z = 0, (fd w.1 (uN x) z.toNatClampNeg, nI 0, w.2.2.1, w.2.2.2), some (.int (nI (bn w.1 + z.toNatClampNeg))), eE xIA xIS xIS (cFeed w.1 z))
  | _ => none
noncomputable def dX3_feed (ad : Nat → Nat) : rx_E cS := rx_any [rx_hG 10 (ad 0) (fun w => .ref (ad 1)), rx_hG 49 (ad 1) (fun w => .int (nI (bn w.1)))]
set_option maxHeartbeats 4000000 in
set_option maxRecDepth 100000 in
theorem do_X3_feed (l : Launch) (D : va_G) (ad : Nat → Nat) (cB : ClassId) : ∀ (p : Program) (e : Env) (s : State) (m : MethodId) (args : Array Value) (below : List Frame) (meth : Method) (c : Code) (Qw : State → Prop), CallFix p m c cX3_feed 5 s args (Cond.code yX3_feed cX3_feed 5 (some .int) :: wsA) yX3_feed.cls → xK D cB s → rx_Eok (fun H locs g => W p l e rX3_feed s m args below meth c H locs 0 0 Qw g) m cX3_feed 5 (fun w H locs => va_P D vwCl (cW ad cB w) H ∧ H = s.heap ∧ locs = []) (dX3_feed ad) := by
  intro p e s m args below meth c Qw S0 hK
  have S : CallFix p m c cX3_feed 5 s args (Cond.code yX3_feed cX3_feed 5 (some .int) :: wsA) RX3 := S0
  have ht : ∀ w ∈ wsA, w.before args s = true := fun w h => S.2.2.2.2 w (wsA_in h)
  exact rx_any_c (rx_hG_ok (fun w H locs pc ls rest hI hd k => va_get (D := D) (ci := 3) (C := RX3) (T := TX3) (N := 5) S.1 S.2.1 ht inX3 S.2.2.2.1 hK.1.1 hI.1 0 rfl rfl 0 (by decide) (ht _ wfX3_10) (fun _ h9 => h9) rfl hd k)) (rx_any_c (rx_hG_ok (fun w H locs pc ls rest hI hd k => va_getN (D := D) (ci := 1) (C := RX1) (T := TX1) (N := 2) S.1 S.2.1 ht inX1 S.2.2.2.1 hK.1.1 hI.1 1 rfl rfl 1 (by decide) (va_Nw.use rfl hK.1.2.1) (fun _ h9 => h9) rfl hd k)) (rx_any_0))
noncomputable def eX3_feed (ad : Nat → Nat) : rx_E cS := rx_any [rx_hG 10 (ad 0) (fun w => .ref (ad 1)), rx_hV 57 1 (ad 1) fX1_add, rx_hP 34 (ad 0) (fun w v => match v with | .int z => some (narrow .boolean (.int z) = .int z ∧ fits .boolean (.int z) = true, (w.1, z, w.2.2.1, w.2.2.2)) | _ => none), rx_hG 49 (ad 1) (fun w => .int (nI (bn w.1)))]
set_option maxHeartbeats 4000000 in
set_option maxRecDepth 100000 in
theorem eo_X3_feed (l : Launch) (D : va_G) (ad : Nat → Nat) (cB : ClassId) (hj : cJ ad) : ∀ (p : Program) (e : Env) (s : State) (m : MethodId) (args : Array Value) (below : List Frame) (meth : Method) (c : Code) (Qw : State → Prop), CallFix p m c cX3_feed 5 s args (Cond.code yX3_feed cX3_feed 5 (some .int) :: wsA) yX3_feed.cls → xK D cB s → rx_Eok (fun H locs g => W p l e rX3_feed s m args below meth c H locs 0 0 Qw g) m cX3_feed 5 (tr_I D vwCl (cA ad) s (cW ad cB)) (eX3_feed ad) := by
  intro p e s m args below meth c Qw S0 hK
  have S : CallFix p m c cX3_feed 5 s args (Cond.code yX3_feed cX3_feed 5 (some .int) :: wsA) RX3 := S0
  have ht : ∀ w ∈ wsA, w.before args s = true := fun w h => S.2.2.2.2 w (wsA_in h)
  exact rx_any_c (rx_hG_ok (fun w H locs pc ls rest hI hd k => va_get (D := D) (ci := 3) (C := RX3) (T := TX3) (N := 5) S.1 S.2.1 ht inX3 S.2.2.2.1 hK.1.1 hI.1 0 rfl rfl 0 (by decide) (ht _ wfX3_10) (fun _ h9 => h9) rfl hd k)) (rx_any_c (rx_hV_ok S ⟨Nat.zero_le _, Nat.zero_le _⟩ cK_tr hK.1 (cwV 1 S.2.2.2.2 (wsA_V wkX3_57 wiX1_add weX1_add winiX1 wX1_add) rfl rfl rfl (by decide +kernel) ⟨by decide, by decide⟩) (ct_X1_add l D ad cB hj) (fun w H hP => va_recv hK.1.1 hP (rfl : vwCl[1]? = some (RX1, TX1, 2)) (rfl : (cW ad cB w)[1]? = some _))) (rx_any_c (rx_hP_ok (fun w v g w1 H locs pc ls rest hfv hg hI hd kk => by
    cases v with
    | int z =>
      cases hfv
      exact va_put (D := D) (ci := 3) (ty := .boolean) (C := RX3) (T := TX3) (N := 5) S.1 S.2.1 ht inX3 tyX3 tyX3_ok nmX3 S.2.2.2.1 hK.1.1 hI.1 (cD hj cB w) hI.2 0 rfl rfl 3 (by decide) (ht _ wfX3_34) (fun _ h9 => h9) rfl (by decide +kernel) hg.1 hg.2 (Nat.le_of_ble_eq_true rfl) hd (fun H1 locs1 hP _ hS => kk H1 locs1 ⟨hP, hS⟩)
    | _ => cases hfv)) (rx_any_c (rx_hG_ok (fun w H locs pc ls rest hI hd k => va_getN (D := D) (ci := 1) (C := RX1) (T := TX1) (N := 2) S.1 S.2.1 ht inX1 S.2.2.2.1 hK.1.1 hI.1 1 rfl rfl 1 (by decide) (va_Nw.use rfl hK.1.2.1) (fun _ h9 => h9) rfl hd k)) (rx_any_0))))
set_option maxHeartbeats 4000000 in
set_option maxRecDepth 100000 in
theorem ct_X3_feed (l : Launch) (hl : l.stackTraces = false) (D : va_G) (ad : Nat → Nat) (cB : ClassId) (hj : cJ ad) : ctX l yX3_feed cX3_feed 5 (some .int) rX3_feed D ad cB [.ref (ad 0)] fX3_feed := by
  intro w as g ok w1 v E hf hg w2 r H1 H2
  unfold fX3_feed at hf
  split at hf
  · next x z =>
    cases hf
    refine tx_ofT [(11, xIA), (36, xIS)] (tx_e 46 (fun w1 lv => w1 = w ∧ cFeed w.1 z = 0 ∧ lv = [(0, .ref (ad 0)), (1, .long x), (3, .int z)])) 200 (by decide) rfl (Nat.le_of_ble_eq_true rfl) pX3_feed_ok (tx_rt H1 H2 (rt_i _)) ?_ (do_X3_feed l D ad cB) ?_ ?_
    · intro t X hm
      rcases List.mem_cons.mp hm with h9 | hm
      · cases h9
        exact tx_site (l := l) (cls := xIA) (text := "n is not 1 to 8") (t := 11) (ik := 42) (is := 44) (ic := 46) (i1 := 7) (b1 := Bundle.six) hl (by decide +kernel) (by decide +kernel) (by decide +kernel) (by decide +kernel) (by decide +kernel) wl_IA wn_IA (by decide +kernel) tm_IA rfl (by decide +kernel) (by decide +kernel) (by decide +kernel) (by decide +kernel) (by decide +kernel) ⟨by decide, by decide, by decide, by decide⟩
      rcases List.mem_cons.mp hm with h9 | hm
      · cases h9
        exact tx_site (l := l) (cls := xIS) (text := "there would be more than 640 bytes") (t := 36) (ik := 52) (is := 54) (ic := 56) (i1 := 7) (b1 := Bundle.six) hl (by decide +kernel) (by decide +kernel) (by decide +kernel) (by decide +kernel) (by decide +kernel) wl_IS wn_IS (by decide +kernel) tm_IS rfl (by decide +kernel) (by decide +kernel) (by decide +kernel) (by decide +kernel) (by decide +kernel) ⟨by decide, by decide, by decide, by decide⟩
      cases hm
    · intro p e s m args below meth c S hr hK hz hnh hlocks pc g hpc wx lv st ls hlv hP hg9
      rw [tx_e_e] at hpc
      cases e9 : (pc == 46) with
      | false => rw [e9] at hpc; cases hpc
      | true =>
        rw [e9] at hpc
        cases hpc
        have e8 : pc = 46 := by simpa using e9
        subst e8
        obtain ⟨rfl, hG⟩ := hg9
        refine rx_whole (I := tr_I D vwCl (cA ad) s (cW ad cB)) (P := pX3_feed) (Q := fun w v => w = w2 ∧ r = .inl v) S.1 S.2.1 (rx_1c 51 (fun u w0 lv => ∃ N j b, N ≤ 8 ∧ j ≤ N ∧ u = j ∧ cFeed wx.1 z = 0 ∧ z = nI N ∧ bn b + j ≤ 640 ∧ fd b (uN x) j = fd wx.1 (uN x) N ∧ w0 = (b, wx.2) ∧ lv = [(0, .ref (ad 0)), (1, .long x), (4, .int (nI j - nI 1))])) 200 200 10000 pX3_feed_ok (eo_X3_feed l D ad cB hj p e s m args below meth c _ S hK) (fun w H locs pc ls i st v hI hrt hd hq => tx_back1 S.1 S.2.1 hr (tx_rt H1 H2 (rt_i _)) hlocks w H locs pc ls i st v hI hrt hd hq) ?_ hlv ⟨hP, va_S.rf⟩ ?_
        · intro pc g0 hpc u w0 lv hinv
          have hh := rx_1c_of hpc
          clear hpc
          obtain ⟨rfl, rfl⟩ := hh
          obtain ⟨hwx, a, rfl⟩ := hG
          subst hwx
          obtain ⟨N, j, b, hN, hj2, rfl, h0, hz, hb, he, rfl, rfl⟩ := hinv
          obtain ⟨e1, e2⟩ := H1 a
          simp only [pX3_feed, eX3_feed, fX1_add, rx_n, rx_s, rx_to, rx_get, rx_f1, rx_f2, rx_two, rx_ext, rx_any, rx_hV, rx_hS, rx_hG, rx_hP, rx_hAi, rx_hAb, rx_hBb, rx_hBi, rx_hL, rx_hLi, rx_got, rx_pop, rx_sum, rx_len, rx_c, rx_m1, lv_args, Value.category, rx_cut_n, rx_cut_1, rx_iconst, rx_bipush, rx_sipush, rx_lconst, rx_iload_n, rx_iload, rx_lload_n, rx_lload, rx_aload_n, rx_aload, rx_istore_n, rx_istore, rx_lstore_n, rx_lstore, rx_astore_n, rx_astore, rx_iinc, rx_iadd, rx_isub, rx_imul, rx_iand, rx_ixor, rx_ishr, rx_idiv, rx_irem, rx_ladd, rx_lsub, rx_land, rx_lor, rx_lxor, rx_lmul, rx_ldiv, rx_lrem, rx_lushr, rx_lshl, rx_lshr, rx_lneg, rx_i2l, rx_l2i, rx_i2b, rx_lcmp, rx_dup_i, rx_dup_a, rx_pop_i, rx_pop_a, rx_if_eq, rx_if_ne, rx_if_lt, rx_if_ge, rx_if_gt, rx_if_le, rx_icmp_eq, rx_icmp_ne, rx_icmp_lt, rx_icmp_ge, rx_icmp_gt, rx_icmp_le, rx_goto, rx_tsw, rx_ireturn, rx_lreturn, rx_return_, rx_getfield, rx_putfield, rx_invokevirtual, rx_invokespecial, rx_invokestatic, rx_ldc, rx_ldc2_w, rx_iaload, rx_iastore, rx_baload, rx_bastore, rx_hVx, rx_hSx, rx_gotx, tx_X_c, tx_X_0, tx_n_e, tx_e_e, rx_cut_n, Nat.reduceBEq, Nat.reduceAdd, Nat.reduceSub, Nat.reduceMul, Nat.reduceLeDiff, Nat.reduceEqDiff, Nat.reduceLT, Int.reduceLT, Int.reduceLE, Int.reduceNeg, Int.reduceToNat, Int.reduceAdd, Fin.isValue, Fin.val_zero, Fin.val_one, Fin.reduceFinMk, Fin.val_ofNat, Bool.or_true, Bool.true_or, Bool.or_false, Bool.false_or, Bool.and_true, Bool.true_and, Bool.and_false, Bool.false_and, cond_true, cond_false, ↓reduceIte, eq_self, ne_eq, not_true_eq_false, not_false_eq_true, true_and, and_true, Option.toList_some, Option.toList_none, List.cons_append, List.nil_append, Option.some.injEq, Value.int.injEq, Value.long.injEq, rx_l0, rx_l1, rx_fv0, rx_fv1, rx_fv2, rx_fv3, nI_c1, nI_c2, nI_c4, nI_c8, nI_c9, nI_c24, nI_c64, Nat.le_refl, bI_z, bI_0, bI_1, Classical.not_not, lg_cmp_ge, lg_cmp_le, lg_cmp_gt, lg_cmp_lt, lg_cmp_eq]
          refine ⟨fun h => ?_, fun h => ?_⟩
          · have hu : u = 0 := by
              rcases Nat.eq_zero_or_pos u with q | q
              · exact q
              · rw [pk_sub q] at h
                exact absurd h (nI_pos (by omega))
            subst hu
            have he : b = fd wx.1 (uN x) N := he
            obtain ⟨N', n1, n2, hz', n4, n3⟩ := cFeed_0 h0
            have hNN : N = N' := (nI_eq (by omega) (by omega)).mp (hz.symm.trans hz')
            rw [e1, e2, n4, ← hNN, he, bn_fd N wx.1 (uN x) (by omega)]
            exact ⟨⟨rfl, rfl⟩, rfl, rfl⟩
          · have hu : 0 < u := by
              rcases Nat.eq_zero_or_pos u with q | q
              · rw [q] at h
                exact absurd (by decide) h
              · exact q
            obtain ⟨v, rfl⟩ : ∃ v, u = v + 1 := ⟨u - 1, by omega⟩
            have e3 : nI (v + 1) - nI 1 = nI v := by rw [pk_sub (by omega)]; rfl
            rw [e3, uB_sk x (show v < 8 by omega)]
            refine ⟨by omega, v, _, by omega, ⟨N, v, bAdd b (uN x / 256 ^ v % 256), hN, by omega, rfl, h0, hz, by rw [bn_add (by omega)]; omega, he, rfl, rfl⟩, ?_⟩
            simp only [List.mem_cons, List.not_mem_nil, or_false, forall_eq_or_imp, forall_eq, Nat.reduceBEq, cond_true, cond_false, Option.some.injEq, Value.int.injEq, Value.long.injEq, Value.ref.injEq, true_and, and_true]
            exact i_m1 _
        · obtain ⟨hwx, a, rfl⟩ := hG
          subst hwx
          obtain ⟨N, n1, n2, hz, -, n3⟩ := cFeed_0 a
          simp only [pX3_feed, eX3_feed, fX1_add, rx_n, rx_s, rx_to, rx_get, rx_f1, rx_f2, rx_two, rx_ext, rx_any, rx_hV, rx_hS, rx_hG, rx_hP, rx_hAi, rx_hAb, rx_hBb, rx_hBi, rx_hL, rx_hLi, rx_got, rx_pop, rx_sum, rx_len, rx_c, rx_m1, lv_args, Value.category, rx_cut_n, rx_cut_1, rx_iconst, rx_bipush, rx_sipush, rx_lconst, rx_iload_n, rx_iload, rx_lload_n, rx_lload, rx_aload_n, rx_aload, rx_istore_n, rx_istore, rx_lstore_n, rx_lstore, rx_astore_n, rx_astore, rx_iinc, rx_iadd, rx_isub, rx_imul, rx_iand, rx_ixor, rx_ishr, rx_idiv, rx_irem, rx_ladd, rx_lsub, rx_land, rx_lor, rx_lxor, rx_lmul, rx_ldiv, rx_lrem, rx_lushr, rx_lshl, rx_lshr, rx_lneg, rx_i2l, rx_l2i, rx_i2b, rx_lcmp, rx_dup_i, rx_dup_a, rx_pop_i, rx_pop_a, rx_if_eq, rx_if_ne, rx_if_lt, rx_if_ge, rx_if_gt, rx_if_le, rx_icmp_eq, rx_icmp_ne, rx_icmp_lt, rx_icmp_ge, rx_icmp_gt, rx_icmp_le, rx_goto, rx_tsw, rx_ireturn, rx_lreturn, rx_return_, rx_getfield, rx_putfield, rx_invokevirtual, rx_invokespecial, rx_invokestatic, rx_ldc, rx_ldc2_w, rx_iaload, rx_iastore, rx_baload, rx_bastore, rx_hVx, rx_hSx, rx_gotx, tx_X_c, tx_X_0, tx_n_e, tx_e_e, rx_cut_n, Nat.reduceBEq, Nat.reduceAdd, Nat.reduceSub, Nat.reduceMul, Nat.reduceLeDiff, Nat.reduceEqDiff, Nat.reduceLT, Int.reduceLT, Int.reduceLE, Int.reduceNeg, Int.reduceToNat, Int.reduceAdd, Fin.isValue, Fin.val_zero, Fin.val_one, Fin.reduceFinMk, Fin.val_ofNat, Bool.or_true, Bool.true_or, Bool.or_false, Bool.false_or, Bool.and_true, Bool.true_and, Bool.and_false, Bool.false_and, cond_true, cond_false, ↓reduceIte, eq_self, ne_eq, not_true_eq_false, not_false_eq_true, true_and, and_true, Option.toList_some, Option.toList_none, List.cons_append, List.nil_append, Option.some.injEq, Value.int.injEq, Value.long.injEq, rx_l0, rx_l1, rx_fv0, rx_fv1, rx_fv2, rx_fv3, nI_c1, nI_c2, nI_c4, nI_c8, nI_c9, nI_c24, nI_c64, Nat.le_refl, bI_z, bI_0, bI_1, Classical.not_not, lg_cmp_ge, lg_cmp_le, lg_cmp_gt, lg_cmp_lt, lg_cmp_eq]
          refine ⟨N, _, by omega, ⟨N, N, wx.1, n2, Nat.le_refl _, rfl, a, hz, n3, rfl, rfl, rfl⟩, ?_⟩
          simp only [List.mem_cons, List.not_mem_nil, or_false, forall_eq_or_imp, forall_eq, Nat.reduceBEq, cond_true, cond_false, Option.some.injEq, Value.int.injEq, Value.long.injEq, Value.ref.injEq, true_and, and_true]
          rw [hz]
    · simp only [pX3_feed, dX3_feed, rx_n, rx_s, rx_to, rx_get, rx_f1, rx_f2, rx_two, rx_ext, rx_any, rx_hV, rx_hS, rx_hG, rx_hP, rx_hAi, rx_hAb, rx_hBb, rx_hBi, rx_hL, rx_hLi, rx_got, rx_pop, rx_sum, rx_len, rx_c, rx_m1, lv_args, Value.category, rx_cut_n, rx_cut_1, rx_iconst, rx_bipush, rx_sipush, rx_lconst, rx_iload_n, rx_iload, rx_lload_n, rx_lload, rx_aload_n, rx_aload, rx_istore_n, rx_istore, rx_lstore_n, rx_lstore, rx_astore_n, rx_astore, rx_iinc, rx_iadd, rx_isub, rx_imul, rx_iand, rx_ixor, rx_ishr, rx_idiv, rx_irem, rx_ladd, rx_lsub, rx_land, rx_lor, rx_lxor, rx_lmul, rx_ldiv, rx_lrem, rx_lushr, rx_lshl, rx_lshr, rx_lneg, rx_i2l, rx_l2i, rx_i2b, rx_lcmp, rx_dup_i, rx_dup_a, rx_pop_i, rx_pop_a, rx_if_eq, rx_if_ne, rx_if_lt, rx_if_ge, rx_if_gt, rx_if_le, rx_icmp_eq, rx_icmp_ne, rx_icmp_lt, rx_icmp_ge, rx_icmp_gt, rx_icmp_le, rx_goto, rx_tsw, rx_ireturn, rx_lreturn, rx_return_, rx_getfield, rx_putfield, rx_invokevirtual, rx_invokespecial, rx_invokestatic, rx_ldc, rx_ldc2_w, rx_iaload, rx_iastore, rx_baload, rx_bastore, rx_hVx, rx_hSx, rx_gotx, tx_X_c, tx_X_0, tx_n_e, tx_e_e, rx_cut_n, Nat.reduceBEq, Nat.reduceAdd, Nat.reduceSub, Nat.reduceMul, Nat.reduceLeDiff, Nat.reduceEqDiff, Nat.reduceLT, Int.reduceLT, Int.reduceLE, Int.reduceNeg, Int.reduceToNat, Int.reduceAdd, Fin.isValue, Fin.val_zero, Fin.val_one, Fin.reduceFinMk, Fin.val_ofNat, Bool.or_true, Bool.true_or, Bool.or_false, Bool.false_or, Bool.and_true, Bool.true_and, Bool.and_false, Bool.false_and, cond_true, cond_false, ↓reduceIte, eq_self, ne_eq, not_true_eq_false, not_false_eq_true, true_and, and_true, Option.toList_some, Option.toList_none, List.cons_append, List.nil_append, Option.some.injEq, Value.int.injEq, Value.long.injEq, rx_l0, rx_l1, rx_fv0, rx_fv1, rx_fv2, rx_fv3, nI_c1, nI_c2, nI_c4, nI_c8, nI_c9, nI_c24, nI_c64, Nat.le_refl, bI_z, bI_0, bI_1, Classical.not_not, lg_cmp_ge, lg_cmp_le, lg_cmp_gt, lg_cmp_lt, lg_cmp_eq]
      have hB := bn_le w.1
      have bad : ∀ (k : Nat) (E : String), cFeed w.1 z = k → k ≠ 0 → eE xIA xIS xIS k = E → w = w2 ∧ r = Sum.inr E := by
        intro k E h1 h2 h3
        obtain ⟨q1, q2⟩ := H2 (by rw [h1]; exact h2)
        refine ⟨q1.symm, ?_⟩
        rw [q2, h1, h3]
      refine ⟨fun h1 => bad 1 _ (cif_t (Or.inl h1)) (by decide) rfl, fun h1 => ⟨fun h2 => ⟨fun h3 => ?_, fun h3 => bad 2 _ ?_ (by decide) rfl⟩, fun h2 => bad 1 _ (cif_t (Or.inr (Int32.not_le.mp h2))) (by decide) rfl⟩⟩
      · obtain ⟨N, n1, n2, hz, n4⟩ := z_in h1 h2
        rw [hz, pk_sub (by omega), nI_leI (by omega) (by omega)] at h3
        unfold cFeed
        rw [cif_f (fun q => q.elim h1 (fun q => Int32.not_lt.mpr h2 q)), cif_t (by omega)]
      · obtain ⟨N, n1, n2, hz, n4⟩ := z_in h1 h2
        rw [hz, pk_sub (by omega), nI_leI (by omega) (by omega)] at h3
        unfold cFeed
        rw [cif_f (fun q => q.elim h1 (fun q => Int32.not_lt.mpr h2 q)), cif_f (by omega)]
  · cases hf
