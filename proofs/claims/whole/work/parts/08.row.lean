def pX1_isBelow : rx_P := [(0, .lload_n 0, 0), (1, .ldc2_w 27, 0), (4, .lxor, 0), (5, .lload_n 2, 0), (6, .ldc2_w 27, 0), (9, .lxor, 0), (10, .lcmp, 0), (11, .ifCond .ge 7, 18), (14, .iconst 1, 0), (15, .goto 4, 19), (18, .iconst 0, 0), (19, .ireturn, 0)]
theorem pX1_isBelow_ok : ∀ q ∈ pX1_isBelow, rx_ok cX1_isBelow q := rx_ok_all (by decide +kernel)
abbrev rX1_isBelow : Room := { frames := 0, cells := 0, slots := 0, locals := 0 }
noncomputable def fX1_isBelow : rx_F cS := fun w as => match as with
  | [.long x, .long y] => some (True, w, some (.int (bI (uN x < uN y))))
  | _ => none
noncomputable def eX1_isBelow (ad : Nat → Nat) : rx_E cS := rx_any [rx_hL 27 ((-9223372036854775808))]
set_option maxHeartbeats 4000000 in
set_option maxRecDepth 100000 in
theorem eo_X1_isBelow (l : Launch) (D : va_G) (ad : Nat → Nat) (cB : ClassId) : ∀ (p : Program) (e : Env) (s : State) (m : MethodId) (args : Array Value) (below : List Frame) (meth : Method) (c : Code) (Qw : State → Prop), CallFix p m c cX1_isBelow 4 s args (Cond.code yX1_isBelow cX1_isBelow 4 (some .boolean) :: wsA) RX1 → cK D cB s → rx_Eok (fun H locs g => W p l e rX1_isBelow s m args below meth c H locs 0 0 Qw g) m cX1_isBelow 4 (tr_I D vwCl (cA ad) s (cW ad cB)) (eX1_isBelow ad) := by
  intro p e s m args below meth c Qw S hK
  have ht : ∀ w ∈ wsA, w.before args s = true := fun w h => S.2.2.2.2 w (wsA_in h)
  exact rx_any_c (rx_hL_ok S (ht _ wcX1_27)) (rx_any_0)
set_option maxHeartbeats 4000000 in
set_option maxRecDepth 100000 in
theorem ct_X1_isBelow (l : Launch) (D : va_G) (ad : Nat → Nat) (cB : ClassId) : ctC l yX1_isBelow cX1_isBelow 4 (some .boolean) rX1_isBelow D ad cB [] fX1_isBelow := by
  intro w as g w1 r hf hg
  unfold fX1_isBelow at hf
  split at hf
  · next x y =>
    cases hf
    exact tr_of rx_nc 0 200 0 (by decide) rfl rfl (Nat.le_of_ble_eq_true rfl) pX1_isBelow_ok (rt_z _) (eo_X1_isBelow l D ad cB) (fun pc g h => by cases h) (by
      simp only [pX1_isBelow, eX1_isBelow, rx_n, rx_s, rx_to, rx_get, rx_f1, rx_f2, rx_two, rx_ext, rx_any, rx_hV, rx_hS, rx_hG, rx_hP, rx_hAi, rx_hAb, rx_hL, rx_hLi, rx_got, rx_pop, rx_sum, rx_len, rx_c, rx_m1, lv_args, Value.category, rx_cut_n, rx_cut_1, rx_iconst, rx_bipush, rx_sipush, rx_lconst, rx_iload_n, rx_iload, rx_lload_n, rx_lload, rx_aload_n, rx_aload, rx_istore_n, rx_istore, rx_lstore_n, rx_lstore, rx_astore_n, rx_astore, rx_iinc, rx_iadd, rx_isub, rx_imul, rx_iand, rx_ixor, rx_ishr, rx_idiv, rx_irem, rx_ladd, rx_lsub, rx_land, rx_lor, rx_lxor, rx_lmul, rx_ldiv, rx_lrem, rx_lushr, rx_lshl, rx_lshr, rx_lneg, rx_i2l, rx_l2i, rx_i2b, rx_lcmp, rx_dup_i, rx_dup_a, rx_pop_i, rx_pop_a, rx_if_eq, rx_if_ne, rx_if_lt, rx_if_ge, rx_if_gt, rx_if_le, rx_icmp_eq, rx_icmp_ne, rx_icmp_lt, rx_icmp_ge, rx_icmp_gt, rx_icmp_le, rx_goto, rx_tsw, rx_ireturn, rx_lreturn, rx_return_, rx_getfield, rx_putfield, rx_invokevirtual, rx_invokespecial, rx_invokestatic, rx_ldc, rx_ldc2_w, rx_iaload, rx_iastore, rx_baload, rx_bastore, Nat.reduceBEq, Nat.reduceAdd, Nat.reduceSub, Nat.reduceMul, Nat.reduceLeDiff, Nat.reduceEqDiff, Nat.reduceLT, Int.reduceLT, Int.reduceLE, Int.reduceNeg, Int.reduceToNat, Int.reduceAdd, Fin.isValue, Fin.val_zero, Fin.val_one, Fin.reduceFinMk, Fin.val_ofNat, Bool.or_true, Bool.true_or, Bool.or_false, Bool.false_or, Bool.and_true, Bool.true_and, Bool.and_false, Bool.false_and, cond_true, cond_false, ↓reduceIte, eq_self, ne_eq, not_true_eq_false, not_false_eq_true, true_and, and_true, Option.toList_some, Option.toList_none, List.cons_append, List.nil_append, Option.some.injEq, Value.int.injEq, Value.long.injEq, rx_l0, rx_l1, rx_fv0, rx_fv1, rx_fv2, rx_fv3, nI_c1, nI_c2, nI_c4, nI_c8, nI_c9, nI_c24, nI_c64, Nat.le_refl, bI_z, bI_0, bI_1, Classical.not_not, lg_cmp_ge, lg_cmp_le, lg_cmp_gt, lg_cmp_lt, lg_cmp_eq]
      simp only [uN_le]
      constructor <;> intro h <;> omega)
  · cases hf
def pX1_number : rx_P := [(0, .iload_n 1, 0), (1, .ifCond .lt 21, 22), (4, .iload_n 1, 0), (5, .aload_n 0, 0), (6, .getfield 15, 0), (9, .if_icmp .gt 13, 22), (12, .iload_n 2, 0), (13, .aload_n 0, 0), (14, .getfield 15, 0), (17, .iload_n 1, 0), (18, .isub, 0), (19, .if_icmp .le 5, 24), (22, .lconst 0, 0), (23, .lreturn, 0), (24, .lconst 0, 0), (25, .lstore_n 3, 0), (26, .iload_n 2, 0), (27, .iconst 1, 0), (28, .isub, 0), (29, .istore 5, 0), (31, .iload 5, 0), (33, .ifCond .lt 29, 62), (36, .lload_n 3, 0), (37, .bipush 8, 0), (39, .lshl, 0), (40, .aload_n 0, 0), (41, .getfield 9, 0), (44, .iload_n 1, 0), (45, .iload 5, 0), (47, .iadd, 0), (48, .baload, 0), (49, .sipush 255, 0), (52, .iand, 0), (53, .i2l, 0), (54, .lor, 0), (55, .lstore_n 3, 0), (56, .iinc 5 (-1), 0), (59, .goto (-28), 31), (62, .lload_n 3, 0), (63, .lreturn, 0)]
theorem pX1_number_ok : ∀ q ∈ pX1_number, rx_ok cX1_number q := rx_ok_all (by decide +kernel)
abbrev rX1_number : Room := { frames := 0, cells := 0, slots := 0, locals := 0 }
noncomputable def fX1_number : rx_F cS := fun w as => match as with
  | [.int x, .int k] => some (k.toNatClampNeg ≤ 8 ∧ nI k.toNatClampNeg = k, w, some (.long (lN (nm w.1 x k.toNatClampNeg))))
  | _ => none
noncomputable def eX1_number (ad : Nat → Nat) : rx_E cS := rx_any [rx_hG 15 (ad 1) (fun w => .int (nI (bn w.1))), rx_hG 9 (ad 1) (fun w => .ref (ad 4)), rx_hAb (ad 4) 640 (fun w k => sB (bg w.1 k))]
set_option maxHeartbeats 4000000 in
set_option maxRecDepth 100000 in
theorem eo_X1_number (l : Launch) (D : va_G) (ad : Nat → Nat) (cB : ClassId) : ∀ (p : Program) (e : Env) (s : State) (m : MethodId) (args : Array Value) (below : List Frame) (meth : Method) (c : Code) (Qw : State → Prop), CallFix p m c cX1_number 6 s args (Cond.code yX1_number cX1_number 6 (some .long) :: wsA) RX1 → cK D cB s → rx_Eok (fun H locs g => W p l e rX1_number s m args below meth c H locs 0 0 Qw g) m cX1_number 6 (tr_I D vwCl (cA ad) s (cW ad cB)) (eX1_number ad) := by
  intro p e s m args below meth c Qw S hK
  have ht : ∀ w ∈ wsA, w.before args s = true := fun w h => S.2.2.2.2 w (wsA_in h)
  exact rx_any_c (rx_hG_ok (fun w H locs pc ls rest hI hd k => va_get (D := D) (ci := 1) (C := RX1) (T := TX1) (N := 2) S.1 S.2.1 ht inX1 S.2.2.2.1 hK.1 hI.1 1 rfl rfl 1 (by decide) (ht _ wfX1_15) (fun _ h9 => h9) rfl hd k)) (rx_any_c (rx_hG_ok (fun w H locs pc ls rest hI hd k => va_get (D := D) (ci := 1) (C := RX1) (T := TX1) (N := 2) S.1 S.2.1 ht inX1 S.2.2.2.1 hK.1 hI.1 1 rfl rfl 0 (by decide) (ht _ wfX1_9) (fun _ h9 => h9) rfl hd k)) (rx_any_c (rx_hAb_ok (fun w H locs pc ls rest x hI hin hd k => va_bald S.1 S.2.1 hK.1 hI.1 4 0 rfl rfl hin hd k)) (rx_any_0)))
set_option maxHeartbeats 4000000 in
set_option maxRecDepth 100000 in
theorem ct_X1_number (l : Launch) (D : va_G) (ad : Nat → Nat) (cB : ClassId) : ctC l yX1_number cX1_number 6 (some .long) rX1_number D ad cB [.ref (ad 1)] fX1_number := by
  intro w as g w1 r hf hg
  unfold fX1_number at hf
  split at hf
  · next x k =>
    cases hf
    obtain ⟨hk8, hkk⟩ := hg
    generalize k.toNatClampNeg = K at hk8 hkk ⊢
    subst hkk
    refine tr_of (rx_1c 31 (fun u w0 lv => w0 = w ∧ ¬ x < 0 ∧ x.toNatClampNeg + K ≤ bn w.1 ∧ ∃ j, j ≤ K ∧ u = K - j ∧ lv = [(0, .ref (ad 1)), (1, .int x), (3, .long (lN (bl w.1 (x.toNatClampNeg + (K - j)) j))), (5, .int (nI (K - j) - nI 1))])) 200 200 10000 (by decide) rfl rfl (Nat.le_of_ble_eq_true rfl) pX1_number_ok (rt_l _) (eo_X1_number l D ad cB) ?_ ?_
    · intro pc g0 hpc u w0 lv hinv
      have hh := rx_1c_of hpc
      clear hpc
      obtain ⟨rfl, rfl⟩ := hh
      obtain ⟨rfl, hx, hn, j, hj, rfl, rfl⟩ := hinv
      obtain ⟨a, ha, rfl⟩ := nI_of hx
      rw [nI_clamp ha] at hn
      simp only [nI_clamp ha]
      simp only [pX1_number, eX1_number, rx_n, rx_s, rx_to, rx_get, rx_f1, rx_f2, rx_two, rx_ext, rx_any, rx_hV, rx_hS, rx_hG, rx_hP, rx_hAi, rx_hAb, rx_hL, rx_hLi, rx_got, rx_pop, rx_sum, rx_len, rx_c, rx_m1, lv_args, Value.category, rx_cut_n, rx_cut_1, rx_iconst, rx_bipush, rx_sipush, rx_lconst, rx_iload_n, rx_iload, rx_lload_n, rx_lload, rx_aload_n, rx_aload, rx_istore_n, rx_istore, rx_lstore_n, rx_lstore, rx_astore_n, rx_astore, rx_iinc, rx_iadd, rx_isub, rx_imul, rx_iand, rx_ixor, rx_ishr, rx_idiv, rx_irem, rx_ladd, rx_lsub, rx_land, rx_lor, rx_lxor, rx_lmul, rx_ldiv, rx_lrem, rx_lushr, rx_lshl, rx_lshr, rx_lneg, rx_i2l, rx_l2i, rx_i2b, rx_lcmp, rx_dup_i, rx_dup_a, rx_pop_i, rx_pop_a, rx_if_eq, rx_if_ne, rx_if_lt, rx_if_ge, rx_if_gt, rx_if_le, rx_icmp_eq, rx_icmp_ne, rx_icmp_lt, rx_icmp_ge, rx_icmp_gt, rx_icmp_le, rx_goto, rx_tsw, rx_ireturn, rx_lreturn, rx_return_, rx_getfield, rx_putfield, rx_invokevirtual, rx_invokespecial, rx_invokestatic, rx_ldc, rx_ldc2_w, rx_iaload, rx_iastore, rx_baload, rx_bastore, Nat.reduceBEq, Nat.reduceAdd, Nat.reduceSub, Nat.reduceMul, Nat.reduceLeDiff, Nat.reduceEqDiff, Nat.reduceLT, Int.reduceLT, Int.reduceLE, Int.reduceNeg, Int.reduceToNat, Int.reduceAdd, Fin.isValue, Fin.val_zero, Fin.val_one, Fin.reduceFinMk, Fin.val_ofNat, Bool.or_true, Bool.true_or, Bool.or_false, Bool.false_or, Bool.and_true, Bool.true_and, Bool.and_false, Bool.false_and, cond_true, cond_false, ↓reduceIte, eq_self, ne_eq, not_true_eq_false, not_false_eq_true, true_and, and_true, Option.toList_some, Option.toList_none, List.cons_append, List.nil_append, Option.some.injEq, Value.int.injEq, Value.long.injEq, rx_l0, rx_l1, rx_fv0, rx_fv1, rx_fv2, rx_fv3, nI_c1, nI_c2, nI_c4, nI_c8, nI_c9, nI_c24, nI_c64, Nat.le_refl, bI_z, bI_0, bI_1, Classical.not_not, lg_cmp_ge, lg_cmp_le, lg_cmp_gt, lg_cmp_lt, lg_cmp_eq]
      refine ⟨fun h => ?_, fun h => ?_⟩
      · rcases Nat.eq_zero_or_pos (K - j) with h0 | h0
        · have e : j = K := by omega
          rw [h0, e, nm_nI ha, nu_in hn, Nat.add_zero]
        · rw [pk_sub h0] at h
          exact absurd h (nI_pos (by omega))
      · have h0 : 0 < K - j := by
          rcases Nat.eq_zero_or_pos (K - j) with h0 | h0
          · rw [h0] at h
            exact absurd (by decide) h
          · exact h0
        have e1 : nI (K - j) - nI 1 = nI (K - (j + 1)) := by rw [pk_sub h0, Nat.sub_sub]
        have h3 := bn_le w0.1
        rw [e1, nI_add]
        refine ⟨vp_in_nI (by omega) (by decide), K - (j + 1), _, by omega, ⟨hx, hn, j + 1, by omega, rfl, rfl⟩, ?_⟩
        simp only [List.mem_cons, List.not_mem_nil, or_false, forall_eq_or_imp, forall_eq, Nat.reduceBEq, cond_true, cond_false, Option.some.injEq, Value.int.injEq, Value.long.injEq, Value.ref.injEq, true_and, and_true]
        refine ⟨?_, ?_⟩
        · have hb := bg_lt w0.1 (a + (K - (j + 1)))
          have e2 : a + (K - j) = a + (K - (j + 1)) + 1 := by omega
          rw [nI_clamp (by omega), sB_and hb, nI_l (n := bg w0.1 (a + (K - (j + 1)))) (by omega), lN_sh8 (Nat.lt_of_lt_of_le (bl_lt _ _ j) (Nat.le_trans (Nat.pow_le_pow_right (by decide) (show j ≤ 7 by omega)) (by decide))) hb, e2]
          rfl
        · exact i_m1 _
    · simp only [pX1_number, eX1_number, rx_n, rx_s, rx_to, rx_get, rx_f1, rx_f2, rx_two, rx_ext, rx_any, rx_hV, rx_hS, rx_hG, rx_hP, rx_hAi, rx_hAb, rx_hL, rx_hLi, rx_got, rx_pop, rx_sum, rx_len, rx_c, rx_m1, lv_args, Value.category, rx_cut_n, rx_cut_1, rx_iconst, rx_bipush, rx_sipush, rx_lconst, rx_iload_n, rx_iload, rx_lload_n, rx_lload, rx_aload_n, rx_aload, rx_istore_n, rx_istore, rx_lstore_n, rx_lstore, rx_astore_n, rx_astore, rx_iinc, rx_iadd, rx_isub, rx_imul, rx_iand, rx_ixor, rx_ishr, rx_idiv, rx_irem, rx_ladd, rx_lsub, rx_land, rx_lor, rx_lxor, rx_lmul, rx_ldiv, rx_lrem, rx_lushr, rx_lshl, rx_lshr, rx_lneg, rx_i2l, rx_l2i, rx_i2b, rx_lcmp, rx_dup_i, rx_dup_a, rx_pop_i, rx_pop_a, rx_if_eq, rx_if_ne, rx_if_lt, rx_if_ge, rx_if_gt, rx_if_le, rx_icmp_eq, rx_icmp_ne, rx_icmp_lt, rx_icmp_ge, rx_icmp_gt, rx_icmp_le, rx_goto, rx_tsw, rx_ireturn, rx_lreturn, rx_return_, rx_getfield, rx_putfield, rx_invokevirtual, rx_invokespecial, rx_invokestatic, rx_ldc, rx_ldc2_w, rx_iaload, rx_iastore, rx_baload, rx_bastore, Nat.reduceBEq, Nat.reduceAdd, Nat.reduceSub, Nat.reduceMul, Nat.reduceLeDiff, Nat.reduceEqDiff, Nat.reduceLT, Int.reduceLT, Int.reduceLE, Int.reduceNeg, Int.reduceToNat, Int.reduceAdd, Fin.isValue, Fin.val_zero, Fin.val_one, Fin.reduceFinMk, Fin.val_ofNat, Bool.or_true, Bool.true_or, Bool.or_false, Bool.false_or, Bool.and_true, Bool.true_and, Bool.and_false, Bool.false_and, cond_true, cond_false, ↓reduceIte, eq_self, ne_eq, not_true_eq_false, not_false_eq_true, true_and, and_true, Option.toList_some, Option.toList_none, List.cons_append, List.nil_append, Option.some.injEq, Value.int.injEq, Value.long.injEq, rx_l0, rx_l1, rx_fv0, rx_fv1, rx_fv2, rx_fv3, nI_c1, nI_c2, nI_c4, nI_c8, nI_c9, nI_c24, nI_c64, Nat.le_refl, bI_z, bI_0, bI_1, Classical.not_not, lg_cmp_ge, lg_cmp_le, lg_cmp_gt, lg_cmp_lt, lg_cmp_eq]
      refine ⟨fun h => ?_, fun h => ?_⟩
      · unfold nm
        rw [if_pos h]
      · obtain ⟨a, ha, rfl⟩ := nI_of h
        have h3 := bn_le w.1
        simp only [nm_nI ha, nI_clamp ha]
        refine ⟨fun h1 => ?_, fun h1 => ⟨fun h2 => ?_, fun h2 => ?_⟩⟩
        · rw [nI_ltI (by omega) ha] at h1
          unfold nu
          rw [if_neg (by omega)]
        · rw [nI_ltI (by omega) ha] at h1
          rw [pk_sub (by omega), nI_leI (by omega) (by omega)] at h2
          refine ⟨K, _, by omega, ⟨h, by omega, 0, by omega, rfl, rfl⟩, ?_⟩
          simp only [List.mem_cons, List.not_mem_nil, or_false, forall_eq_or_imp, forall_eq, Nat.reduceBEq, cond_true, cond_false, Option.some.injEq, Value.int.injEq, Value.long.injEq, Value.ref.injEq, true_and, and_true]
          exact ⟨rfl, rfl⟩
        · rw [nI_ltI (by omega) ha] at h1
          rw [pk_sub (by omega), nI_leI (by omega) (by omega)] at h2
          unfold nu
          rw [if_neg (by omega)]
  · cases hf
def pX1_isZeros : rx_P := [(0, .iconst 0, 0), (1, .istore_n 3, 0), (2, .iload_n 3, 0), (3, .iload_n 2, 0), (4, .if_icmp .ge 24, 28), (7, .aload_n 0, 0), (8, .iload_n 1, 0), (9, .iload_n 3, 0), (10, .iadd, 0), (11, .iconst 1, 0), (12, .invokevirtual 19, 0), (15, .lconst 0, 0), (16, .lcmp, 0), (17, .ifCond .eq 5, 22), (20, .iconst 0, 0), (21, .ireturn, 0), (22, .iinc 3 1, 0), (25, .goto (-23), 2), (28, .iconst 1, 0), (29, .ireturn, 0)]
theorem pX1_isZeros_ok : ∀ q ∈ pX1_isZeros, rx_ok cX1_isZeros q := rx_ok_all (by decide +kernel)
abbrev rX1_isZeros : Room := { frames := 1, cells := 0, slots := 0, locals := 25 }
noncomputable def fX1_isZeros : rx_F cS := fun w as => match as with
  | [.int x, .int k] => some (k.toNatClampNeg ≤ 640 ∧ nI k.toNatClampNeg = k, w, some (.int (bI (∀ i, i < k.toNatClampNeg → nm w.1 (x + nI i) 1 = 0))))
  | _ => none
noncomputable def eX1_isZeros (ad : Nat → Nat) : rx_E cS := rx_any [rx_hV 19 2 (ad 1) fX1_number]
set_option maxHeartbeats 4000000 in
set_option maxRecDepth 100000 in
theorem eo_X1_isZeros (l : Launch) (D : va_G) (ad : Nat → Nat) (cB : ClassId) : ∀ (p : Program) (e : Env) (s : State) (m : MethodId) (args : Array Value) (below : List Frame) (meth : Method) (c : Code) (Qw : State → Prop), CallFix p m c cX1_isZeros 4 s args (Cond.code yX1_isZeros cX1_isZeros 4 (some .boolean) :: wsA) RX1 → cK D cB s → rx_Eok (fun H locs g => W p l e rX1_isZeros s m args below meth c H locs 0 0 Qw g) m cX1_isZeros 4 (tr_I D vwCl (cA ad) s (cW ad cB)) (eX1_isZeros ad) := by
  intro p e s m args below meth c Qw S hK
  have ht : ∀ w ∈ wsA, w.before args s = true := fun w h => S.2.2.2.2 w (wsA_in h)
  exact rx_any_c (rx_hV_ok S ⟨Nat.zero_le _, Nat.zero_le _⟩ cK_tr hK (cwV 2 S.2.2.2.2 (wsA_V wkX1_19 wiX1_number weX1_number winiX1 wX1_number) rfl rfl rfl (by decide +kernel) ⟨by decide, by decide⟩) (ct_X1_number l D ad cB) (fun w H hP => va_recv hK.1 hP (rfl : vwCl[1]? = some (RX1, TX1, 2)) (rfl : (cW ad cB w)[1]? = some _))) (rx_any_0)
set_option maxHeartbeats 4000000 in
set_option maxRecDepth 100000 in
theorem ct_X1_isZeros (l : Launch) (D : va_G) (ad : Nat → Nat) (cB : ClassId) : ctC l yX1_isZeros cX1_isZeros 4 (some .boolean) rX1_isZeros D ad cB [.ref (ad 1)] fX1_isZeros := by
  intro w as g w1 r hf hg
  unfold fX1_isZeros at hf
  split at hf
  · next x k =>
    cases hf
    obtain ⟨hk8, hkk⟩ := hg
    generalize k.toNatClampNeg = K at hk8 hkk ⊢
    subst hkk
    refine tr_of (rx_1c 2 (fun u w0 lv => w0 = w ∧ ∃ j, j ≤ K ∧ u = K - j ∧ (∀ i, i < j → nm w.1 (x + nI i) 1 = 0) ∧ lv = [(0, .ref (ad 1)), (1, .int x), (2, .int (nI K)), (3, .int (nI j))])) 200 200 10000 (by decide) rfl rfl (Nat.le_of_ble_eq_true rfl) pX1_isZeros_ok (rt_z _) (eo_X1_isZeros l D ad cB) ?_ ?_
    · intro pc g0 hpc u w0 lv hinv
      have hh := rx_1c_of hpc
      clear hpc
      obtain ⟨rfl, rfl⟩ := hh
      obtain ⟨rfl, j, hj, rfl, hz, rfl⟩ := hinv
      simp only [pX1_isZeros, eX1_isZeros, fX1_number, rx_n, rx_s, rx_to, rx_get, rx_f1, rx_f2, rx_two, rx_ext, rx_any, rx_hV, rx_hS, rx_hG, rx_hP, rx_hAi, rx_hAb, rx_hL, rx_hLi, rx_got, rx_pop, rx_sum, rx_len, rx_c, rx_m1, lv_args, Value.category, rx_cut_n, rx_cut_1, rx_iconst, rx_bipush, rx_sipush, rx_lconst, rx_iload_n, rx_iload, rx_lload_n, rx_lload, rx_aload_n, rx_aload, rx_istore_n, rx_istore, rx_lstore_n, rx_lstore, rx_astore_n, rx_astore, rx_iinc, rx_iadd, rx_isub, rx_imul, rx_iand, rx_ixor, rx_ishr, rx_idiv, rx_irem, rx_ladd, rx_lsub, rx_land, rx_lor, rx_lxor, rx_lmul, rx_ldiv, rx_lrem, rx_lushr, rx_lshl, rx_lshr, rx_lneg, rx_i2l, rx_l2i, rx_i2b, rx_lcmp, rx_dup_i, rx_dup_a, rx_pop_i, rx_pop_a, rx_if_eq, rx_if_ne, rx_if_lt, rx_if_ge, rx_if_gt, rx_if_le, rx_icmp_eq, rx_icmp_ne, rx_icmp_lt, rx_icmp_ge, rx_icmp_gt, rx_icmp_le, rx_goto, rx_tsw, rx_ireturn, rx_lreturn, rx_return_, rx_getfield, rx_putfield, rx_invokevirtual, rx_invokespecial, rx_invokestatic, rx_ldc, rx_ldc2_w, rx_iaload, rx_iastore, rx_baload, rx_bastore, Nat.reduceBEq, Nat.reduceAdd, Nat.reduceSub, Nat.reduceMul, Nat.reduceLeDiff, Nat.reduceEqDiff, Nat.reduceLT, Int.reduceLT, Int.reduceLE, Int.reduceNeg, Int.reduceToNat, Int.reduceAdd, Fin.isValue, Fin.val_zero, Fin.val_one, Fin.reduceFinMk, Fin.val_ofNat, Bool.or_true, Bool.true_or, Bool.or_false, Bool.false_or, Bool.and_true, Bool.true_and, Bool.and_false, Bool.false_and, cond_true, cond_false, ↓reduceIte, eq_self, ne_eq, not_true_eq_false, not_false_eq_true, true_and, and_true, Option.toList_some, Option.toList_none, List.cons_append, List.nil_append, Option.some.injEq, Value.int.injEq, Value.long.injEq, rx_l0, rx_l1, rx_fv0, rx_fv1, rx_fv2, rx_fv3, nI_c1, nI_c2, nI_c4, nI_c8, nI_c9, nI_c24, nI_c64, Nat.le_refl, bI_z, bI_0, bI_1, Classical.not_not, lg_cmp_ge, lg_cmp_le, lg_cmp_gt, lg_cmp_lt, lg_cmp_eq]
      have h1 := nm_1 w0.1 (x + nI j)
      rw [nI_leI (by omega) (by omega), pk_lEQ (by omega) (by omega)]
      refine ⟨fun h i hi => hz i (by omega), fun h => ⟨fun h2 => ?_, fun h2 h3 => h2 (h3 j (by omega))⟩⟩
      refine ⟨K - (j + 1), _, by omega, ⟨j + 1, by omega, rfl, lt_s hz h2, rfl⟩, ?_⟩
      simp only [List.mem_cons, List.not_mem_nil, or_false, forall_eq_or_imp, forall_eq, Nat.reduceBEq, cond_true, cond_false, Option.some.injEq, Value.int.injEq, Value.long.injEq, Value.ref.injEq, true_and, and_true]
      exact nI_add j 1
    · simp only [pX1_isZeros, eX1_isZeros, fX1_number, rx_n, rx_s, rx_to, rx_get, rx_f1, rx_f2, rx_two, rx_ext, rx_any, rx_hV, rx_hS, rx_hG, rx_hP, rx_hAi, rx_hAb, rx_hL, rx_hLi, rx_got, rx_pop, rx_sum, rx_len, rx_c, rx_m1, lv_args, Value.category, rx_cut_n, rx_cut_1, rx_iconst, rx_bipush, rx_sipush, rx_lconst, rx_iload_n, rx_iload, rx_lload_n, rx_lload, rx_aload_n, rx_aload, rx_istore_n, rx_istore, rx_lstore_n, rx_lstore, rx_astore_n, rx_astore, rx_iinc, rx_iadd, rx_isub, rx_imul, rx_iand, rx_ixor, rx_ishr, rx_idiv, rx_irem, rx_ladd, rx_lsub, rx_land, rx_lor, rx_lxor, rx_lmul, rx_ldiv, rx_lrem, rx_lushr, rx_lshl, rx_lshr, rx_lneg, rx_i2l, rx_l2i, rx_i2b, rx_lcmp, rx_dup_i, rx_dup_a, rx_pop_i, rx_pop_a, rx_if_eq, rx_if_ne, rx_if_lt, rx_if_ge, rx_if_gt, rx_if_le, rx_icmp_eq, rx_icmp_ne, rx_icmp_lt, rx_icmp_ge, rx_icmp_gt, rx_icmp_le, rx_goto, rx_tsw, rx_ireturn, rx_lreturn, rx_return_, rx_getfield, rx_putfield, rx_invokevirtual, rx_invokespecial, rx_invokestatic, rx_ldc, rx_ldc2_w, rx_iaload, rx_iastore, rx_baload, rx_bastore, Nat.reduceBEq, Nat.reduceAdd, Nat.reduceSub, Nat.reduceMul, Nat.reduceLeDiff, Nat.reduceEqDiff, Nat.reduceLT, Int.reduceLT, Int.reduceLE, Int.reduceNeg, Int.reduceToNat, Int.reduceAdd, Fin.isValue, Fin.val_zero, Fin.val_one, Fin.reduceFinMk, Fin.val_ofNat, Bool.or_true, Bool.true_or, Bool.or_false, Bool.false_or, Bool.and_true, Bool.true_and, Bool.and_false, Bool.false_and, cond_true, cond_false, ↓reduceIte, eq_self, ne_eq, not_true_eq_false, not_false_eq_true, true_and, and_true, Option.toList_some, Option.toList_none, List.cons_append, List.nil_append, Option.some.injEq, Value.int.injEq, Value.long.injEq, rx_l0, rx_l1, rx_fv0, rx_fv1, rx_fv2, rx_fv3, nI_c1, nI_c2, nI_c4, nI_c8, nI_c9, nI_c24, nI_c64, Nat.le_refl, bI_z, bI_0, bI_1, Classical.not_not, lg_cmp_ge, lg_cmp_le, lg_cmp_gt, lg_cmp_lt, lg_cmp_eq]
      refine ⟨K, _, by omega, ⟨0, by omega, rfl, lt_0, rfl⟩, ?_⟩
      simp only [List.mem_cons, List.not_mem_nil, or_false, forall_eq_or_imp, forall_eq, Nat.reduceBEq, cond_true, cond_false, Option.some.injEq, Value.int.injEq, Value.long.injEq, Value.ref.injEq, true_and, and_true]
  · cases hf
def pX1_textLength : rx_P := [(0, .iconst 0, 0), (1, .istore_n 2, 0), (2, .iload_n 2, 0), (3, .sipush 640, 0), (6, .if_icmp .ge 22, 28), (9, .aload_n 0, 0), (10, .iload_n 1, 0), (11, .iload_n 2, 0), (12, .iadd, 0), (13, .iconst 1, 0), (14, .invokevirtual 19, 0), (17, .lconst 0, 0), (18, .lcmp, 0), (19, .ifCond .eq 9, 28), (22, .iinc 2 1, 0), (25, .goto (-23), 2), (28, .iload_n 2, 0), (29, .ireturn, 0)]
theorem pX1_textLength_ok : ∀ q ∈ pX1_textLength, rx_ok cX1_textLength q := rx_ok_all (by decide +kernel)
abbrev rX1_textLength : Room := { frames := 1, cells := 0, slots := 0, locals := 25 }
noncomputable def fX1_textLength : rx_F cS := fun w as => match as with
  | [.int x] => some (True, w, some (.int (nI (fi (fun i => nm w.1 (x + nI i) 1 = 0) 640))))
  | _ => none
noncomputable def eX1_textLength (ad : Nat → Nat) : rx_E cS := rx_any [rx_hV 19 2 (ad 1) fX1_number]
set_option maxHeartbeats 4000000 in
set_option maxRecDepth 100000 in
theorem eo_X1_textLength (l : Launch) (D : va_G) (ad : Nat → Nat) (cB : ClassId) : ∀ (p : Program) (e : Env) (s : State) (m : MethodId) (args : Array Value) (below : List Frame) (meth : Method) (c : Code) (Qw : State → Prop), CallFix p m c cX1_textLength 3 s args (Cond.code yX1_textLength cX1_textLength 3 (some .int) :: wsA) RX1 → cK D cB s → rx_Eok (fun H locs g => W p l e rX1_textLength s m args below meth c H locs 0 0 Qw g) m cX1_textLength 3 (tr_I D vwCl (cA ad) s (cW ad cB)) (eX1_textLength ad) := by
  intro p e s m args below meth c Qw S hK
  have ht : ∀ w ∈ wsA, w.before args s = true := fun w h => S.2.2.2.2 w (wsA_in h)
  exact rx_any_c (rx_hV_ok S ⟨Nat.zero_le _, Nat.zero_le _⟩ cK_tr hK (cwV 2 S.2.2.2.2 (wsA_V wkX1_19 wiX1_number weX1_number winiX1 wX1_number) rfl rfl rfl (by decide +kernel) ⟨by decide, by decide⟩) (ct_X1_number l D ad cB) (fun w H hP => va_recv hK.1 hP (rfl : vwCl[1]? = some (RX1, TX1, 2)) (rfl : (cW ad cB w)[1]? = some _))) (rx_any_0)
set_option maxHeartbeats 4000000 in
set_option maxRecDepth 100000 in
theorem ct_X1_textLength (l : Launch) (D : va_G) (ad : Nat → Nat) (cB : ClassId) : ctC l yX1_textLength cX1_textLength 3 (some .int) rX1_textLength D ad cB [.ref (ad 1)] fX1_textLength := by
  intro w as g w1 r hf hg
  unfold fX1_textLength at hf
  split at hf
  · next x =>
    cases hf
    refine tr_of (rx_1c 2 (fun u w0 lv => w0 = w ∧ ∃ j, j ≤ 640 ∧ u = 640 - j ∧ (∀ i, i < j → ¬ nm w.1 (x + nI i) 1 = 0) ∧ lv = [(0, .ref (ad 1)), (1, .int x), (2, .int (nI j))])) 200 200 10000 (by decide) rfl rfl (Nat.le_of_ble_eq_true rfl) pX1_textLength_ok (rt_i _) (eo_X1_textLength l D ad cB) ?_ ?_
    · intro pc g0 hpc u w0 lv hinv
      have hh := rx_1c_of hpc
      clear hpc
      obtain ⟨rfl, rfl⟩ := hh
      obtain ⟨rfl, j, hj, rfl, hz, rfl⟩ := hinv
      simp only [pX1_textLength, eX1_textLength, fX1_number, rx_n, rx_s, rx_to, rx_get, rx_f1, rx_f2, rx_two, rx_ext, rx_any, rx_hV, rx_hS, rx_hG, rx_hP, rx_hAi, rx_hAb, rx_hL, rx_hLi, rx_got, rx_pop, rx_sum, rx_len, rx_c, rx_m1, lv_args, Value.category, rx_cut_n, rx_cut_1, rx_iconst, rx_bipush, rx_sipush, rx_lconst, rx_iload_n, rx_iload, rx_lload_n, rx_lload, rx_aload_n, rx_aload, rx_istore_n, rx_istore, rx_lstore_n, rx_lstore, rx_astore_n, rx_astore, rx_iinc, rx_iadd, rx_isub, rx_imul, rx_iand, rx_ixor, rx_ishr, rx_idiv, rx_irem, rx_ladd, rx_lsub, rx_land, rx_lor, rx_lxor, rx_lmul, rx_ldiv, rx_lrem, rx_lushr, rx_lshl, rx_lshr, rx_lneg, rx_i2l, rx_l2i, rx_i2b, rx_lcmp, rx_dup_i, rx_dup_a, rx_pop_i, rx_pop_a, rx_if_eq, rx_if_ne, rx_if_lt, rx_if_ge, rx_if_gt, rx_if_le, rx_icmp_eq, rx_icmp_ne, rx_icmp_lt, rx_icmp_ge, rx_icmp_gt, rx_icmp_le, rx_goto, rx_tsw, rx_ireturn, rx_lreturn, rx_return_, rx_getfield, rx_putfield, rx_invokevirtual, rx_invokespecial, rx_invokestatic, rx_ldc, rx_ldc2_w, rx_iaload, rx_iastore, rx_baload, rx_bastore, Nat.reduceBEq, Nat.reduceAdd, Nat.reduceSub, Nat.reduceMul, Nat.reduceLeDiff, Nat.reduceEqDiff, Nat.reduceLT, Int.reduceLT, Int.reduceLE, Int.reduceNeg, Int.reduceToNat, Int.reduceAdd, Fin.isValue, Fin.val_zero, Fin.val_one, Fin.reduceFinMk, Fin.val_ofNat, Bool.or_true, Bool.true_or, Bool.or_false, Bool.false_or, Bool.and_true, Bool.true_and, Bool.and_false, Bool.false_and, cond_true, cond_false, ↓reduceIte, eq_self, ne_eq, not_true_eq_false, not_false_eq_true, true_and, and_true, Option.toList_some, Option.toList_none, List.cons_append, List.nil_append, Option.some.injEq, Value.int.injEq, Value.long.injEq, rx_l0, rx_l1, rx_fv0, rx_fv1, rx_fv2, rx_fv3, nI_c1, nI_c2, nI_c4, nI_c8, nI_c9, nI_c24, nI_c64, Nat.le_refl, bI_z, bI_0, bI_1, Classical.not_not, lg_cmp_ge, lg_cmp_le, lg_cmp_gt, lg_cmp_lt, lg_cmp_eq]
      have h1 := nm_1 w0.1 (x + nI j)
      rw [nI_leI (by omega) (by omega), pk_lEQ (by omega) (by omega)]
      refine ⟨fun h => ?_, fun h => ⟨fun h2 => ?_, fun h2 => ?_⟩⟩
      · rw [fi_eq (k := j) hz (fun h => by omega) hj]
      · rw [fi_eq (k := j) hz (fun _ => h2) hj]
      · refine ⟨640 - (j + 1), _, by omega, ⟨j + 1, by omega, rfl, lt_s hz h2, rfl⟩, ?_⟩
        simp only [List.mem_cons, List.not_mem_nil, or_false, forall_eq_or_imp, forall_eq, Nat.reduceBEq, cond_true, cond_false, Option.some.injEq, Value.int.injEq, Value.long.injEq, Value.ref.injEq, true_and, and_true]
        exact nI_add j 1
    · simp only [pX1_textLength, eX1_textLength, fX1_number, rx_n, rx_s, rx_to, rx_get, rx_f1, rx_f2, rx_two, rx_ext, rx_any, rx_hV, rx_hS, rx_hG, rx_hP, rx_hAi, rx_hAb, rx_hL, rx_hLi, rx_got, rx_pop, rx_sum, rx_len, rx_c, rx_m1, lv_args, Value.category, rx_cut_n, rx_cut_1, rx_iconst, rx_bipush, rx_sipush, rx_lconst, rx_iload_n, rx_iload, rx_lload_n, rx_lload, rx_aload_n, rx_aload, rx_istore_n, rx_istore, rx_lstore_n, rx_lstore, rx_astore_n, rx_astore, rx_iinc, rx_iadd, rx_isub, rx_imul, rx_iand, rx_ixor, rx_ishr, rx_idiv, rx_irem, rx_ladd, rx_lsub, rx_land, rx_lor, rx_lxor, rx_lmul, rx_ldiv, rx_lrem, rx_lushr, rx_lshl, rx_lshr, rx_lneg, rx_i2l, rx_l2i, rx_i2b, rx_lcmp, rx_dup_i, rx_dup_a, rx_pop_i, rx_pop_a, rx_if_eq, rx_if_ne, rx_if_lt, rx_if_ge, rx_if_gt, rx_if_le, rx_icmp_eq, rx_icmp_ne, rx_icmp_lt, rx_icmp_ge, rx_icmp_gt, rx_icmp_le, rx_goto, rx_tsw, rx_ireturn, rx_lreturn, rx_return_, rx_getfield, rx_putfield, rx_invokevirtual, rx_invokespecial, rx_invokestatic, rx_ldc, rx_ldc2_w, rx_iaload, rx_iastore, rx_baload, rx_bastore, Nat.reduceBEq, Nat.reduceAdd, Nat.reduceSub, Nat.reduceMul, Nat.reduceLeDiff, Nat.reduceEqDiff, Nat.reduceLT, Int.reduceLT, Int.reduceLE, Int.reduceNeg, Int.reduceToNat, Int.reduceAdd, Fin.isValue, Fin.val_zero, Fin.val_one, Fin.reduceFinMk, Fin.val_ofNat, Bool.or_true, Bool.true_or, Bool.or_false, Bool.false_or, Bool.and_true, Bool.true_and, Bool.and_false, Bool.false_and, cond_true, cond_false, ↓reduceIte, eq_self, ne_eq, not_true_eq_false, not_false_eq_true, true_and, and_true, Option.toList_some, Option.toList_none, List.cons_append, List.nil_append, Option.some.injEq, Value.int.injEq, Value.long.injEq, rx_l0, rx_l1, rx_fv0, rx_fv1, rx_fv2, rx_fv3, nI_c1, nI_c2, nI_c4, nI_c8, nI_c9, nI_c24, nI_c64, Nat.le_refl, bI_z, bI_0, bI_1, Classical.not_not, lg_cmp_ge, lg_cmp_le, lg_cmp_gt, lg_cmp_lt, lg_cmp_eq]
      refine ⟨640, _, by omega, ⟨0, by omega, rfl, lt_0, rfl⟩, ?_⟩
      simp only [List.mem_cons, List.not_mem_nil, or_false, forall_eq_or_imp, forall_eq, Nat.reduceBEq, cond_true, cond_false, Option.some.injEq, Value.int.injEq, Value.long.injEq, Value.ref.injEq, true_and, and_true]
  · cases hf
def pX1_hasRoom : rx_P := [(0, .aload_n 0, 0), (1, .getfield 15, 0), (4, .i2l, 0), (5, .lload_n 1, 0), (6, .invokestatic 23, 0), (9, .ifCond .ne 21, 30), (12, .aload_n 0, 0), (13, .getfield 15, 0), (16, .i2l, 0), (17, .lload_n 1, 0), (18, .lsub, 0), (19, .lload_n 3, 0), (20, .invokestatic 23, 0), (23, .ifCond .ne 7, 30), (26, .iconst 1, 0), (27, .goto 4, 31), (30, .iconst 0, 0), (31, .ireturn, 0)]
theorem pX1_hasRoom_ok : ∀ q ∈ pX1_hasRoom, rx_ok cX1_hasRoom q := rx_ok_all (by decide +kernel)
abbrev rX1_hasRoom : Room := { frames := 1, cells := 0, slots := 0, locals := 23 }
noncomputable def fX1_hasRoom : rx_F cS := fun w as => match as with
  | [.long x, .long y] => some (True, w, some (.int (bI (uN x + uN y ≤ bn w.1))))
  | _ => none
noncomputable def eX1_hasRoom (ad : Nat → Nat) : rx_E cS := rx_any [rx_hG 15 (ad 1) (fun w => .int (nI (bn w.1))), rx_hS 23 2 fX1_isBelow]
set_option maxHeartbeats 4000000 in
set_option maxRecDepth 100000 in
theorem eo_X1_hasRoom (l : Launch) (D : va_G) (ad : Nat → Nat) (cB : ClassId) : ∀ (p : Program) (e : Env) (s : State) (m : MethodId) (args : Array Value) (below : List Frame) (meth : Method) (c : Code) (Qw : State → Prop), CallFix p m c cX1_hasRoom 5 s args (Cond.code yX1_hasRoom cX1_hasRoom 5 (some .boolean) :: wsA) RX1 → cK D cB s → rx_Eok (fun H locs g => W p l e rX1_hasRoom s m args below meth c H locs 0 0 Qw g) m cX1_hasRoom 5 (tr_I D vwCl (cA ad) s (cW ad cB)) (eX1_hasRoom ad) := by
  intro p e s m args below meth c Qw S hK
  have ht : ∀ w ∈ wsA, w.before args s = true := fun w h => S.2.2.2.2 w (wsA_in h)
  exact rx_any_c (rx_hG_ok (fun w H locs pc ls rest hI hd k => va_get (D := D) (ci := 1) (C := RX1) (T := TX1) (N := 2) S.1 S.2.1 ht inX1 S.2.2.2.1 hK.1 hI.1 1 rfl rfl 1 (by decide) (ht _ wfX1_15) (fun _ h9 => h9) rfl hd k)) (rx_any_c (rx_hS_ok S ⟨Nat.zero_le _, Nat.zero_le _⟩ cK_tr hK (va_cwS 2 S.2.2.2.2 (wsA_S wkX1_23 wsX1_isBelow winiX1 wX1_isBelow) rfl rfl rfl (by decide +kernel) ⟨by decide, by decide⟩) (ct_X1_isBelow l D ad cB)) (rx_any_0))
set_option maxHeartbeats 4000000 in
set_option maxRecDepth 100000 in
theorem ct_X1_hasRoom (l : Launch) (D : va_G) (ad : Nat → Nat) (cB : ClassId) : ctC l yX1_hasRoom cX1_hasRoom 5 (some .boolean) rX1_hasRoom D ad cB [.ref (ad 1)] fX1_hasRoom := by
  intro w as g w1 r hf hg
  unfold fX1_hasRoom at hf
  split at hf
  · next x y =>
    cases hf
    exact tr_of rx_nc 0 200 0 (by decide) rfl rfl (Nat.le_of_ble_eq_true rfl) pX1_hasRoom_ok (rt_z _) (eo_X1_hasRoom l D ad cB) (fun pc g h => by cases h) (by
      simp only [pX1_hasRoom, eX1_hasRoom, fX1_isBelow, rx_n, rx_s, rx_to, rx_get, rx_f1, rx_f2, rx_two, rx_ext, rx_any, rx_hV, rx_hS, rx_hG, rx_hP, rx_hAi, rx_hAb, rx_hL, rx_hLi, rx_got, rx_pop, rx_sum, rx_len, rx_c, rx_m1, lv_args, Value.category, rx_cut_n, rx_cut_1, rx_iconst, rx_bipush, rx_sipush, rx_lconst, rx_iload_n, rx_iload, rx_lload_n, rx_lload, rx_aload_n, rx_aload, rx_istore_n, rx_istore, rx_lstore_n, rx_lstore, rx_astore_n, rx_astore, rx_iinc, rx_iadd, rx_isub, rx_imul, rx_iand, rx_ixor, rx_ishr, rx_idiv, rx_irem, rx_ladd, rx_lsub, rx_land, rx_lor, rx_lxor, rx_lmul, rx_ldiv, rx_lrem, rx_lushr, rx_lshl, rx_lshr, rx_lneg, rx_i2l, rx_l2i, rx_i2b, rx_lcmp, rx_dup_i, rx_dup_a, rx_pop_i, rx_pop_a, rx_if_eq, rx_if_ne, rx_if_lt, rx_if_ge, rx_if_gt, rx_if_le, rx_icmp_eq, rx_icmp_ne, rx_icmp_lt, rx_icmp_ge, rx_icmp_gt, rx_icmp_le, rx_goto, rx_tsw, rx_ireturn, rx_lreturn, rx_return_, rx_getfield, rx_putfield, rx_invokevirtual, rx_invokespecial, rx_invokestatic, rx_ldc, rx_ldc2_w, rx_iaload, rx_iastore, rx_baload, rx_bastore, Nat.reduceBEq, Nat.reduceAdd, Nat.reduceSub, Nat.reduceMul, Nat.reduceLeDiff, Nat.reduceEqDiff, Nat.reduceLT, Int.reduceLT, Int.reduceLE, Int.reduceNeg, Int.reduceToNat, Int.reduceAdd, Fin.isValue, Fin.val_zero, Fin.val_one, Fin.reduceFinMk, Fin.val_ofNat, Bool.or_true, Bool.true_or, Bool.or_false, Bool.false_or, Bool.and_true, Bool.true_and, Bool.and_false, Bool.false_and, cond_true, cond_false, ↓reduceIte, eq_self, ne_eq, not_true_eq_false, not_false_eq_true, true_and, and_true, Option.toList_some, Option.toList_none, List.cons_append, List.nil_append, Option.some.injEq, Value.int.injEq, Value.long.injEq, rx_l0, rx_l1, rx_fv0, rx_fv1, rx_fv2, rx_fv3, nI_c1, nI_c2, nI_c4, nI_c8, nI_c9, nI_c24, nI_c64, Nat.le_refl, bI_z, bI_0, bI_1, Classical.not_not, lg_cmp_ge, lg_cmp_le, lg_cmp_gt, lg_cmp_lt, lg_cmp_eq]
      have h1 := uN_lt x
      have h2 := uN_lt y
      have h3 := bn_le w.1
      simp only [bn_l, uN_sub, uN_bn]
      refine ⟨fun h => ?_, fun h => ⟨fun h => ?_, fun h => ?_⟩⟩ <;> omega)
  · cases hf
