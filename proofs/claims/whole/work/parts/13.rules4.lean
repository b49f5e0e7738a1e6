/-- a symbol of the section at x, the i-th -/
def yG (b : bF) (x : Int32) (i : Nat) : Prop := (nm b (yS b x (nI i) + nI 4) 1 / 16 = 0 ↔ i < nm b (x + nI 44) 4) ∧ (nm b (yS b x (nI i) + nI 6) 2 < nu b 60 2 ∨ nm b (yS b x (nI i) + nI 6) 2 = 65521 ∨ nm b (yS b x (nI i) + nI 6) 2 = 65522) ∧ nm b (yS b x (nI i)) 4 < rl b (lS b x)
def sG (b : bF) (x : Int32) : Prop := (∀ i, i < rl b x / 24 → yG b x i) ∧ (rl b x / 24 = 0 ∨ ∀ i, i < 24 → nm b (yS b x (nI 0) + nI i) 1 = 0)
theorem rx_i01 : (nI 0 = nI 1) = False := eq_false (by decide)
theorem rx_i10 : (nI 1 = nI 0) = False := eq_false (by decide)
theorem lS_at {b : bF} (h : t6 b) {k : Nat} (hk : k < sC b) : lS b (nI (sA b k)) = nI (sA b (lK b k)) := by
  have hA := t6_sA h hk
  unfold lS
  rw [nm_at (by omega), t6_sS h]
  rfl
theorem yS_at {b : bF} (h : t6 b) {k : Nat} (hk : k < sC b) (i : Nat) : yS b (nI (sA b k)) (nI i) = nI (yA b k i) := by
  have hA := t6_sA h hk
  unfold yS yA
  rw [nm_at (by omega), pk_mul, nI_add]
  rfl
theorem sG_at {b : bF} (h : t12 b) {k : Nat} (hk : k < sC b) (h2 : kd b k = 2) : sG b (nI (sA b k)) ↔ ((∀ i, i < rL b k / 24 → yOK b k i) ∧ (rL b k / 24 = 0 ∨ ∀ i, i < 24 → bg b (rP b k + i) = 0)) := by
  have h6 := h.1.1
  have hA := t6_sA h6 hk
  have hR := t9_room h.1 hk
  have hB := bn_le b
  have hL := (t12_of h hk h2).2.2.1
  have e1 : ∀ i, i < rL b k / 24 → (yG b (nI (sA b k)) i ↔ yOK b k i) := by
    intro i hi
    have hY : yA b k i + 24 ≤ bn b := by
      unfold yA
      omega
    unfold yG yOK
    rw [yS_at h6 hk, lS_at h6 hk, rl_at h6 hL.1, t6_sC h6, nm_at (by omega), nm_at (by omega), nm_at (by omega), nm_a0 (by omega), bl_1]
  have e2 : rl b (nI (sA b k)) = rL b k := rl_at h6 hk
  have e3 : yA b k 0 = rP b k := by unfold yA; omega
  unfold sG
  rw [e2, yS_at h6 hk, e3]
  refine ⟨fun q => ⟨fun i hi => (e1 i hi).mp (q.1 i hi), ?_⟩, fun q => ⟨fun i hi => (e1 i hi).mpr (q.1 i hi), ?_⟩⟩
  · by_cases z : rL b k / 24 = 0
    · exact Or.inl z
    · exact Or.inr ((zer (by omega)).mp (q.2.resolve_left z))
  · by_cases z : rL b k / 24 = 0
    · exact Or.inl z
    · exact Or.inr ((zer (by omega)).mpr (q.2.resolve_left z))
def pX2_symbolsSectionIsGood : rx_P := [(0, .aload_n 0, 0), (1, .getfield 9, 0), (4, .iload_n 1, 0), (5, .bipush 56, 0), (7, .iadd, 0), (8, .bipush 8, 0), (10, .invokevirtual 76, 0), (13, .ldc2_w 193, 0), (16, .lcmp, 0), (17, .ifCond .ne 71, 88), (20, .aload_n 0, 0), (21, .getfield 15, 0), (24, .iload_n 1, 0), (25, .invokevirtual 165, 0), (28, .ldc2_w 193, 0), (31, .lrem, 0), (32, .lconst 0, 0), (33, .lcmp, 0), (34, .ifCond .ne 54, 88), (37, .aload_n 0, 0), (38, .getfield 15, 0), (41, .aload_n 0, 0), (42, .getfield 9, 0), (45, .iload_n 1, 0), (46, .bipush 40, 0), (48, .iadd, 0), (49, .iconst 4, 0), (50, .invokevirtual 76, 0), (53, .invokevirtual 175, 0), (56, .ifCond .eq 32, 88), (59, .aload_n 0, 0), (60, .getfield 9, 0), (63, .iload_n 1, 0), (64, .bipush 44, 0), (66, .iadd, 0), (67, .iconst 4, 0), (68, .invokevirtual 76, 0), (71, .aload_n 0, 0), (72, .getfield 15, 0), (75, .iload_n 1, 0), (76, .invokevirtual 195, 0), (79, .i2l, 0), (80, .lcmp, 0), (81, .ifCond .gt 7, 88), (84, .iconst 1, 0), (85, .goto 4, 89), (88, .iconst 0, 0), (89, .ireturn, 0)]
theorem pX2_symbolsSectionIsGood_ok : ∀ q ∈ pX2_symbolsSectionIsGood, rx_ok cX2_symbolsSectionIsGood q := rx_ok_all (by decide +kernel)
abbrev rX2_symbolsSectionIsGood : Room := { frames := 3, cells := 0, slots := 0, locals := 69 }
noncomputable def fX2_symbolsSectionIsGood : rx_F cS := fun w as => match as with
  | [.int x] => some (nm w.1 (x + nI 4) 4 = 2 ∧ rl w.1 x ≤ 640, w, some (.int (bI (nm w.1 (x + nI 56) 8 = 24 ∧ rl w.1 x % 24 = 0 ∧ iT w.1 (nm w.1 (x + nI 40) 4) ∧ nm w.1 (x + nI 44) 4 ≤ rl w.1 x / 24))))
  | _ => none
noncomputable def eX2_symbolsSectionIsGood (ad : Nat → Nat) : rx_E cS := rx_any [rx_hG 9 (ad 3) (fun w => .ref (ad 1)), rx_hV 76 2 (ad 1) fX1_number, rx_hL 193 (lN 24), rx_hG 15 (ad 3) (fun w => .ref (ad 2)), rx_hV 165 1 (ad 2) fX0_roomLength, rx_hV 175 1 (ad 2) fX0_isTexts, rx_hV 195 1 (ad 2) fX0_symbolCount]
set_option maxHeartbeats 4000000 in
set_option maxRecDepth 100000 in
theorem eo_X2_symbolsSectionIsGood (l : Launch) (D : va_G) (ad : Nat → Nat) (cB : ClassId) : ∀ (p : Program) (e : Env) (s : State) (m : MethodId) (args : Array Value) (below : List Frame) (meth : Method) (c : Code) (Qw : State → Prop), CallFix p m c cX2_symbolsSectionIsGood 2 s args (Cond.code yX2_symbolsSectionIsGood cX2_symbolsSectionIsGood 2 (some .boolean) :: wsA) RX2 → cK D cB s → rx_Eok (fun H locs g => W p l e rX2_symbolsSectionIsGood s m args below meth c H locs 0 0 Qw g) m cX2_symbolsSectionIsGood 2 (tr_I D vwCl (cA ad) s (cW ad cB)) (eX2_symbolsSectionIsGood ad) := by
  intro p e s m args below meth c Qw S hK
  have ht : ∀ w ∈ wsA, w.before args s = true := fun w h => S.2.2.2.2 w (wsA_in h)
  exact rx_any_c (rx_hG_ok (fun w H locs pc ls rest hI hd k => va_get (D := D) (ci := 2) (C := RX2) (T := TX2) (N := 3) S.1 S.2.1 ht inX2 S.2.2.2.1 hK.1 hI.1 3 rfl rfl 0 (by decide) (ht _ wfX2_9) (fun _ h9 => h9) rfl hd k)) (rx_any_c (rx_hV_ok S ⟨Nat.zero_le _, Nat.zero_le _⟩ cK_tr hK (cwV 2 S.2.2.2.2 (wsA_V wkX2_76 wiX1_number weX1_number winiX1 wX1_number) rfl rfl rfl (by decide +kernel) ⟨by decide, by decide⟩) (ct_X1_number l D ad cB) (fun w H hP => va_recv hK.1 hP (rfl : vwCl[1]? = some (RX1, TX1, 2)) (rfl : (cW ad cB w)[1]? = some _))) (rx_any_c (rx_hL_ok S (ht _ wcX2_193)) (rx_any_c (rx_hG_ok (fun w H locs pc ls rest hI hd k => va_get (D := D) (ci := 2) (C := RX2) (T := TX2) (N := 3) S.1 S.2.1 ht inX2 S.2.2.2.1 hK.1 hI.1 3 rfl rfl 1 (by decide) (ht _ wfX2_15) (fun _ h9 => h9) rfl hd k)) (rx_any_c (rx_hV_ok S ⟨Nat.zero_le _, Nat.zero_le _⟩ cK_tr hK (cwV 1 S.2.2.2.2 (wsA_V wkX2_165 wiX0_roomLength weX0_roomLength winiX0 wX0_roomLength) rfl rfl rfl (by decide +kernel) ⟨by decide, by decide⟩) (ct_X0_roomLength l D ad cB) (fun w H hP => va_recv hK.1 hP (rfl : vwCl[0]? = some (RX0, TX0, 1)) (rfl : (cW ad cB w)[2]? = some _))) (rx_any_c (rx_hV_ok S ⟨Nat.zero_le _, Nat.zero_le _⟩ cK_tr hK (cwV 1 S.2.2.2.2 (wsA_V wkX2_175 wiX0_isTexts weX0_isTexts winiX0 wX0_isTexts) rfl rfl rfl (by decide +kernel) ⟨by decide, by decide⟩) (ct_X0_isTexts l D ad cB) (fun w H hP => va_recv hK.1 hP (rfl : vwCl[0]? = some (RX0, TX0, 1)) (rfl : (cW ad cB w)[2]? = some _))) (rx_any_c (rx_hV_ok S ⟨Nat.zero_le _, Nat.zero_le _⟩ cK_tr hK (cwV 1 S.2.2.2.2 (wsA_V wkX2_195 wiX0_symbolCount weX0_symbolCount winiX0 wX0_symbolCount) rfl rfl rfl (by decide +kernel) ⟨by decide, by decide⟩) (ct_X0_symbolCount l D ad cB) (fun w H hP => va_recv hK.1 hP (rfl : vwCl[0]? = some (RX0, TX0, 1)) (rfl : (cW ad cB w)[2]? = some _))) (rx_any_0)))))))
set_option maxHeartbeats 4000000 in
set_option maxRecDepth 100000 in
theorem ct_X2_symbolsSectionIsGood (l : Launch) (D : va_G) (ad : Nat → Nat) (cB : ClassId) : ctC l yX2_symbolsSectionIsGood cX2_symbolsSectionIsGood 2 (some .boolean) rX2_symbolsSectionIsGood D ad cB [.ref (ad 3)] fX2_symbolsSectionIsGood := by
  intro w as g w1 r hf hg
  unfold fX2_symbolsSectionIsGood at hf
  split at hf
  · next x =>
    cases hf
    exact tr_of rx_nc 0 200 0 (by decide) rfl rfl (Nat.le_of_ble_eq_true rfl) pX2_symbolsSectionIsGood_ok (rt_z _) (eo_X2_symbolsSectionIsGood l D ad cB) (fun pc g h => by cases h) (by
      simp only [pX2_symbolsSectionIsGood, eX2_symbolsSectionIsGood, fX0_isTexts, fX0_roomLength, fX0_symbolCount, fX1_number, rx_n, rx_s, rx_to, rx_get, rx_f1, rx_f2, rx_two, rx_ext, rx_any, rx_hV, rx_hS, rx_hG, rx_hP, rx_hAi, rx_hAb, rx_hL, rx_hLi, rx_got, rx_pop, rx_sum, rx_len, rx_c, rx_m1, lv_args, Value.category, rx_cut_n, rx_cut_1, rx_iconst, rx_bipush, rx_sipush, rx_lconst, rx_iload_n, rx_iload, rx_lload_n, rx_lload, rx_aload_n, rx_aload, rx_istore_n, rx_istore, rx_lstore_n, rx_lstore, rx_astore_n, rx_astore, rx_iinc, rx_iadd, rx_isub, rx_imul, rx_iand, rx_ixor, rx_ishr, rx_idiv, rx_irem, rx_ladd, rx_lsub, rx_land, rx_lor, rx_lxor, rx_lmul, rx_ldiv, rx_lrem, rx_lushr, rx_lshl, rx_lshr, rx_lneg, rx_i2l, rx_l2i, rx_i2b, rx_lcmp, rx_dup_i, rx_dup_a, rx_pop_i, rx_pop_a, rx_if_eq, rx_if_ne, rx_if_lt, rx_if_ge, rx_if_gt, rx_if_le, rx_icmp_eq, rx_icmp_ne, rx_icmp_lt, rx_icmp_ge, rx_icmp_gt, rx_icmp_le, rx_goto, rx_tsw, rx_ireturn, rx_lreturn, rx_return_, rx_getfield, rx_putfield, rx_invokevirtual, rx_invokespecial, rx_invokestatic, rx_ldc, rx_ldc2_w, rx_iaload, rx_iastore, rx_baload, rx_bastore, Nat.reduceBEq, Nat.reduceAdd, Nat.reduceSub, Nat.reduceMul, Nat.reduceLeDiff, Nat.reduceEqDiff, Nat.reduceLT, Int.reduceLT, Int.reduceLE, Int.reduceNeg, Int.reduceToNat, Int.reduceAdd, Fin.isValue, Fin.val_zero, Fin.val_one, Fin.reduceFinMk, Fin.val_ofNat, Bool.or_true, Bool.true_or, Bool.or_false, Bool.false_or, Bool.and_true, Bool.true_and, Bool.and_false, Bool.false_and, cond_true, cond_false, ↓reduceIte, eq_self, ne_eq, not_true_eq_false, not_false_eq_true, true_and, and_true, Option.toList_some, Option.toList_none, List.cons_append, List.nil_append, Option.some.injEq, Value.int.injEq, Value.long.injEq, rx_l0, rx_l1, rx_fv0, rx_fv1, rx_fv2, rx_fv3, nI_c1, nI_c2, nI_c4, nI_c8, nI_c9, nI_c24, nI_c64, Nat.le_refl, bI_z, bI_0, bI_1, Classical.not_not, lg_cmp_ge, lg_cmp_le, lg_cmp_gt, lg_cmp_lt, lg_cmp_eq]
      obtain ⟨h2, h3⟩ := hg
      have h4 := nm_8 w.1 (x + nI 56)
      have h5 := nm_4 w.1 (x + nI 40)
      have h6 := nm_4 w.1 (x + nI 44)
      have e1 : yC w.1 x = nI (rl w.1 x / 24) := by
        unfold yC
        rw [if_pos h2, pk_lDiv (by omega) (by decide) (by decide), lN_i]
      have e2 : lN (nm w.1 (x + nI 56) 8) = lN 24 ↔ nm w.1 (x + nI 56) 8 = 24 := by
        refine ⟨fun q => ?_, fun q => by rw [q]⟩
        have := congrArg uN q
        rwa [uN_lN h4, uN_lN (by decide)] at this
      simp (disch := omega) only [e1, e2, pk_lRem, pk_lEQ, uN_lN, nI_l, pk_lLE, pk_lLT]
      refine ⟨fun a q => a q.1, fun a => ⟨by decide, fun b q => b q.2.1, fun b => ⟨fun c q => c q.2.2.1, fun c => ?_⟩⟩⟩
      constructor <;> intro d <;> first | exact ⟨a, b, c, by omega⟩ | exact fun q => by omega)
  · cases hf
def pX2_badSymbolsSection : rx_P := [(0, .aload_n 0, 0), (1, .getfield 15, 0), (4, .invokevirtual 107, 0), (7, .istore_n 1, 0), (8, .iconst 0, 0), (9, .istore_n 2, 0), (10, .iload_n 2, 0), (11, .iload_n 1, 0), (12, .if_icmp .ge 43, 55), (15, .aload_n 0, 0), (16, .getfield 15, 0), (19, .iload_n 2, 0), (20, .invokevirtual 150, 0), (23, .istore_n 3, 0), (24, .aload_n 0, 0), (25, .getfield 15, 0), (28, .iload_n 3, 0), (29, .invokevirtual 156, 0), (32, .ldc2_w 88, 0), (35, .lcmp, 0), (36, .ifCond .ne 13, 49), (39, .aload_n 0, 0), (40, .iload_n 3, 0), (41, .invokevirtual 190, 0), (44, .ifCond .ne 5, 49), (47, .iload_n 2, 0), (48, .ireturn, 0), (49, .iinc 2 1, 0), (52, .goto (-42), 10), (55, .iconst (-1), 0), (56, .ireturn, 0)]
theorem pX2_badSymbolsSection_ok : ∀ q ∈ pX2_badSymbolsSection, rx_ok cX2_badSymbolsSection q := rx_ok_all (by decide +kernel)
abbrev rX2_badSymbolsSection : Room := { frames := 4, cells := 0, slots := 0, locals := 90 }
noncomputable def fX2_badSymbolsSection : rx_F cS := fun w as => match as with
  | [] => some (t9 w.1, w, some (.int (oI (q12 w.1) (sC w.1))))
  | _ => none
noncomputable def eX2_badSymbolsSection (ad : Nat → Nat) : rx_E cS := rx_any [rx_hG 15 (ad 3) (fun w => .ref (ad 2)), rx_hV 107 0 (ad 2) fX0_sectionCount, rx_hV 150 1 (ad 2) fX0_sectionStart, rx_hV 156 1 (ad 2) fX0_sectionKind, rx_hL 88 (lN 2), rx_hV 190 1 (ad 3) fX2_symbolsSectionIsGood]
set_option maxHeartbeats 4000000 in
set_option maxRecDepth 100000 in
theorem eo_X2_badSymbolsSection (l : Launch) (D : va_G) (ad : Nat → Nat) (cB : ClassId) : ∀ (p : Program) (e : Env) (s : State) (m : MethodId) (args : Array Value) (below : List Frame) (meth : Method) (c : Code) (Qw : State → Prop), CallFix p m c cX2_badSymbolsSection 4 s args (Cond.code yX2_badSymbolsSection cX2_badSymbolsSection 4 (some .int) :: wsA) RX2 → cK D cB s → rx_Eok (fun H locs g => W p l e rX2_badSymbolsSection s m args below meth c H locs 0 0 Qw g) m cX2_badSymbolsSection 4 (tr_I D vwCl (cA ad) s (cW ad cB)) (eX2_badSymbolsSection ad) := by
  intro p e s m args below meth c Qw S hK
  have ht : ∀ w ∈ wsA, w.before args s = true := fun w h => S.2.2.2.2 w (wsA_in h)
  exact rx_any_c (rx_hG_ok (fun w H locs pc ls rest hI hd k => va_get (D := D) (ci := 2) (C := RX2) (T := TX2) (N := 3) S.1 S.2.1 ht inX2 S.2.2.2.1 hK.1 hI.1 3 rfl rfl 1 (by decide) (ht _ wfX2_15) (fun _ h9 => h9) rfl hd k)) (rx_any_c (rx_hV_ok S ⟨Nat.zero_le _, Nat.zero_le _⟩ cK_tr hK (cwV 0 S.2.2.2.2 (wsA_V wkX2_107 wiX0_sectionCount weX0_sectionCount winiX0 wX0_sectionCount) rfl rfl rfl (by decide +kernel) ⟨by decide, by decide⟩) (ct_X0_sectionCount l D ad cB) (fun w H hP => va_recv hK.1 hP (rfl : vwCl[0]? = some (RX0, TX0, 1)) (rfl : (cW ad cB w)[2]? = some _))) (rx_any_c (rx_hV_ok S ⟨Nat.zero_le _, Nat.zero_le _⟩ cK_tr hK (cwV 1 S.2.2.2.2 (wsA_V wkX2_150 wiX0_sectionStart weX0_sectionStart winiX0 wX0_sectionStart) rfl rfl rfl (by decide +kernel) ⟨by decide, by decide⟩) (ct_X0_sectionStart l D ad cB) (fun w H hP => va_recv hK.1 hP (rfl : vwCl[0]? = some (RX0, TX0, 1)) (rfl : (cW ad cB w)[2]? = some _))) (rx_any_c (rx_hV_ok S ⟨Nat.zero_le _, Nat.zero_le _⟩ cK_tr hK (cwV 1 S.2.2.2.2 (wsA_V wkX2_156 wiX0_sectionKind weX0_sectionKind winiX0 wX0_sectionKind) rfl rfl rfl (by decide +kernel) ⟨by decide, by decide⟩) (ct_X0_sectionKind l D ad cB) (fun w H hP => va_recv hK.1 hP (rfl : vwCl[0]? = some (RX0, TX0, 1)) (rfl : (cW ad cB w)[2]? = some _))) (rx_any_c (rx_hL_ok S (ht _ wcX2_88)) (rx_any_c (rx_hV_ok S ⟨Nat.zero_le _, Nat.zero_le _⟩ cK_tr hK (cwV 1 S.2.2.2.2 (wsA_V wkX2_190 wiX2_symbolsSectionIsGood weX2_symbolsSectionIsGood winiX2 wX2_symbolsSectionIsGood) rfl rfl rfl (by decide +kernel) ⟨by decide, by decide⟩) (ct_X2_symbolsSectionIsGood l D ad cB) (fun w H hP => va_recv hK.1 hP (rfl : vwCl[2]? = some (RX2, TX2, 3)) (rfl : (cW ad cB w)[3]? = some _))) (rx_any_0))))))
set_option maxHeartbeats 4000000 in
set_option maxRecDepth 100000 in
theorem ct_X2_badSymbolsSection (l : Launch) (D : va_G) (ad : Nat → Nat) (cB : ClassId) : ctC l yX2_badSymbolsSection cX2_badSymbolsSection 4 (some .int) rX2_badSymbolsSection D ad cB [.ref (ad 3)] fX2_badSymbolsSection := by
  intro w as g w1 r hf hg
  unfold fX2_badSymbolsSection at hf
  split at hf
  · cases hf
    refine tr_of (rx_1c 10 (fun u w0 lv => w0 = w ∧ ∃ k, k ≤ sC w.1 ∧ u = sC w.1 - k ∧ (∀ i, i < k → ¬ q12 w.1 i) ∧ lv = [(0, .ref (ad 3)), (1, .int (nI (sC w.1))), (2, .int (nI k))])) 200 200 10000 (by decide) rfl rfl (Nat.le_of_ble_eq_true rfl) pX2_badSymbolsSection_ok (rt_i _) (eo_X2_badSymbolsSection l D ad cB) ?_ ?_
    · intro pc g0 hpc u w0 lv hinv
      have hh := rx_1c_of hpc
      clear hpc
      obtain ⟨rfl, rfl⟩ := hh
      obtain ⟨rfl, k, hk, rfl, hz, rfl⟩ := hinv
      have hc := sC_lt w0.1
      simp only [pX2_badSymbolsSection, eX2_badSymbolsSection, fX0_sectionCount, fX0_sectionKind, fX0_sectionStart, fX2_symbolsSectionIsGood, rx_n, rx_s, rx_to, rx_get, rx_f1, rx_f2, rx_two, rx_ext, rx_any, rx_hV, rx_hS, rx_hG, rx_hP, rx_hAi, rx_hAb, rx_hL, rx_hLi, rx_got, rx_pop, rx_sum, rx_len, rx_c, rx_m1, lv_args, Value.category, rx_cut_n, rx_cut_1, rx_iconst, rx_bipush, rx_sipush, rx_lconst, rx_iload_n, rx_iload, rx_lload_n, rx_lload, rx_aload_n, rx_aload, rx_istore_n, rx_istore, rx_lstore_n, rx_lstore, rx_astore_n, rx_astore, rx_iinc, rx_iadd, rx_isub, rx_imul, rx_iand, rx_ixor, rx_ishr, rx_idiv, rx_irem, rx_ladd, rx_lsub, rx_land, rx_lor, rx_lxor, rx_lmul, rx_ldiv, rx_lrem, rx_lushr, rx_lshl, rx_lshr, rx_lneg, rx_i2l, rx_l2i, rx_i2b, rx_lcmp, rx_dup_i, rx_dup_a, rx_pop_i, rx_pop_a, rx_if_eq, rx_if_ne, rx_if_lt, rx_if_ge, rx_if_gt, rx_if_le, rx_icmp_eq, rx_icmp_ne, rx_icmp_lt, rx_icmp_ge, rx_icmp_gt, rx_icmp_le, rx_goto, rx_tsw, rx_ireturn, rx_lreturn, rx_return_, rx_getfield, rx_putfield, rx_invokevirtual, rx_invokespecial, rx_invokestatic, rx_ldc, rx_ldc2_w, rx_iaload, rx_iastore, rx_baload, rx_bastore, Nat.reduceBEq, Nat.reduceAdd, Nat.reduceSub, Nat.reduceMul, Nat.reduceLeDiff, Nat.reduceEqDiff, Nat.reduceLT, Int.reduceLT, Int.reduceLE, Int.reduceNeg, Int.reduceToNat, Int.reduceAdd, Fin.isValue, Fin.val_zero, Fin.val_one, Fin.reduceFinMk, Fin.val_ofNat, Bool.or_true, Bool.true_or, Bool.or_false, Bool.false_or, Bool.and_true, Bool.true_and, Bool.and_false, Bool.false_and, cond_true, cond_false, ↓reduceIte, eq_self, ne_eq, not_true_eq_false, not_false_eq_true, true_and, and_true, Option.toList_some, Option.toList_none, List.cons_append, List.nil_append, Option.some.injEq, Value.int.injEq, Value.long.injEq, rx_l0, rx_l1, rx_fv0, rx_fv1, rx_fv2, rx_fv3, nI_c1, nI_c2, nI_c4, nI_c8, nI_c9, nI_c24, nI_c64, Nat.le_refl, bI_z, bI_0, bI_1, Classical.not_not, lg_cmp_ge, lg_cmp_le, lg_cmp_gt, lg_cmp_lt, lg_cmp_eq]
      rw [nI_leI (by omega) (by omega)]
      refine ⟨fun h => (oI_none fun i hi => hz i (by omega)).symm, fun h => ?_⟩
      have hk2 : k < sC w0.1 := by omega
      have next : nI k + nI 1 = nI (k + 1) := nI_add k 1
      
      have hA := t6_sA hg.1 hk2
      have hR := t9_room hg hk2
      have hB := bn_le w0.1
      have h2 : kd w0.1 k < 4294967296 := bl_lt w0.1 (sA w0.1 k + 4) 4
      have hT : iT w0.1 (lK w0.1 k) ↔ tX w0.1 (lK w0.1 k) := iT_tX hg.1 _
      simp (disch := omega) only [t6_sS hg.1, nm_at, rl_at hg.1 hk2]
      rw [show bl w0.1 (sA w0.1 k + 4) 4 = kd w0.1 k from rfl, show bl w0.1 (sA w0.1 k + 40) 4 = lK w0.1 k from rfl, hT, pk_lEQ (by omega) (by omega)]
      refine ⟨fun h3 => ?_, fun h3 => ⟨⟨h3, by omega⟩, fun h4 => ?_, fun h4 => (oI_some hz ⟨h3, h4⟩ hk2).symm⟩⟩
      · refine ⟨sC w0.1 - (k + 1), _, by omega, ⟨k + 1, by omega, rfl, lt_s hz (fun q => h3 q.1), rfl⟩, ?_⟩
        simp only [List.mem_cons, List.not_mem_nil, or_false, forall_eq_or_imp, forall_eq, Nat.reduceBEq, cond_true, cond_false, Option.some.injEq, Value.int.injEq, Value.long.injEq, Value.ref.injEq, true_and, and_true]
        exact next
      · refine ⟨sC w0.1 - (k + 1), _, by omega, ⟨k + 1, by omega, rfl, lt_s hz (fun q => q.2 h4), rfl⟩, ?_⟩
        simp only [List.mem_cons, List.not_mem_nil, or_false, forall_eq_or_imp, forall_eq, Nat.reduceBEq, cond_true, cond_false, Option.some.injEq, Value.int.injEq, Value.long.injEq, Value.ref.injEq, true_and, and_true]
        exact next
    · simp only [pX2_badSymbolsSection, eX2_badSymbolsSection, fX0_sectionCount, fX0_sectionKind, fX0_sectionStart, fX2_symbolsSectionIsGood, rx_n, rx_s, rx_to, rx_get, rx_f1, rx_f2, rx_two, rx_ext, rx_any, rx_hV, rx_hS, rx_hG, rx_hP, rx_hAi, rx_hAb, rx_hL, rx_hLi, rx_got, rx_pop, rx_sum, rx_len, rx_c, rx_m1, lv_args, Value.category, rx_cut_n, rx_cut_1, rx_iconst, rx_bipush, rx_sipush, rx_lconst, rx_iload_n, rx_iload, rx_lload_n, rx_lload, rx_aload_n, rx_aload, rx_istore_n, rx_istore, rx_lstore_n, rx_lstore, rx_astore_n, rx_astore, rx_iinc, rx_iadd, rx_isub, rx_imul, rx_iand, rx_ixor, rx_ishr, rx_idiv, rx_irem, rx_ladd, rx_lsub, rx_land, rx_lor, rx_lxor, rx_lmul, rx_ldiv, rx_lrem, rx_lushr, rx_lshl, rx_lshr, rx_lneg, rx_i2l, rx_l2i, rx_i2b, rx_lcmp, rx_dup_i, rx_dup_a, rx_pop_i, rx_pop_a, rx_if_eq, rx_if_ne, rx_if_lt, rx_if_ge, rx_if_gt, rx_if_le, rx_icmp_eq, rx_icmp_ne, rx_icmp_lt, rx_icmp_ge, rx_icmp_gt, rx_icmp_le, rx_goto, rx_tsw, rx_ireturn, rx_lreturn, rx_return_, rx_getfield, rx_putfield, rx_invokevirtual, rx_invokespecial, rx_invokestatic, rx_ldc, rx_ldc2_w, rx_iaload, rx_iastore, rx_baload, rx_bastore, Nat.reduceBEq, Nat.reduceAdd, Nat.reduceSub, Nat.reduceMul, Nat.reduceLeDiff, Nat.reduceEqDiff, Nat.reduceLT, Int.reduceLT, Int.reduceLE, Int.reduceNeg, Int.reduceToNat, Int.reduceAdd, Fin.isValue, Fin.val_zero, Fin.val_one, Fin.reduceFinMk, Fin.val_ofNat, Bool.or_true, Bool.true_or, Bool.or_false, Bool.false_or, Bool.and_true, Bool.true_and, Bool.and_false, Bool.false_and, cond_true, cond_false, ↓reduceIte, eq_self, ne_eq, not_true_eq_false, not_false_eq_true, true_and, and_true, Option.toList_some, Option.toList_none, List.cons_append, List.nil_append, Option.some.injEq, Value.int.injEq, Value.long.injEq, rx_l0, rx_l1, rx_fv0, rx_fv1, rx_fv2, rx_fv3, nI_c1, nI_c2, nI_c4, nI_c8, nI_c9, nI_c24, nI_c64, Nat.le_refl, bI_z, bI_0, bI_1, Classical.not_not, lg_cmp_ge, lg_cmp_le, lg_cmp_gt, lg_cmp_lt, lg_cmp_eq]
      have h1 := t6_s10 hg.1
      simp only [t6_sC hg.1]
      refine ⟨sC w.1, _, by omega, ⟨0, by omega, rfl, lt_0, rfl⟩, ?_⟩
      simp only [List.mem_cons, List.not_mem_nil, or_false, forall_eq_or_imp, forall_eq, Nat.reduceBEq, cond_true, cond_false, Option.some.injEq, Value.int.injEq, Value.long.injEq, Value.ref.injEq, true_and, and_true]
  · cases hf
def pX2_symbolsAreGood : rx_P := [(0, .aload_n 0, 0), (1, .getfield 15, 0), (4, .iload_n 1, 0), (5, .invokevirtual 195, 0), (8, .istore_n 2, 0), (9, .aload_n 0, 0), (10, .getfield 15, 0), (13, .aload_n 0, 0), (14, .getfield 15, 0), (17, .iload_n 1, 0), (18, .invokevirtual 201, 0), (21, .invokevirtual 165, 0), (24, .lstore_n 3, 0), (25, .aload_n 0, 0), (26, .getfield 9, 0), (29, .iload_n 1, 0), (30, .bipush 44, 0), (32, .iadd, 0), (33, .iconst 4, 0), (34, .invokevirtual 76, 0), (37, .lstore 5, 0), (39, .iconst 0, 0), (40, .istore 7, 0), (42, .iload 7, 0), (44, .iload_n 2, 0), (45, .if_icmp .ge 73, 118), (48, .aload_n 0, 0), (49, .getfield 15, 0), (52, .iload_n 1, 0), (53, .iload 7, 0), (55, .invokevirtual 204, 0), (58, .istore 8, 0), (60, .aload_n 0, 0), (61, .getfield 15, 0), (64, .iload 8, 0), (66, .invokevirtual 208, 0), (69, .lconst 0, 0), (70, .lcmp, 0), (71, .ifCond .ne 7, 78), (74, .iconst 1, 0), (75, .goto 4, 79), (78, .iconst 0, 0), (79, .istore 9, 0), (81, .iload 9, 0), (83, .iload 7, 0), (85, .i2l, 0), (86, .lload 5, 0), (88, .lcmp, 0), (89, .ifCond .ge 7, 96), (92, .iconst 1, 0), (93, .goto 4, 97), (96, .iconst 0, 0), (97, .if_icmp .ne 13, 110), (100, .aload_n 0, 0), (101, .iload 8, 0), (103, .lload_n 3, 0), (104, .invokevirtual 211, 0), (107, .ifCond .ne 5, 112), (110, .iconst 0, 0), (111, .ireturn, 0), (112, .iinc 7 1, 0), (115, .goto (-73), 42), (118, .iload_n 2, 0), (119, .ifCond .eq 24, 143), (122, .aload_n 0, 0), (123, .getfield 9, 0), (126, .aload_n 0, 0), (127, .getfield 15, 0), (130, .iload_n 1, 0), (131, .iconst 0, 0), (132, .invokevirtual 204, 0), (135, .bipush 24, 0), (137, .invokevirtual 90, 0), (140, .ifCond .eq 7, 147), (143, .iconst 1, 0), (144, .goto 4, 148), (147, .iconst 0, 0), (148, .ireturn, 0)]
theorem pX2_symbolsAreGood_ok : ∀ q ∈ pX2_symbolsAreGood, rx_ok cX2_symbolsAreGood q := rx_ok_all (by decide +kernel)
abbrev rX2_symbolsAreGood : Room := { frames := 3, cells := 0, slots := 0, locals := 71 }
noncomputable def fX2_symbolsAreGood : rx_F cS := fun w as => match as with
  | [.int x] => some (nm w.1 (x + nI 4) 4 = 2 ∧ rl w.1 x ≤ 640 ∧ rl w.1 (lS w.1 x) ≤ 640, w, some (.int (bI (sG w.1 x))))
  | _ => none
noncomputable def eX2_symbolsAreGood (ad : Nat → Nat) : rx_E cS := rx_any [rx_hG 15 (ad 3) (fun w => .ref (ad 2)), rx_hV 195 1 (ad 2) fX0_symbolCount, rx_hV 201 1 (ad 2) fX0_linkStart, rx_hV 165 1 (ad 2) fX0_roomLength, rx_hG 9 (ad 3) (fun w => .ref (ad 1)), rx_hV 76 2 (ad 1) fX1_number, rx_hV 204 2 (ad 2) fX0_symbolStart, rx_hV 208 1 (ad 2) fX0_binding, rx_hV 211 2 (ad 3) fX2_symbolIsGood, rx_hV 90 2 (ad 1) fX1_isZeros]
set_option maxHeartbeats 4000000 in
set_option maxRecDepth 100000 in
theorem eo_X2_symbolsAreGood (l : Launch) (D : va_G) (ad : Nat → Nat) (cB : ClassId) : ∀ (p : Program) (e : Env) (s : State) (m : MethodId) (args : Array Value) (below : List Frame) (meth : Method) (c : Code) (Qw : State → Prop), CallFix p m c cX2_symbolsAreGood 10 s args (Cond.code yX2_symbolsAreGood cX2_symbolsAreGood 10 (some .boolean) :: wsA) RX2 → cK D cB s → rx_Eok (fun H locs g => W p l e rX2_symbolsAreGood s m args below meth c H locs 0 0 Qw g) m cX2_symbolsAreGood 10 (tr_I D vwCl (cA ad) s (cW ad cB)) (eX2_symbolsAreGood ad) := by
  intro p e s m args below meth c Qw S hK
  have ht : ∀ w ∈ wsA, w.before args s = true := fun w h => S.2.2.2.2 w (wsA_in h)
  exact rx_any_c (rx_hG_ok (fun w H locs pc ls rest hI hd k => va_get (D := D) (ci := 2) (C := RX2) (T := TX2) (N := 3) S.1 S.2.1 ht inX2 S.2.2.2.1 hK.1 hI.1 3 rfl rfl 1 (by decide) (ht _ wfX2_15) (fun _ h9 => h9) rfl hd k)) (rx_any_c (rx_hV_ok S ⟨Nat.zero_le _, Nat.zero_le _⟩ cK_tr hK (cwV 1 S.2.2.2.2 (wsA_V wkX2_195 wiX0_symbolCount weX0_symbolCount winiX0 wX0_symbolCount) rfl rfl rfl (by decide +kernel) ⟨by decide, by decide⟩) (ct_X0_symbolCount l D ad cB) (fun w H hP => va_recv hK.1 hP (rfl : vwCl[0]? = some (RX0, TX0, 1)) (rfl : (cW ad cB w)[2]? = some _))) (rx_any_c (rx_hV_ok S ⟨Nat.zero_le _, Nat.zero_le _⟩ cK_tr hK (cwV 1 S.2.2.2.2 (wsA_V wkX2_201 wiX0_linkStart weX0_linkStart winiX0 wX0_linkStart) rfl rfl rfl (by decide +kernel) ⟨by decide, by decide⟩) (ct_X0_linkStart l D ad cB) (fun w H hP => va_recv hK.1 hP (rfl : vwCl[0]? = some (RX0, TX0, 1)) (rfl : (cW ad cB w)[2]? = some _))) (rx_any_c (rx_hV_ok S ⟨Nat.zero_le _, Nat.zero_le _⟩ cK_tr hK (cwV 1 S.2.2.2.2 (wsA_V wkX2_165 wiX0_roomLength weX0_roomLength winiX0 wX0_roomLength) rfl rfl rfl (by decide +kernel) ⟨by decide, by decide⟩) (ct_X0_roomLength l D ad cB) (fun w H hP => va_recv hK.1 hP (rfl : vwCl[0]? = some (RX0, TX0, 1)) (rfl : (cW ad cB w)[2]? = some _))) (rx_any_c (rx_hG_ok (fun w H locs pc ls rest hI hd k => va_get (D := D) (ci := 2) (C := RX2) (T := TX2) (N := 3) S.1 S.2.1 ht inX2 S.2.2.2.1 hK.1 hI.1 3 rfl rfl 0 (by decide) (ht _ wfX2_9) (fun _ h9 => h9) rfl hd k)) (rx_any_c (rx_hV_ok S ⟨Nat.zero_le _, Nat.zero_le _⟩ cK_tr hK (cwV 2 S.2.2.2.2 (wsA_V wkX2_76 wiX1_number weX1_number winiX1 wX1_number) rfl rfl rfl (by decide +kernel) ⟨by decide, by decide⟩) (ct_X1_number l D ad cB) (fun w H hP => va_recv hK.1 hP (rfl : vwCl[1]? = some (RX1, TX1, 2)) (rfl : (cW ad cB w)[1]? = some _))) (rx_any_c (rx_hV_ok S ⟨Nat.zero_le _, Nat.zero_le _⟩ cK_tr hK (cwV 2 S.2.2.2.2 (wsA_V wkX2_204 wiX0_symbolStart weX0_symbolStart winiX0 wX0_symbolStart) rfl rfl rfl (by decide +kernel) ⟨by decide, by decide⟩) (ct_X0_symbolStart l D ad cB) (fun w H hP => va_recv hK.1 hP (rfl : vwCl[0]? = some (RX0, TX0, 1)) (rfl : (cW ad cB w)[2]? = some _))) (rx_any_c (rx_hV_ok S ⟨Nat.zero_le _, Nat.zero_le _⟩ cK_tr hK (cwV 1 S.2.2.2.2 (wsA_V wkX2_208 wiX0_binding weX0_binding winiX0 wX0_binding) rfl rfl rfl (by decide +kernel) ⟨by decide, by decide⟩) (ct_X0_binding l D ad cB) (fun w H hP => va_recv hK.1 hP (rfl : vwCl[0]? = some (RX0, TX0, 1)) (rfl : (cW ad cB w)[2]? = some _))) (rx_any_c (rx_hV_ok S ⟨Nat.zero_le _, Nat.zero_le _⟩ cK_tr hK (cwV 2 S.2.2.2.2 (wsA_V wkX2_211 wiX2_symbolIsGood weX2_symbolIsGood winiX2 wX2_symbolIsGood) rfl rfl rfl (by decide +kernel) ⟨by decide, by decide⟩) (ct_X2_symbolIsGood l D ad cB) (fun w H hP => va_recv hK.1 hP (rfl : vwCl[2]? = some (RX2, TX2, 3)) (rfl : (cW ad cB w)[3]? = some _))) (rx_any_c (rx_hV_ok S ⟨Nat.zero_le _, Nat.zero_le _⟩ cK_tr hK (cwV 2 S.2.2.2.2 (wsA_V wkX2_90 wiX1_isZeros weX1_isZeros winiX1 wX1_isZeros) rfl rfl rfl (by decide +kernel) ⟨by decide, by decide⟩) (ct_X1_isZeros l D ad cB) (fun w H hP => va_recv hK.1 hP (rfl : vwCl[1]? = some (RX1, TX1, 2)) (rfl : (cW ad cB w)[1]? = some _))) (rx_any_0))))))))))
set_option maxHeartbeats 4000000 in
set_option maxRecDepth 100000 in
theorem ct_X2_symbolsAreGood (l : Launch) (D : va_G) (ad : Nat → Nat) (cB : ClassId) : ctC l yX2_symbolsAreGood cX2_symbolsAreGood 10 (some .boolean) rX2_symbolsAreGood D ad cB [.ref (ad 3)] fX2_symbolsAreGood := by
  intro w as g w1 r hf hg
  unfold fX2_symbolsAreGood at hf
  split at hf
  · next x =>
    cases hf
    obtain ⟨h2, h3, h4⟩ := hg
    have e1 : yC w.1 x = nI (rl w.1 x / 24) := by
      unfold yC
      rw [if_pos h2, pk_lDiv (by omega) (by decide) (by decide), lN_i]
    refine tr_of (rx_1c 42 (fun u w0 lv => w0 = w ∧ ∃ j, j ≤ rl w.1 x / 24 ∧ u = rl w.1 x / 24 - j ∧ (∀ i, i < j → yG w.1 x i) ∧ lv = [(0, .ref (ad 3)), (1, .int x), (2, .int (nI (rl w.1 x / 24))), (3, .long (lN (rl w.1 (lS w.1 x)))), (5, .long (lN (nm w.1 (x + nI 44) 4))), (7, .int (nI j))])) 200 200 10000 (by decide) rfl rfl (Nat.le_of_ble_eq_true rfl) pX2_symbolsAreGood_ok (rt_z _) (eo_X2_symbolsAreGood l D ad cB) ?_ ?_
    · intro pc g0 hpc u w0 lv hinv
      have hh := rx_1c_of hpc
      clear hpc
      obtain ⟨rfl, rfl⟩ := hh
      obtain ⟨rfl, j, hj, rfl, hz, rfl⟩ := hinv
      simp only [pX2_symbolsAreGood, eX2_symbolsAreGood, fX0_binding, fX0_linkStart, fX0_roomLength, fX0_symbolCount, fX0_symbolStart, fX1_isZeros, fX1_number, fX2_symbolIsGood, rx_n, rx_s, rx_to, rx_get, rx_f1, rx_f2, rx_two, rx_ext, rx_any, rx_hV, rx_hS, rx_hG, rx_hP, rx_hAi, rx_hAb, rx_hL, rx_hLi, rx_got, rx_pop, rx_sum, rx_len, rx_c, rx_m1, lv_args, Value.category, rx_cut_n, rx_cut_1, rx_iconst, rx_bipush, rx_sipush, rx_lconst, rx_iload_n, rx_iload, rx_lload_n, rx_lload, rx_aload_n, rx_aload, rx_istore_n, rx_istore, rx_lstore_n, rx_lstore, rx_astore_n, rx_astore, rx_iinc, rx_iadd, rx_isub, rx_imul, rx_iand, rx_ixor, rx_ishr, rx_idiv, rx_irem, rx_ladd, rx_lsub, rx_land, rx_lor, rx_lxor, rx_lmul, rx_ldiv, rx_lrem, rx_lushr, rx_lshl, rx_lshr, rx_lneg, rx_i2l, rx_l2i, rx_i2b, rx_lcmp, rx_dup_i, rx_dup_a, rx_pop_i, rx_pop_a, rx_if_eq, rx_if_ne, rx_if_lt, rx_if_ge, rx_if_gt, rx_if_le, rx_icmp_eq, rx_icmp_ne, rx_icmp_lt, rx_icmp_ge, rx_icmp_gt, rx_icmp_le, rx_goto, rx_tsw, rx_ireturn, rx_lreturn, rx_return_, rx_getfield, rx_putfield, rx_invokevirtual, rx_invokespecial, rx_invokestatic, rx_ldc, rx_ldc2_w, rx_iaload, rx_iastore, rx_baload, rx_bastore, Nat.reduceBEq, Nat.reduceAdd, Nat.reduceSub, Nat.reduceMul, Nat.reduceLeDiff, Nat.reduceEqDiff, Nat.reduceLT, Int.reduceLT, Int.reduceLE, Int.reduceNeg, Int.reduceToNat, Int.reduceAdd, Fin.isValue, Fin.val_zero, Fin.val_one, Fin.reduceFinMk, Fin.val_ofNat, Bool.or_true, Bool.true_or, Bool.or_false, Bool.false_or, Bool.and_true, Bool.true_and, Bool.and_false, Bool.false_and, cond_true, cond_false, ↓reduceIte, eq_self, ne_eq, not_true_eq_false, not_false_eq_true, true_and, and_true, Option.toList_some, Option.toList_none, List.cons_append, List.nil_append, Option.some.injEq, Value.int.injEq, Value.long.injEq, rx_l0, rx_l1, rx_fv0, rx_fv1, rx_fv2, rx_fv3, nI_c1, nI_c2, nI_c4, nI_c8, nI_c9, nI_c24, nI_c64, Nat.le_refl, bI_z, bI_0, bI_1, Classical.not_not, lg_cmp_ge, lg_cmp_le, lg_cmp_gt, lg_cmp_lt, lg_cmp_eq]
      have h5 := nm_1 w0.1 (yS w0.1 x (nI j) + nI 4)
      have h6 := nm_4 w0.1 (x + nI 44)
      simp (disch := omega) only [nI_leI, nI_z, nI_l, pk_lLE, pk_lEQ, uN_lN, rx_i01, rx_i10, not_false_eq_true, not_true_eq_false, false_implies, true_implies, true_and, and_true]
      refine ⟨fun h => ⟨fun h5 => ⟨fun i hi => hz i (by omega), Or.inl h5⟩, fun h5 => ⟨fun h6 q => h6 (q.2.resolve_left h5), fun h6 => ⟨fun i hi => hz i (by omega), Or.inr h6⟩⟩⟩, fun h => ?_⟩
      have hj2 : j < rl w0.1 x / 24 := by omega
      have bad : ¬ yG w0.1 x j → ¬ sG w0.1 x := fun a q => a (q.1 j hj2)
      have next : nI j + nI 1 = nI (j + 1) := nI_add j 1
      refine ⟨fun a => ⟨fun b => ⟨by omega, fun c => ?_, fun c => bad (fun q => c q.2)⟩, fun b => bad (fun q => ?_)⟩, fun a => ⟨fun b => bad (fun q => ?_), fun b => ⟨by omega, fun c => ?_, fun c => bad (fun q => c q.2)⟩⟩⟩
      · refine ⟨rl w0.1 x / 24 - (j + 1), _, by omega, ⟨j + 1, by omega, rfl, lt_s hz ⟨⟨fun q => absurd q a, fun q => by omega⟩, c⟩, rfl⟩, ?_⟩
        simp only [List.mem_cons, List.not_mem_nil, or_false, forall_eq_or_imp, forall_eq, Nat.reduceBEq, cond_true, cond_false, Option.some.injEq, Value.int.injEq, Value.long.injEq, Value.ref.injEq, true_and, and_true]
        exact next
      · exact a (q.1.mpr (by omega))
      · exact absurd (q.1.mp a) (by omega)
      · refine ⟨rl w0.1 x / 24 - (j + 1), _, by omega, ⟨j + 1, by omega, rfl, lt_s hz ⟨⟨fun q => by omega, fun q => a⟩, c⟩, rfl⟩, ?_⟩
        simp only [List.mem_cons, List.not_mem_nil, or_false, forall_eq_or_imp, forall_eq, Nat.reduceBEq, cond_true, cond_false, Option.some.injEq, Value.int.injEq, Value.long.injEq, Value.ref.injEq, true_and, and_true]
        exact next
    · simp only [pX2_symbolsAreGood, eX2_symbolsAreGood, fX0_binding, fX0_linkStart, fX0_roomLength, fX0_symbolCount, fX0_symbolStart, fX1_isZeros, fX1_number, fX2_symbolIsGood, rx_n, rx_s, rx_to, rx_get, rx_f1, rx_f2, rx_two, rx_ext, rx_any, rx_hV, rx_hS, rx_hG, rx_hP, rx_hAi, rx_hAb, rx_hL, rx_hLi, rx_got, rx_pop, rx_sum, rx_len, rx_c, rx_m1, lv_args, Value.category, rx_cut_n, rx_cut_1, rx_iconst, rx_bipush, rx_sipush, rx_lconst, rx_iload_n, rx_iload, rx_lload_n, rx_lload, rx_aload_n, rx_aload, rx_istore_n, rx_istore, rx_lstore_n, rx_lstore, rx_astore_n, rx_astore, rx_iinc, rx_iadd, rx_isub, rx_imul, rx_iand, rx_ixor, rx_ishr, rx_idiv, rx_irem, rx_ladd, rx_lsub, rx_land, rx_lor, rx_lxor, rx_lmul, rx_ldiv, rx_lrem, rx_lushr, rx_lshl, rx_lshr, rx_lneg, rx_i2l, rx_l2i, rx_i2b, rx_lcmp, rx_dup_i, rx_dup_a, rx_pop_i, rx_pop_a, rx_if_eq, rx_if_ne, rx_if_lt, rx_if_ge, rx_if_gt, rx_if_le, rx_icmp_eq, rx_icmp_ne, rx_icmp_lt, rx_icmp_ge, rx_icmp_gt, rx_icmp_le, rx_goto, rx_tsw, rx_ireturn, rx_lreturn, rx_return_, rx_getfield, rx_putfield, rx_invokevirtual, rx_invokespecial, rx_invokestatic, rx_ldc, rx_ldc2_w, rx_iaload, rx_iastore, rx_baload, rx_bastore, Nat.reduceBEq, Nat.reduceAdd, Nat.reduceSub, Nat.reduceMul, Nat.reduceLeDiff, Nat.reduceEqDiff, Nat.reduceLT, Int.reduceLT, Int.reduceLE, Int.reduceNeg, Int.reduceToNat, Int.reduceAdd, Fin.isValue, Fin.val_zero, Fin.val_one, Fin.reduceFinMk, Fin.val_ofNat, Bool.or_true, Bool.true_or, Bool.or_false, Bool.false_or, Bool.and_true, Bool.true_and, Bool.and_false, Bool.false_and, cond_true, cond_false, ↓reduceIte, eq_self, ne_eq, not_true_eq_false, not_false_eq_true, true_and, and_true, Option.toList_some, Option.toList_none, List.cons_append, List.nil_append, Option.some.injEq, Value.int.injEq, Value.long.injEq, rx_l0, rx_l1, rx_fv0, rx_fv1, rx_fv2, rx_fv3, nI_c1, nI_c2, nI_c4, nI_c8, nI_c9, nI_c24, nI_c64, Nat.le_refl, bI_z, bI_0, bI_1, Classical.not_not, lg_cmp_ge, lg_cmp_le, lg_cmp_gt, lg_cmp_lt, lg_cmp_eq]
      simp only [e1]
      refine ⟨rl w.1 x / 24, _, by omega, ⟨0, by omega, rfl, lt_0, rfl⟩, ?_⟩
      simp only [List.mem_cons, List.not_mem_nil, or_false, forall_eq_or_imp, forall_eq, Nat.reduceBEq, cond_true, cond_false, Option.some.injEq, Value.int.injEq, Value.long.injEq, Value.ref.injEq, true_and, and_true]
  · cases hf
def pX2_sectionOfBadSymbol : rx_P := [(0, .aload_n 0, 0), (1, .getfield 15, 0), (4, .invokevirtual 107, 0), (7, .istore_n 1, 0), (8, .iconst 0, 0), (9, .istore_n 2, 0), (10, .iload_n 2, 0), (11, .iload_n 1, 0), (12, .if_icmp .ge 43, 55), (15, .aload_n 0, 0), (16, .getfield 15, 0), (19, .iload_n 2, 0), (20, .invokevirtual 150, 0), (23, .istore_n 3, 0), (24, .aload_n 0, 0), (25, .getfield 15, 0), (28, .iload_n 3, 0), (29, .invokevirtual 156, 0), (32, .ldc2_w 88, 0), (35, .lcmp, 0), (36, .ifCond .ne 13, 49), (39, .aload_n 0, 0), (40, .iload_n 3, 0), (41, .invokevirtual 198, 0), (44, .ifCond .ne 5, 49), (47, .iload_n 2, 0), (48, .ireturn, 0), (49, .iinc 2 1, 0), (52, .goto (-42), 10), (55, .iconst (-1), 0), (56, .ireturn, 0)]
theorem pX2_sectionOfBadSymbol_ok : ∀ q ∈ pX2_sectionOfBadSymbol, rx_ok cX2_sectionOfBadSymbol q := rx_ok_all (by decide +kernel)
abbrev rX2_sectionOfBadSymbol : Room := { frames := 4, cells := 0, slots := 0, locals := 100 }
noncomputable def fX2_sectionOfBadSymbol : rx_F cS := fun w as => match as with
  | [] => some (t12 w.1, w, some (.int (oI (q13 w.1) (sC w.1))))
  | _ => none
noncomputable def eX2_sectionOfBadSymbol (ad : Nat → Nat) : rx_E cS := rx_any [rx_hG 15 (ad 3) (fun w => .ref (ad 2)), rx_hV 107 0 (ad 2) fX0_sectionCount, rx_hV 150 1 (ad 2) fX0_sectionStart, rx_hV 156 1 (ad 2) fX0_sectionKind, rx_hL 88 (lN 2), rx_hV 198 1 (ad 3) fX2_symbolsAreGood]
set_option maxHeartbeats 4000000 in
set_option maxRecDepth 100000 in
theorem eo_X2_sectionOfBadSymbol (l : Launch) (D : va_G) (ad : Nat → Nat) (cB : ClassId) : ∀ (p : Program) (e : Env) (s : State) (m : MethodId) (args : Array Value) (below : List Frame) (meth : Method) (c : Code) (Qw : State → Prop), CallFix p m c cX2_sectionOfBadSymbol 4 s args (Cond.code yX2_sectionOfBadSymbol cX2_sectionOfBadSymbol 4 (some .int) :: wsA) RX2 → cK D cB s → rx_Eok (fun H locs g => W p l e rX2_sectionOfBadSymbol s m args below meth c H locs 0 0 Qw g) m cX2_sectionOfBadSymbol 4 (tr_I D vwCl (cA ad) s (cW ad cB)) (eX2_sectionOfBadSymbol ad) := by
  intro p e s m args below meth c Qw S hK
  have ht : ∀ w ∈ wsA, w.before args s = true := fun w h => S.2.2.2.2 w (wsA_in h)
  exact rx_any_c (rx_hG_ok (fun w H locs pc ls rest hI hd k => va_get (D := D) (ci := 2) (C := RX2) (T := TX2) (N := 3) S.1 S.2.1 ht inX2 S.2.2.2.1 hK.1 hI.1 3 rfl rfl 1 (by decide) (ht _ wfX2_15) (fun _ h9 => h9) rfl hd k)) (rx_any_c (rx_hV_ok S ⟨Nat.zero_le _, Nat.zero_le _⟩ cK_tr hK (cwV 0 S.2.2.2.2 (wsA_V wkX2_107 wiX0_sectionCount weX0_sectionCount winiX0 wX0_sectionCount) rfl rfl rfl (by decide +kernel) ⟨by decide, by decide⟩) (ct_X0_sectionCount l D ad cB) (fun w H hP => va_recv hK.1 hP (rfl : vwCl[0]? = some (RX0, TX0, 1)) (rfl : (cW ad cB w)[2]? = some _))) (rx_any_c (rx_hV_ok S ⟨Nat.zero_le _, Nat.zero_le _⟩ cK_tr hK (cwV 1 S.2.2.2.2 (wsA_V wkX2_150 wiX0_sectionStart weX0_sectionStart winiX0 wX0_sectionStart) rfl rfl rfl (by decide +kernel) ⟨by decide, by decide⟩) (ct_X0_sectionStart l D ad cB) (fun w H hP => va_recv hK.1 hP (rfl : vwCl[0]? = some (RX0, TX0, 1)) (rfl : (cW ad cB w)[2]? = some _))) (rx_any_c (rx_hV_ok S ⟨Nat.zero_le _, Nat.zero_le _⟩ cK_tr hK (cwV 1 S.2.2.2.2 (wsA_V wkX2_156 wiX0_sectionKind weX0_sectionKind winiX0 wX0_sectionKind) rfl rfl rfl (by decide +kernel) ⟨by decide, by decide⟩) (ct_X0_sectionKind l D ad cB) (fun w H hP => va_recv hK.1 hP (rfl : vwCl[0]? = some (RX0, TX0, 1)) (rfl : (cW ad cB w)[2]? = some _))) (rx_any_c (rx_hL_ok S (ht _ wcX2_88)) (rx_any_c (rx_hV_ok S ⟨Nat.zero_le _, Nat.zero_le _⟩ cK_tr hK (cwV 1 S.2.2.2.2 (wsA_V wkX2_198 wiX2_symbolsAreGood weX2_symbolsAreGood winiX2 wX2_symbolsAreGood) rfl rfl rfl (by decide +kernel) ⟨by decide, by decide⟩) (ct_X2_symbolsAreGood l D ad cB) (fun w H hP => va_recv hK.1 hP (rfl : vwCl[2]? = some (RX2, TX2, 3)) (rfl : (cW ad cB w)[3]? = some _))) (rx_any_0))))))
set_option maxHeartbeats 4000000 in
set_option maxRecDepth 100000 in
theorem ct_X2_sectionOfBadSymbol (l : Launch) (D : va_G) (ad : Nat → Nat) (cB : ClassId) : ctC l yX2_sectionOfBadSymbol cX2_sectionOfBadSymbol 4 (some .int) rX2_sectionOfBadSymbol D ad cB [.ref (ad 3)] fX2_sectionOfBadSymbol := by
  intro w as g w1 r hf hg
  unfold fX2_sectionOfBadSymbol at hf
  split at hf
  · cases hf
    refine tr_of (rx_1c 10 (fun u w0 lv => w0 = w ∧ ∃ k, k ≤ sC w.1 ∧ u = sC w.1 - k ∧ (∀ i, i < k → ¬ q13 w.1 i) ∧ lv = [(0, .ref (ad 3)), (1, .int (nI (sC w.1))), (2, .int (nI k))])) 200 200 10000 (by decide) rfl rfl (Nat.le_of_ble_eq_true rfl) pX2_sectionOfBadSymbol_ok (rt_i _) (eo_X2_sectionOfBadSymbol l D ad cB) ?_ ?_
    · intro pc g0 hpc u w0 lv hinv
      have hh := rx_1c_of hpc
      clear hpc
      obtain ⟨rfl, rfl⟩ := hh
      obtain ⟨rfl, k, hk, rfl, hz, rfl⟩ := hinv
      have hc := sC_lt w0.1
      simp only [pX2_sectionOfBadSymbol, eX2_sectionOfBadSymbol, fX0_sectionCount, fX0_sectionKind, fX0_sectionStart, fX2_symbolsAreGood, rx_n, rx_s, rx_to, rx_get, rx_f1, rx_f2, rx_two, rx_ext, rx_any, rx_hV, rx_hS, rx_hG, rx_hP, rx_hAi, rx_hAb, rx_hL, rx_hLi, rx_got, rx_pop, rx_sum, rx_len, rx_c, rx_m1, lv_args, Value.category, rx_cut_n, rx_cut_1, rx_iconst, rx_bipush, rx_sipush, rx_lconst, rx_iload_n, rx_iload, rx_lload_n, rx_lload, rx_aload_n, rx_aload, rx_istore_n, rx_istore, rx_lstore_n, rx_lstore, rx_astore_n, rx_astore, rx_iinc, rx_iadd, rx_isub, rx_imul, rx_iand, rx_ixor, rx_ishr, rx_idiv, rx_irem, rx_ladd, rx_lsub, rx_land, rx_lor, rx_lxor, rx_lmul, rx_ldiv, rx_lrem, rx_lushr, rx_lshl, rx_lshr, rx_lneg, rx_i2l, rx_l2i, rx_i2b, rx_lcmp, rx_dup_i, rx_dup_a, rx_pop_i, rx_pop_a, rx_if_eq, rx_if_ne, rx_if_lt, rx_if_ge, rx_if_gt, rx_if_le, rx_icmp_eq, rx_icmp_ne, rx_icmp_lt, rx_icmp_ge, rx_icmp_gt, rx_icmp_le, rx_goto, rx_tsw, rx_ireturn, rx_lreturn, rx_return_, rx_getfield, rx_putfield, rx_invokevirtual, rx_invokespecial, rx_invokestatic, rx_ldc, rx_ldc2_w, rx_iaload, rx_iastore, rx_baload, rx_bastore, Nat.reduceBEq, Nat.reduceAdd, Nat.reduceSub, Nat.reduceMul, Nat.reduceLeDiff, Nat.reduceEqDiff, Nat.reduceLT, Int.reduceLT, Int.reduceLE, Int.reduceNeg, Int.reduceToNat, Int.reduceAdd, Fin.isValue, Fin.val_zero, Fin.val_one, Fin.reduceFinMk, Fin.val_ofNat, Bool.or_true, Bool.true_or, Bool.or_false, Bool.false_or, Bool.and_true, Bool.true_and, Bool.and_false, Bool.false_and, cond_true, cond_false, ↓reduceIte, eq_self, ne_eq, not_true_eq_false, not_false_eq_true, true_and, and_true, Option.toList_some, Option.toList_none, List.cons_append, List.nil_append, Option.some.injEq, Value.int.injEq, Value.long.injEq, rx_l0, rx_l1, rx_fv0, rx_fv1, rx_fv2, rx_fv3, nI_c1, nI_c2, nI_c4, nI_c8, nI_c9, nI_c24, nI_c64, Nat.le_refl, bI_z, bI_0, bI_1, Classical.not_not, lg_cmp_ge, lg_cmp_le, lg_cmp_gt, lg_cmp_lt, lg_cmp_eq]
      rw [nI_leI (by omega) (by omega)]
      refine ⟨fun h => (oI_none fun i hi => hz i (by omega)).symm, fun h => ?_⟩
      have hk2 : k < sC w0.1 := by omega
      have next : nI k + nI 1 = nI (k + 1) := nI_add k 1
      
      have h6 := hg.1.1
      have hA := t6_sA h6 hk2
      have hR := t9_room hg.1 hk2
      have hB := bn_le w0.1
      have h2 : kd w0.1 k < 4294967296 := bl_lt w0.1 (sA w0.1 k + 4) 4
      simp (disch := omega) only [t6_sS h6, nm_at, rl_at h6 hk2]
      rw [show bl w0.1 (sA w0.1 k + 4) 4 = kd w0.1 k from rfl, pk_lEQ (by omega) (by omega)]
      refine ⟨fun h3 => ?_, fun h3 => ?_⟩
      · refine ⟨sC w0.1 - (k + 1), _, by omega, ⟨k + 1, by omega, rfl, lt_s hz (fun q => h3 q.1), rfl⟩, ?_⟩
        simp only [List.mem_cons, List.not_mem_nil, or_false, forall_eq_or_imp, forall_eq, Nat.reduceBEq, cond_true, cond_false, Option.some.injEq, Value.int.injEq, Value.long.injEq, Value.ref.injEq, true_and, and_true]
        exact next
      · have hL := (t12_of hg hk2 h3).2.2.1
        have hR2 := t9_room hg.1 hL.1
        rw [lS_at h6 hk2, rl_at h6 hL.1, sG_at hg hk2 h3]
        refine ⟨⟨h3, by omega, by omega⟩, fun h4 => ?_, fun h4 => (oI_some hz ⟨h3, h4⟩ hk2).symm⟩
        refine ⟨sC w0.1 - (k + 1), _, by omega, ⟨k + 1, by omega, rfl, lt_s hz (fun q => q.2 h4), rfl⟩, ?_⟩
        simp only [List.mem_cons, List.not_mem_nil, or_false, forall_eq_or_imp, forall_eq, Nat.reduceBEq, cond_true, cond_false, Option.some.injEq, Value.int.injEq, Value.long.injEq, Value.ref.injEq, true_and, and_true]
        exact next
    · simp only [pX2_sectionOfBadSymbol, eX2_sectionOfBadSymbol, fX0_sectionCount, fX0_sectionKind, fX0_sectionStart, fX2_symbolsAreGood, rx_n, rx_s, rx_to, rx_get, rx_f1, rx_f2, rx_two, rx_ext, rx_any, rx_hV, rx_hS, rx_hG, rx_hP, rx_hAi, rx_hAb, rx_hL, rx_hLi, rx_got, rx_pop, rx_sum, rx_len, rx_c, rx_m1, lv_args, Value.category, rx_cut_n, rx_cut_1, rx_iconst, rx_bipush, rx_sipush, rx_lconst, rx_iload_n, rx_iload, rx_lload_n, rx_lload, rx_aload_n, rx_aload, rx_istore_n, rx_istore, rx_lstore_n, rx_lstore, rx_astore_n, rx_astore, rx_iinc, rx_iadd, rx_isub, rx_imul, rx_iand, rx_ixor, rx_ishr, rx_idiv, rx_irem, rx_ladd, rx_lsub, rx_land, rx_lor, rx_lxor, rx_lmul, rx_ldiv, rx_lrem, rx_lushr, rx_lshl, rx_lshr, rx_lneg, rx_i2l, rx_l2i, rx_i2b, rx_lcmp, rx_dup_i, rx_dup_a, rx_pop_i, rx_pop_a, rx_if_eq, rx_if_ne, rx_if_lt, rx_if_ge, rx_if_gt, rx_if_le, rx_icmp_eq, rx_icmp_ne, rx_icmp_lt, rx_icmp_ge, rx_icmp_gt, rx_icmp_le, rx_goto, rx_tsw, rx_ireturn, rx_lreturn, rx_return_, rx_getfield, rx_putfield, rx_invokevirtual, rx_invokespecial, rx_invokestatic, rx_ldc, rx_ldc2_w, rx_iaload, rx_iastore, rx_baload, rx_bastore, Nat.reduceBEq, Nat.reduceAdd, Nat.reduceSub, Nat.reduceMul, Nat.reduceLeDiff, Nat.reduceEqDiff, Nat.reduceLT, Int.reduceLT, Int.reduceLE, Int.reduceNeg, Int.reduceToNat, Int.reduceAdd, Fin.isValue, Fin.val_zero, Fin.val_one, Fin.reduceFinMk, Fin.val_ofNat, Bool.or_true, Bool.true_or, Bool.or_false, Bool.false_or, Bool.and_true, Bool.true_and, Bool.and_false, Bool.false_and, cond_true, cond_false, ↓reduceIte, eq_self, ne_eq, not_true_eq_false, not_false_eq_true, true_and, and_true, Option.toList_some, Option.toList_none, List.cons_append, List.nil_append, Option.some.injEq, Value.int.injEq, Value.long.injEq, rx_l0, rx_l1, rx_fv0, rx_fv1, rx_fv2, rx_fv3, nI_c1, nI_c2, nI_c4, nI_c8, nI_c9, nI_c24, nI_c64, Nat.le_refl, bI_z, bI_0, bI_1, Classical.not_not, lg_cmp_ge, lg_cmp_le, lg_cmp_gt, lg_cmp_lt, lg_cmp_eq]
      have h1 := t6_s10 hg.1.1
      simp only [t6_sC hg.1.1]
      refine ⟨sC w.1, _, by omega, ⟨0, by omega, rfl, lt_0, rfl⟩, ?_⟩
      simp only [List.mem_cons, List.not_mem_nil, or_false, forall_eq_or_imp, forall_eq, Nat.reduceBEq, cond_true, cond_false, Option.some.injEq, Value.int.injEq, Value.long.injEq, Value.ref.injEq, true_and, and_true]
  · cases hf
def pX2_entryIsGood : rx_P := [(0, .aload_n 0, 0), (1, .getfield 9, 0), (4, .bipush 16, 0), (6, .iconst 2, 0), (7, .invokevirtual 76, 0), (10, .ldc2_w 88, 0), (13, .lcmp, 0), (14, .ifCond .eq 5, 19), (17, .iconst 1, 0), (18, .ireturn, 0), (19, .aload_n 0, 0), (20, .getfield 9, 0), (23, .bipush 24, 0), (25, .bipush 8, 0), (27, .invokevirtual 76, 0), (30, .lstore_n 1, 0), (31, .aload_n 0, 0), (32, .getfield 15, 0), (35, .invokevirtual 100, 0), (38, .istore_n 3, 0), (39, .iconst 0, 0), (40, .istore 4, 0), (42, .iload 4, 0), (44, .iload_n 3, 0), (45, .if_icmp .ge 59, 104), (48, .aload_n 0, 0), (49, .getfield 15, 0), (52, .iload 4, 0), (54, .invokevirtual 124, 0), (57, .istore 5, 0), (59, .aload_n 0, 0), (60, .getfield 15, 0), (63, .iload 5, 0), (65, .invokevirtual 144, 0), (68, .ifCond .eq 30, 98), (71, .aload_n 0, 0), (72, .getfield 15, 0), (75, .iload 5, 0), (77, .invokevirtual 219, 0), (80, .ifCond .eq 18, 98), (83, .aload_n 0, 0), (84, .getfield 15, 0), (87, .lload_n 1, 0), (88, .iload 5, 0), (90, .invokevirtual 222, 0), (93, .ifCond .eq 5, 98), (96, .iconst 1, 0), (97, .ireturn, 0), (98, .iinc 4 1, 0), (101, .goto (-59), 42), (104, .iconst 0, 0), (105, .ireturn, 0)]
theorem pX2_entryIsGood_ok : ∀ q ∈ pX2_entryIsGood, rx_ok cX2_entryIsGood q := rx_ok_all (by decide +kernel)
abbrev rX2_entryIsGood : Room := { frames := 2, cells := 0, slots := 0, locals := 52 }
noncomputable def fX2_entryIsGood : rx_F cS := fun w as => match as with
  | [] => some (t6 w.1, w, some (.int (bI (q14 w.1))))
  | _ => none
noncomputable def eX2_entryIsGood (ad : Nat → Nat) : rx_E cS := rx_any [rx_hG 9 (ad 3) (fun w => .ref (ad 1)), rx_hV 76 2 (ad 1) fX1_number, rx_hL 88 (lN 2), rx_hG 15 (ad 3) (fun w => .ref (ad 2)), rx_hV 100 0 (ad 2) fX0_segmentCount, rx_hV 124 1 (ad 2) fX0_segmentStart, rx_hV 144 1 (ad 2) fX0_isLoaded, rx_hV 219 1 (ad 2) fX0_mayBeRun, rx_hV 222 2 (ad 2) fX0_liesInMemory]
set_option maxHeartbeats 4000000 in
set_option maxRecDepth 100000 in
theorem eo_X2_entryIsGood (l : Launch) (D : va_G) (ad : Nat → Nat) (cB : ClassId) : ∀ (p : Program) (e : Env) (s : State) (m : MethodId) (args : Array Value) (below : List Frame) (meth : Method) (c : Code) (Qw : State → Prop), CallFix p m c cX2_entryIsGood 6 s args (Cond.code yX2_entryIsGood cX2_entryIsGood 6 (some .boolean) :: wsA) RX2 → cK D cB s → rx_Eok (fun H locs g => W p l e rX2_entryIsGood s m args below meth c H locs 0 0 Qw g) m cX2_entryIsGood 6 (tr_I D vwCl (cA ad) s (cW ad cB)) (eX2_entryIsGood ad) := by
  intro p e s m args below meth c Qw S hK
  have ht : ∀ w ∈ wsA, w.before args s = true := fun w h => S.2.2.2.2 w (wsA_in h)
  exact rx_any_c (rx_hG_ok (fun w H locs pc ls rest hI hd k => va_get (D := D) (ci := 2) (C := RX2) (T := TX2) (N := 3) S.1 S.2.1 ht inX2 S.2.2.2.1 hK.1 hI.1 3 rfl rfl 0 (by decide) (ht _ wfX2_9) (fun _ h9 => h9) rfl hd k)) (rx_any_c (rx_hV_ok S ⟨Nat.zero_le _, Nat.zero_le _⟩ cK_tr hK (cwV 2 S.2.2.2.2 (wsA_V wkX2_76 wiX1_number weX1_number winiX1 wX1_number) rfl rfl rfl (by decide +kernel) ⟨by decide, by decide⟩) (ct_X1_number l D ad cB) (fun w H hP => va_recv hK.1 hP (rfl : vwCl[1]? = some (RX1, TX1, 2)) (rfl : (cW ad cB w)[1]? = some _))) (rx_any_c (rx_hL_ok S (ht _ wcX2_88)) (rx_any_c (rx_hG_ok (fun w H locs pc ls rest hI hd k => va_get (D := D) (ci := 2) (C := RX2) (T := TX2) (N := 3) S.1 S.2.1 ht inX2 S.2.2.2.1 hK.1 hI.1 3 rfl rfl 1 (by decide) (ht _ wfX2_15) (fun _ h9 => h9) rfl hd k)) (rx_any_c (rx_hV_ok S ⟨Nat.zero_le _, Nat.zero_le _⟩ cK_tr hK (cwV 0 S.2.2.2.2 (wsA_V wkX2_100 wiX0_segmentCount weX0_segmentCount winiX0 wX0_segmentCount) rfl rfl rfl (by decide +kernel) ⟨by decide, by decide⟩) (ct_X0_segmentCount l D ad cB) (fun w H hP => va_recv hK.1 hP (rfl : vwCl[0]? = some (RX0, TX0, 1)) (rfl : (cW ad cB w)[2]? = some _))) (rx_any_c (rx_hV_ok S ⟨Nat.zero_le _, Nat.zero_le _⟩ cK_tr hK (cwV 1 S.2.2.2.2 (wsA_V wkX2_124 wiX0_segmentStart weX0_segmentStart winiX0 wX0_segmentStart) rfl rfl rfl (by decide +kernel) ⟨by decide, by decide⟩) (ct_X0_segmentStart l D ad cB) (fun w H hP => va_recv hK.1 hP (rfl : vwCl[0]? = some (RX0, TX0, 1)) (rfl : (cW ad cB w)[2]? = some _))) (rx_any_c (rx_hV_ok S ⟨Nat.zero_le _, Nat.zero_le _⟩ cK_tr hK (cwV 1 S.2.2.2.2 (wsA_V wkX2_144 wiX0_isLoaded weX0_isLoaded winiX0 wX0_isLoaded) rfl rfl rfl (by decide +kernel) ⟨by decide, by decide⟩) (ct_X0_isLoaded l D ad cB) (fun w H hP => va_recv hK.1 hP (rfl : vwCl[0]? = some (RX0, TX0, 1)) (rfl : (cW ad cB w)[2]? = some _))) (rx_any_c (rx_hV_ok S ⟨Nat.zero_le _, Nat.zero_le _⟩ cK_tr hK (cwV 1 S.2.2.2.2 (wsA_V wkX2_219 wiX0_mayBeRun weX0_mayBeRun winiX0 wX0_mayBeRun) rfl rfl rfl (by decide +kernel) ⟨by decide, by decide⟩) (ct_X0_mayBeRun l D ad cB) (fun w H hP => va_recv hK.1 hP (rfl : vwCl[0]? = some (RX0, TX0, 1)) (rfl : (cW ad cB w)[2]? = some _))) (rx_any_c (rx_hV_ok S ⟨Nat.zero_le _, Nat.zero_le _⟩ cK_tr hK (cwV 2 S.2.2.2.2 (wsA_V wkX2_222 wiX0_liesInMemory weX0_liesInMemory winiX0 wX0_liesInMemory) rfl rfl rfl (by decide +kernel) ⟨by decide, by decide⟩) (ct_X0_liesInMemory l D ad cB) (fun w H hP => va_recv hK.1 hP (rfl : vwCl[0]? = some (RX0, TX0, 1)) (rfl : (cW ad cB w)[2]? = some _))) (rx_any_0)))))))))
set_option maxHeartbeats 4000000 in
set_option maxRecDepth 100000 in
theorem ct_X2_entryIsGood (l : Launch) (D : va_G) (ad : Nat → Nat) (cB : ClassId) : ctC l yX2_entryIsGood cX2_entryIsGood 6 (some .boolean) rX2_entryIsGood D ad cB [.ref (ad 3)] fX2_entryIsGood := by
  intro w as g w1 r hf hg
  unfold fX2_entryIsGood at hf
  split at hf
  · cases hf
    refine tr_of (rx_1c 42 (fun u w0 lv => w0 = w ∧ bl w.1 16 2 = 2 ∧ ∃ k, k ≤ gC w.1 ∧ u = gC w.1 - k ∧ (∀ i, i < k → ¬ (gL w.1 i ∧ bl w.1 (gA w.1 i + 4) 4 % 2 = 1 ∧ gI w.1 (bl w.1 24 8) i)) ∧ lv = [(0, .ref (ad 3)), (1, .long (lN (bl w.1 24 8))), (3, .int (nI (gC w.1))), (4, .int (nI k))])) 200 200 10000 (by decide) rfl rfl (Nat.le_of_ble_eq_true rfl) pX2_entryIsGood_ok (rt_z _) (eo_X2_entryIsGood l D ad cB) ?_ ?_
    · intro pc g0 hpc u w0 lv hinv
      have hh := rx_1c_of hpc
      clear hpc
      obtain ⟨rfl, rfl⟩ := hh
      obtain ⟨rfl, h16, k, hk, rfl, hz, rfl⟩ := hinv
      have hc := gC_lt w0.1
      simp only [pX2_entryIsGood, eX2_entryIsGood, fX0_isLoaded, fX0_liesInMemory, fX0_mayBeRun, fX0_segmentCount, fX0_segmentStart, fX1_number, rx_n, rx_s, rx_to, rx_get, rx_f1, rx_f2, rx_two, rx_ext, rx_any, rx_hV, rx_hS, rx_hG, rx_hP, rx_hAi, rx_hAb, rx_hL, rx_hLi, rx_got, rx_pop, rx_sum, rx_len, rx_c, rx_m1, lv_args, Value.category, rx_cut_n, rx_cut_1, rx_iconst, rx_bipush, rx_sipush, rx_lconst, rx_iload_n, rx_iload, rx_lload_n, rx_lload, rx_aload_n, rx_aload, rx_istore_n, rx_istore, rx_lstore_n, rx_lstore, rx_astore_n, rx_astore, rx_iinc, rx_iadd, rx_isub, rx_imul, rx_iand, rx_ixor, rx_ishr, rx_idiv, rx_irem, rx_ladd, rx_lsub, rx_land, rx_lor, rx_lxor, rx_lmul, rx_ldiv, rx_lrem, rx_lushr, rx_lshl, rx_lshr, rx_lneg, rx_i2l, rx_l2i, rx_i2b, rx_lcmp, rx_dup_i, rx_dup_a, rx_pop_i, rx_pop_a, rx_if_eq, rx_if_ne, rx_if_lt, rx_if_ge, rx_if_gt, rx_if_le, rx_icmp_eq, rx_icmp_ne, rx_icmp_lt, rx_icmp_ge, rx_icmp_gt, rx_icmp_le, rx_goto, rx_tsw, rx_ireturn, rx_lreturn, rx_return_, rx_getfield, rx_putfield, rx_invokevirtual, rx_invokespecial, rx_invokestatic, rx_ldc, rx_ldc2_w, rx_iaload, rx_iastore, rx_baload, rx_bastore, Nat.reduceBEq, Nat.reduceAdd, Nat.reduceSub, Nat.reduceMul, Nat.reduceLeDiff, Nat.reduceEqDiff, Nat.reduceLT, Int.reduceLT, Int.reduceLE, Int.reduceNeg, Int.reduceToNat, Int.reduceAdd, Fin.isValue, Fin.val_zero, Fin.val_one, Fin.reduceFinMk, Fin.val_ofNat, Bool.or_true, Bool.true_or, Bool.or_false, Bool.false_or, Bool.and_true, Bool.true_and, Bool.and_false, Bool.false_and, cond_true, cond_false, ↓reduceIte, eq_self, ne_eq, not_true_eq_false, not_false_eq_true, true_and, and_true, Option.toList_some, Option.toList_none, List.cons_append, List.nil_append, Option.some.injEq, Value.int.injEq, Value.long.injEq, rx_l0, rx_l1, rx_fv0, rx_fv1, rx_fv2, rx_fv3, nI_c1, nI_c2, nI_c4, nI_c8, nI_c9, nI_c24, nI_c64, Nat.le_refl, bI_z, bI_0, bI_1, Classical.not_not, lg_cmp_ge, lg_cmp_le, lg_cmp_gt, lg_cmp_lt, lg_cmp_eq]
      rw [nI_leI (by omega) (by omega)]
      refine ⟨fun h => ?_, fun h => ?_⟩
      · intro q
        obtain ⟨i, hi, q⟩ := q h16
        exact hz i (by omega) q
      have hk2 : k < gC w0.1 := by omega
      have next : nI k + nI 1 = nI (k + 1) := nI_add k 1
      have hA := t6_gA hg hk2
      have h24 := bl_lt w0.1 24 8
      simp (disch := omega) only [t6_gS hg, nm_at, nm_a0, uN_lN]
      have go : (¬ (gL w0.1 k ∧ bl w0.1 (gA w0.1 k + 4) 4 % 2 = 1 ∧ gI w0.1 (bl w0.1 24 8) k)) → ∀ i, i < k + 1 → ¬ (gL w0.1 i ∧ bl w0.1 (gA w0.1 i + 4) 4 % 2 = 1 ∧ gI w0.1 (bl w0.1 24 8) i) := fun q => lt_s hz q
      refine ⟨fun h2 => ?_, fun h2 => ⟨fun h3 => ?_, fun h3 => ⟨fun h4 => ?_, fun h4 => fun _ => ⟨k, hk2, h2, h3, h4⟩⟩⟩⟩
      · refine ⟨gC w0.1 - (k + 1), _, by omega, ⟨h16, k + 1, by omega, rfl, go (fun q => h2 q.1), rfl⟩, ?_⟩
        simp only [List.mem_cons, List.not_mem_nil, or_false, forall_eq_or_imp, forall_eq, Nat.reduceBEq, cond_true, cond_false, Option.some.injEq, Value.int.injEq, Value.long.injEq, Value.ref.injEq, true_and, and_true]
        exact next
      · refine ⟨gC w0.1 - (k + 1), _, by omega, ⟨h16, k + 1, by omega, rfl, go (fun q => h3 q.2.1), rfl⟩, ?_⟩
        simp only [List.mem_cons, List.not_mem_nil, or_false, forall_eq_or_imp, forall_eq, Nat.reduceBEq, cond_true, cond_false, Option.some.injEq, Value.int.injEq, Value.long.injEq, Value.ref.injEq, true_and, and_true]
        exact next
      · refine ⟨gC w0.1 - (k + 1), _, by omega, ⟨h16, k + 1, by omega, rfl, go (fun q => h4 q.2.2), rfl⟩, ?_⟩
        simp only [List.mem_cons, List.not_mem_nil, or_false, forall_eq_or_imp, forall_eq, Nat.reduceBEq, cond_true, cond_false, Option.some.injEq, Value.int.injEq, Value.long.injEq, Value.ref.injEq, true_and, and_true]
        exact next
    · simp only [pX2_entryIsGood, eX2_entryIsGood, fX0_isLoaded, fX0_liesInMemory, fX0_mayBeRun, fX0_segmentCount, fX0_segmentStart, fX1_number, rx_n, rx_s, rx_to, rx_get, rx_f1, rx_f2, rx_two, rx_ext, rx_any, rx_hV, rx_hS, rx_hG, rx_hP, rx_hAi, rx_hAb, rx_hL, rx_hLi, rx_got, rx_pop, rx_sum, rx_len, rx_c, rx_m1, lv_args, Value.category, rx_cut_n, rx_cut_1, rx_iconst, rx_bipush, rx_sipush, rx_lconst, rx_iload_n, rx_iload, rx_lload_n, rx_lload, rx_aload_n, rx_aload, rx_istore_n, rx_istore, rx_lstore_n, rx_lstore, rx_astore_n, rx_astore, rx_iinc, rx_iadd, rx_isub, rx_imul, rx_iand, rx_ixor, rx_ishr, rx_idiv, rx_irem, rx_ladd, rx_lsub, rx_land, rx_lor, rx_lxor, rx_lmul, rx_ldiv, rx_lrem, rx_lushr, rx_lshl, rx_lshr, rx_lneg, rx_i2l, rx_l2i, rx_i2b, rx_lcmp, rx_dup_i, rx_dup_a, rx_pop_i, rx_pop_a, rx_if_eq, rx_if_ne, rx_if_lt, rx_if_ge, rx_if_gt, rx_if_le, rx_icmp_eq, rx_icmp_ne, rx_icmp_lt, rx_icmp_ge, rx_icmp_gt, rx_icmp_le, rx_goto, rx_tsw, rx_ireturn, rx_lreturn, rx_return_, rx_getfield, rx_putfield, rx_invokevirtual, rx_invokespecial, rx_invokestatic, rx_ldc, rx_ldc2_w, rx_iaload, rx_iastore, rx_baload, rx_bastore, Nat.reduceBEq, Nat.reduceAdd, Nat.reduceSub, Nat.reduceMul, Nat.reduceLeDiff, Nat.reduceEqDiff, Nat.reduceLT, Int.reduceLT, Int.reduceLE, Int.reduceNeg, Int.reduceToNat, Int.reduceAdd, Fin.isValue, Fin.val_zero, Fin.val_one, Fin.reduceFinMk, Fin.val_ofNat, Bool.or_true, Bool.true_or, Bool.or_false, Bool.false_or, Bool.and_true, Bool.true_and, Bool.and_false, Bool.false_and, cond_true, cond_false, ↓reduceIte, eq_self, ne_eq, not_true_eq_false, not_false_eq_true, true_and, and_true, Option.toList_some, Option.toList_none, List.cons_append, List.nil_append, Option.some.injEq, Value.int.injEq, Value.long.injEq, rx_l0, rx_l1, rx_fv0, rx_fv1, rx_fv2, rx_fv3, nI_c1, nI_c2, nI_c4, nI_c8, nI_c9, nI_c24, nI_c64, Nat.le_refl, bI_z, bI_0, bI_1, Classical.not_not, lg_cmp_ge, lg_cmp_le, lg_cmp_gt, lg_cmp_lt, lg_cmp_eq]
      have h1 := t6_g11 hg
      have h2 := hg.1
      have h3 := bl_lt w.1 16 2
      simp (disch := omega) only [nm_K, t6_gC hg, nu_in, pk_lEQ]
      refine ⟨fun h => ⟨gC w.1, _, by omega, ⟨h, 0, by omega, rfl, lt_0, rfl⟩, ?_⟩, fun h q => absurd q h⟩
      simp only [List.mem_cons, List.not_mem_nil, or_false, forall_eq_or_imp, forall_eq, Nat.reduceBEq, cond_true, cond_false, Option.some.injEq, Value.int.injEq, Value.long.injEq, Value.ref.injEq, true_and, and_true]
  · cases hf
def pX2_firstBrokenOfHead : rx_P := [(0, .aload_n 0, 0), (1, .getfield 9, 0), (4, .getfield 56, 0), (7, .bipush 64, 0), (9, .if_icmp .ge 5, 14), (12, .iconst 1, 0), (13, .ireturn, 0), (14, .aload_n 0, 0), (15, .invokevirtual 61, 0), (18, .ifCond .ne 5, 23), (21, .iconst 2, 0), (22, .ireturn, 0), (23, .aload_n 0, 0), (24, .invokevirtual 64, 0), (27, .ifCond .ne 5, 32), (30, .iconst 3, 0), (31, .ireturn, 0), (32, .aload_n 0, 0), (33, .invokevirtual 67, 0), (36, .ifCond .ne 5, 41), (39, .iconst 4, 0), (40, .ireturn, 0), (41, .aload_n 0, 0), (42, .invokevirtual 70, 0), (45, .ifCond .ne 5, 50), (48, .iconst 5, 0), (49, .ireturn, 0), (50, .aload_n 0, 0), (51, .invokevirtual 73, 0), (54, .ifCond .eq 7, 61), (57, .iconst 0, 0), (58, .goto 5, 63), (61, .bipush 6, 0), (63, .ireturn, 0)]
theorem pX2_firstBrokenOfHead_ok : ∀ q ∈ pX2_firstBrokenOfHead, rx_ok cX2_firstBrokenOfHead q := rx_ok_all (by decide +kernel)
abbrev rX2_firstBrokenOfHead : Room := { frames := 4, cells := 0, slots := 0, locals := 96 }
noncomputable def fX2_firstBrokenOfHead : rx_F cS := fun w as => match as with
  | [] => some (True, w, some (.int (nI (rH w.1))))
  | _ => none
noncomputable def eX2_firstBrokenOfHead (ad : Nat → Nat) : rx_E cS := rx_any [rx_hG 9 (ad 3) (fun w => .ref (ad 1)), rx_hG 56 (ad 1) (fun w => .int (nI (bn w.1))), rx_hV 61 0 (ad 3) fX2_markBegins, rx_hV 64 0 (ad 3) fX2_markGoesOn, rx_hV 67 0 (ad 3) fX2_kindIsKnown, rx_hV 70 0 (ad 3) fX2_rowLengthsAreGood, rx_hV 73 0 (ad 3) fX2_tablesAreGood]
set_option maxHeartbeats 4000000 in
set_option maxRecDepth 100000 in
theorem eo_X2_firstBrokenOfHead (l : Launch) (D : va_G) (ad : Nat → Nat) (cB : ClassId) : ∀ (p : Program) (e : Env) (s : State) (m : MethodId) (args : Array Value) (below : List Frame) (meth : Method) (c : Code) (Qw : State → Prop), CallFix p m c cX2_firstBrokenOfHead 1 s args (Cond.code yX2_firstBrokenOfHead cX2_firstBrokenOfHead 1 (some .int) :: wsA) RX2 → cK D cB s → rx_Eok (fun H locs g => W p l e rX2_firstBrokenOfHead s m args below meth c H locs 0 0 Qw g) m cX2_firstBrokenOfHead 1 (tr_I D vwCl (cA ad) s (cW ad cB)) (eX2_firstBrokenOfHead ad) := by
  intro p e s m args below meth c Qw S hK
  have ht : ∀ w ∈ wsA, w.before args s = true := fun w h => S.2.2.2.2 w (wsA_in h)
  exact rx_any_c (rx_hG_ok (fun w H locs pc ls rest hI hd k => va_get (D := D) (ci := 2) (C := RX2) (T := TX2) (N := 3) S.1 S.2.1 ht inX2 S.2.2.2.1 hK.1 hI.1 3 rfl rfl 0 (by decide) (ht _ wfX2_9) (fun _ h9 => h9) rfl hd k)) (rx_any_c (rx_hG_ok (fun w H locs pc ls rest hI hd k => va_getN (D := D) (ci := 1) (C := RX1) (T := TX1) (N := 2) S.1 S.2.1 ht inX1 S.2.2.2.1 hK.1 hI.1 1 rfl rfl 1 (by decide) (va_Nw.use rfl hK.2.2.1) (fun _ h9 => h9) rfl hd k)) (rx_any_c (rx_hV_ok S ⟨Nat.zero_le _, Nat.zero_le _⟩ cK_tr hK (cwV 0 S.2.2.2.2 (wsA_V wkX2_61 wiX2_markBegins weX2_markBegins winiX2 wX2_markBegins) rfl rfl rfl (by decide +kernel) ⟨by decide, by decide⟩) (ct_X2_markBegins l D ad cB) (fun w H hP => va_recv hK.1 hP (rfl : vwCl[2]? = some (RX2, TX2, 3)) (rfl : (cW ad cB w)[3]? = some _))) (rx_any_c (rx_hV_ok S ⟨Nat.zero_le _, Nat.zero_le _⟩ cK_tr hK (cwV 0 S.2.2.2.2 (wsA_V wkX2_64 wiX2_markGoesOn weX2_markGoesOn winiX2 wX2_markGoesOn) rfl rfl rfl (by decide +kernel) ⟨by decide, by decide⟩) (ct_X2_markGoesOn l D ad cB) (fun w H hP => va_recv hK.1 hP (rfl : vwCl[2]? = some (RX2, TX2, 3)) (rfl : (cW ad cB w)[3]? = some _))) (rx_any_c (rx_hV_ok S ⟨Nat.zero_le _, Nat.zero_le _⟩ cK_tr hK (cwV 0 S.2.2.2.2 (wsA_V wkX2_67 wiX2_kindIsKnown weX2_kindIsKnown winiX2 wX2_kindIsKnown) rfl rfl rfl (by decide +kernel) ⟨by decide, by decide⟩) (ct_X2_kindIsKnown l D ad cB) (fun w H hP => va_recv hK.1 hP (rfl : vwCl[2]? = some (RX2, TX2, 3)) (rfl : (cW ad cB w)[3]? = some _))) (rx_any_c (rx_hV_ok S ⟨Nat.zero_le _, Nat.zero_le _⟩ cK_tr hK (cwV 0 S.2.2.2.2 (wsA_V wkX2_70 wiX2_rowLengthsAreGood weX2_rowLengthsAreGood winiX2 wX2_rowLengthsAreGood) rfl rfl rfl (by decide +kernel) ⟨by decide, by decide⟩) (ct_X2_rowLengthsAreGood l D ad cB) (fun w H hP => va_recv hK.1 hP (rfl : vwCl[2]? = some (RX2, TX2, 3)) (rfl : (cW ad cB w)[3]? = some _))) (rx_any_c (rx_hV_ok S ⟨Nat.zero_le _, Nat.zero_le _⟩ cK_tr hK (cwV 0 S.2.2.2.2 (wsA_V wkX2_73 wiX2_tablesAreGood weX2_tablesAreGood winiX2 wX2_tablesAreGood) rfl rfl rfl (by decide +kernel) ⟨by decide, by decide⟩) (ct_X2_tablesAreGood l D ad cB) (fun w H hP => va_recv hK.1 hP (rfl : vwCl[2]? = some (RX2, TX2, 3)) (rfl : (cW ad cB w)[3]? = some _))) (rx_any_0)))))))
set_option maxHeartbeats 4000000 in
set_option maxRecDepth 100000 in
theorem ct_X2_firstBrokenOfHead (l : Launch) (D : va_G) (ad : Nat → Nat) (cB : ClassId) : ctC l yX2_firstBrokenOfHead cX2_firstBrokenOfHead 1 (some .int) rX2_firstBrokenOfHead D ad cB [.ref (ad 3)] fX2_firstBrokenOfHead := by
  intro w as g w1 r hf hg
  unfold fX2_firstBrokenOfHead at hf
  split at hf
  · cases hf
    exact tr_of rx_nc 0 200 0 (by decide) rfl rfl (Nat.le_of_ble_eq_true rfl) pX2_firstBrokenOfHead_ok (rt_i _) (eo_X2_firstBrokenOfHead l D ad cB) (fun pc g h => by cases h) (by
      simp only [pX2_firstBrokenOfHead, eX2_firstBrokenOfHead, fX2_kindIsKnown, fX2_markBegins, fX2_markGoesOn, fX2_rowLengthsAreGood, fX2_tablesAreGood, rx_n, rx_s, rx_to, rx_get, rx_f1, rx_f2, rx_two, rx_ext, rx_any, rx_hV, rx_hS, rx_hG, rx_hP, rx_hAi, rx_hAb, rx_hL, rx_hLi, rx_got, rx_pop, rx_sum, rx_len, rx_c, rx_m1, lv_args, Value.category, rx_cut_n, rx_cut_1, rx_iconst, rx_bipush, rx_sipush, rx_lconst, rx_iload_n, rx_iload, rx_lload_n, rx_lload, rx_aload_n, rx_aload, rx_istore_n, rx_istore, rx_lstore_n, rx_lstore, rx_astore_n, rx_astore, rx_iinc, rx_iadd, rx_isub, rx_imul, rx_iand, rx_ixor, rx_ishr, rx_idiv, rx_irem, rx_ladd, rx_lsub, rx_land, rx_lor, rx_lxor, rx_lmul, rx_ldiv, rx_lrem, rx_lushr, rx_lshl, rx_lshr, rx_lneg, rx_i2l, rx_l2i, rx_i2b, rx_lcmp, rx_dup_i, rx_dup_a, rx_pop_i, rx_pop_a, rx_if_eq, rx_if_ne, rx_if_lt, rx_if_ge, rx_if_gt, rx_if_le, rx_icmp_eq, rx_icmp_ne, rx_icmp_lt, rx_icmp_ge, rx_icmp_gt, rx_icmp_le, rx_goto, rx_tsw, rx_ireturn, rx_lreturn, rx_return_, rx_getfield, rx_putfield, rx_invokevirtual, rx_invokespecial, rx_invokestatic, rx_ldc, rx_ldc2_w, rx_iaload, rx_iastore, rx_baload, rx_bastore, Nat.reduceBEq, Nat.reduceAdd, Nat.reduceSub, Nat.reduceMul, Nat.reduceLeDiff, Nat.reduceEqDiff, Nat.reduceLT, Int.reduceLT, Int.reduceLE, Int.reduceNeg, Int.reduceToNat, Int.reduceAdd, Fin.isValue, Fin.val_zero, Fin.val_one, Fin.reduceFinMk, Fin.val_ofNat, Bool.or_true, Bool.true_or, Bool.or_false, Bool.false_or, Bool.and_true, Bool.true_and, Bool.and_false, Bool.false_and, cond_true, cond_false, ↓reduceIte, eq_self, ne_eq, not_true_eq_false, not_false_eq_true, true_and, and_true, Option.toList_some, Option.toList_none, List.cons_append, List.nil_append, Option.some.injEq, Value.int.injEq, Value.long.injEq, rx_l0, rx_l1, rx_fv0, rx_fv1, rx_fv2, rx_fv3, nI_c1, nI_c2, nI_c4, nI_c8, nI_c9, nI_c24, nI_c64, Nat.le_refl, bI_z, bI_0, bI_1, Classical.not_not, lg_cmp_ge, lg_cmp_le, lg_cmp_gt, lg_cmp_lt, lg_cmp_eq]
      have hB := bn_le w.1
      rw [nI_leI (by omega) (by omega)]
      refine ⟨fun h => ?_, fun h => ?_⟩
      · simp (disch := omega) only [nu_in, bl_1, zer]
        unfold rH
        rw [if_neg (show ¬ bn w.1 < 64 by omega)]
        refine ⟨fun h2 => ?_, fun h2 => by rw [if_neg (show ¬ q2 w.1 from h2)]⟩
        rw [if_pos (show q2 w.1 from h2)]
        refine ⟨fun h3 => ?_, fun h3 => by rw [if_neg (show ¬ q3 w.1 from h3)]⟩
        rw [if_pos (show q3 w.1 from h3)]
        refine ⟨fun h4 => ?_, fun h4 => by rw [if_neg (show ¬ q4 w.1 from h4)]⟩
        rw [if_pos (show q4 w.1 from h4)]
        refine ⟨fun h5 => ?_, fun h5 => by rw [if_neg (show ¬ q5 w.1 from h5)]⟩
        rw [if_pos (show q5 w.1 from h5)]
        exact ⟨fun h6 => by rw [if_neg (show ¬ q6 w.1 from h6)], fun h6 => by rw [if_pos (show q6 w.1 from h6)]⟩
      · unfold rH
        rw [if_pos (show bn w.1 < 64 by omega)])
  · cases hf
