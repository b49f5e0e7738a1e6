def cJ (ad : Nat → Nat) : Prop := ∀ i j, i < 5 → j < 5 → ad i = ad j → i = j
theorem cW_at {ad : Nat → Nat} {cB : ClassId} {w : cS} {i : Nat} {p : Nat × va_E} (h : (cW ad cB w)[i]? = some p) : i < 5 ∧ p.1 = ad i := by
  match i, h with
  | 0, h => cases h; exact ⟨by decide, rfl⟩
  | 1, h => cases h; exact ⟨by decide, rfl⟩
  | 2, h => cases h; exact ⟨by decide, rfl⟩
  | 3, h => cases h; exact ⟨by decide, rfl⟩
  | 4, h => cases h; exact ⟨by decide, rfl⟩
  | n + 5, h => simp [cW] at h
theorem cD {ad : Nat → Nat} (hj : cJ ad) (cB : ClassId) (w : cS) : va_D (cA ad) (cW ad cB w) := by
  refine ⟨fun i j p q h1 h2 e => ?_, fun k q h => ⟨k, (cW_at h).1, (cW_at h).2⟩⟩
  obtain ⟨a1, a2⟩ := cW_at h1
  obtain ⟨b1, b2⟩ := cW_at h2
  exact hj i j a1 b1 (by rw [← a2, ← b2]; exact e)
/-- the file with another size, with a byte put -/
def bSz (b : bF) (n : Nat) : bF := ⟨(min n 640, bg b), Nat.min_le_right _ _, bg_lt b⟩
def bPut (b : bF) (k v : Nat) : bF := ⟨(bn b, fun i => if i = k then v % 256 else bg b i), bn_le b, fun i => by
  show (if i = k then v % 256 else bg b i) < 256
  split
  · omega
  · exact bg_lt b i⟩
def uB (v : Int32) : Nat := v.toBitVec.toNat % 256
theorem bn_sz {b : bF} {n : Nat} (h : n ≤ 640) : bn (bSz b n) = n := Nat.min_eq_left h
theorem sB_uB (v : Int32) : sB (uB v) = v.toInt8.toInt32 := by
  unfold sB uB
  congr 1
  apply Int8.toBitVec_inj.mp
  apply BitVec.eq_of_toNat_eq
  have e1 : ((nI (v.toBitVec.toNat % 256)).toInt8).toBitVec.toNat = (v.toBitVec.toNat % 256) % 2 ^ 32 % 2 ^ 8 := by
    show (BitVec.signExtend 8 (BitVec.ofNat 32 (v.toBitVec.toNat % 256))).toNat = _
    rw [BitVec.signExtend_eq_setWidth_of_le _ (by decide), BitVec.toNat_setWidth, BitVec.toNat_ofNat]
  have e2 : (v.toInt8).toBitVec.toNat = v.toBitVec.toNat % 2 ^ 8 := by
    show (BitVec.signExtend 8 v.toBitVec).toNat = _
    rw [BitVec.signExtend_eq_setWidth_of_le _ (by decide), BitVec.toNat_setWidth]
  rw [e1, e2]
  omega
theorem cW_sz {ad : Nat → Nat} {cB : ClassId} {w : cS} {z : Int32} (h1 : z.toNatClampNeg ≤ 640) (h2 : nI z.toNatClampNeg = z) : cW ad cB (bSz w.1 z.toNatClampNeg, w.2) = (cW ad cB w).set 1 (ad 1, .inr (1, ([.ref (ad 4), .int (nI (bn w.1))] : List Value).set 1 (.int z))) := by
  show [_, (ad 1, Sum.inr (1, [Value.ref (ad 4), Value.int (nI (bn (bSz w.1 z.toNatClampNeg)))])), _, _, _] = [_, _, _, _, _]
  rw [bn_sz h1, h2]
  rfl
theorem cW_bp {ad : Nat → Nat} {cB : ClassId} {w : cS} {k : Nat} {v : Int32} : cW ad cB (bPut w.1 k (uB v), w.2) = (cW ad cB w).set 4 (ad 4, .inl (cB, 640, .inl (upd (fun k => sB (bg w.1 k)) k (vp_nar .byte v)))) := by
  have e : (fun i => sB (bg (bPut w.1 k (uB v)) i)) = upd (fun k => sB (bg w.1 k)) k (vp_nar .byte v) := by
    funext i
    show sB (if i = k then uB v % 256 else bg w.1 i) = upd (fun k => sB (bg w.1 k)) k (vp_nar .byte v) i
    unfold upd
    split
    · rw [vp_nar_byte, ← sB_uB v]
      unfold uB
      rw [Nat.mod_mod]
    · rfl
  show [_, _, _, _, (ad 4, Sum.inl (cB, 640, Sum.inl (fun i => sB (bg (bPut w.1 k (uB v)) i))))] = [_, _, _, _, _]
  rw [e]
  rfl
theorem nar1 : (narrow FieldType.boolean (.int (nI 1)) = .int (nI 1)) = True := eq_true rfl
theorem nar0 : (narrow FieldType.boolean (.int (nI 0)) = .int (nI 0)) = True := eq_true rfl
theorem rH_t6 {b : bF} (h : rH b = 0) : t6 b := by
  unfold rH at h
  by_cases h1 : bn b < 64
  · rw [if_pos h1] at h; cases h
  rw [if_neg h1] at h
  by_cases h2 : q2 b
  · rw [if_pos h2] at h
    by_cases h3 : q3 b
    · rw [if_pos h3] at h
      by_cases h4 : q4 b
      · rw [if_pos h4] at h
        by_cases h5 : q5 b
        · rw [if_pos h5] at h
          by_cases h6 : q6 b
          · obtain ⟨a1, a2, _⟩ := h6
            exact ⟨by omega, by omega, by omega⟩
          · rw [if_neg h6] at h; cases h
        · rw [if_neg h5] at h; cases h
      · rw [if_neg h4] at h; cases h
    · rw [if_neg h3] at h; cases h
  · rw [if_neg h2] at h; cases h
theorem rH_lt (b : bF) : rH b < 7 := by
  unfold rH
  repeat' split
  all_goals omega
theorem bn_put (b : bF) (k v : Nat) : bn (bPut b k v) = bn b := rfl
theorem nI_c0 : (nI 0).toNatClampNeg = 0 := by decide
theorem oI_m1 {P : Nat → Prop} {c : Nat} (hc : c < 65536) (h : oI P c = -1) : ∀ i, i < c → ¬ P i := by
  unfold oI at h
  by_cases q : fi P c < c
  · rw [if_pos q] at h
    exact absurd h (nI_nm1 (by omega))
  · have := fi_le P c
    exact fi_all (by omega)
def pX2_tells : rx_P := [(0, .aload_n 0, 0), (1, .iload_n 1, 0), (2, .putfield 19, 0), (5, .iload_n 1, 0), (6, .iconst (-1), 0), (7, .if_icmp .eq 7, 14), (10, .iconst 1, 0), (11, .goto 4, 15), (14, .iconst 0, 0), (15, .ireturn, 0)]
theorem pX2_tells_ok : ∀ q ∈ pX2_tells, rx_ok cX2_tells q := rx_ok_all (by decide +kernel)
abbrev rX2_tells : Room := { frames := 0, cells := 0, slots := 0, locals := 0 }
noncomputable def fX2_tells : rx_F cS := fun w as => match as with
  | [.int k] => some (True, (w.1, w.2.1, w.2.2.1, k), some (.int (bI (¬ k = -1))))
  | _ => none
noncomputable def eX2_tells (ad : Nat → Nat) : rx_E cS := rx_any [rx_hP 19 (ad 3) (fun w v => match v with | .int z => some (True, (w.1, w.2.1, w.2.2.1, z)) | _ => none)]
set_option maxHeartbeats 4000000 in
set_option maxRecDepth 100000 in
theorem eo_X2_tells (l : Launch) (D : va_G) (ad : Nat → Nat) (cB : ClassId) (hj : cJ ad) : ∀ (p : Program) (e : Env) (s : State) (m : MethodId) (args : Array Value) (below : List Frame) (meth : Method) (c : Code) (Qw : State → Prop), CallFix p m c cX2_tells 2 s args (Cond.code yX2_tells cX2_tells 2 (some .boolean) :: wsA) RX2 → cK D cB s → rx_Eok (fun H locs g => W p l e rX2_tells s m args below meth c H locs 0 0 Qw g) m cX2_tells 2 (tr_I D vwCl (cA ad) s (cW ad cB)) (eX2_tells ad) := by
  intro p e s m args below meth c Qw S hK
  have ht : ∀ w ∈ wsA, w.before args s = true := fun w h => S.2.2.2.2 w (wsA_in h)
  exact rx_any_c (rx_hP_ok (fun w v g w1 H locs pc ls rest hfv hg hI hd kk => by
    cases v with
    | int z =>
      cases hfv
      exact va_put (D := D) (ci := 2) (ty := .int) (C := RX2) (T := TX2) (N := 3) S.1 S.2.1 ht inX2 tyX2 tyX2_ok nmX2 S.2.2.2.1 hK.1 hI.1 (cD hj cB w) hI.2 3 rfl rfl 2 (by decide) (ht _ wfX2_19) (fun _ h9 => h9) rfl (by decide +kernel) rfl rfl (Nat.le_of_ble_eq_true rfl) hd (fun H1 locs1 hP _ hS => kk H1 locs1 ⟨hP, hS⟩)
    | _ => cases hfv)) (rx_any_0)
set_option maxHeartbeats 4000000 in
set_option maxRecDepth 100000 in
theorem ct_X2_tells (l : Launch) (D : va_G) (ad : Nat → Nat) (cB : ClassId) (hj : cJ ad) : ctC l yX2_tells cX2_tells 2 (some .boolean) rX2_tells D ad cB [.ref (ad 3)] fX2_tells := by
  intro w as g w1 r hf hg
  unfold fX2_tells at hf
  split at hf
  · next k =>
    cases hf
    exact tr_of rx_nc 0 200 0 (by decide) rfl rfl (Nat.le_of_ble_eq_true rfl) pX2_tells_ok (rt_z _) (eo_X2_tells l D ad cB hj) (fun pc g h => by cases h) (by
      simp only [pX2_tells, eX2_tells, rx_n, rx_s, rx_to, rx_get, rx_f1, rx_f2, rx_two, rx_ext, rx_any, rx_hV, rx_hS, rx_hG, rx_hP, rx_hAi, rx_hAb, rx_hBb, rx_hBi, rx_hL, rx_hLi, rx_got, rx_pop, rx_sum, rx_len, rx_c, rx_m1, lv_args, Value.category, rx_cut_n, rx_cut_1, rx_iconst, rx_bipush, rx_sipush, rx_lconst, rx_iload_n, rx_iload, rx_lload_n, rx_lload, rx_aload_n, rx_aload, rx_istore_n, rx_istore, rx_lstore_n, rx_lstore, rx_astore_n, rx_astore, rx_iinc, rx_iadd, rx_isub, rx_imul, rx_iand, rx_ixor, rx_ishr, rx_idiv, rx_irem, rx_ladd, rx_lsub, rx_land, rx_lor, rx_lxor, rx_lmul, rx_ldiv, rx_lrem, rx_lushr, rx_lshl, rx_lshr, rx_lneg, rx_i2l, rx_l2i, rx_i2b, rx_lcmp, rx_dup_i, rx_dup_a, rx_pop_i, rx_pop_a, rx_if_eq, rx_if_ne, rx_if_lt, rx_if_ge, rx_if_gt, rx_if_le, rx_icmp_eq, rx_icmp_ne, rx_icmp_lt, rx_icmp_ge, rx_icmp_gt, rx_icmp_le, rx_goto, rx_tsw, rx_ireturn, rx_lreturn, rx_return_, rx_getfield, rx_putfield, rx_invokevirtual, rx_invokespecial, rx_invokestatic, rx_ldc, rx_ldc2_w, rx_iaload, rx_iastore, rx_baload, rx_bastore, Nat.reduceBEq, Nat.reduceAdd, Nat.reduceSub, Nat.reduceMul, Nat.reduceLeDiff, Nat.reduceEqDiff, Nat.reduceLT, Int.reduceLT, Int.reduceLE, Int.reduceNeg, Int.reduceToNat, Int.reduceAdd, Fin.isValue, Fin.val_zero, Fin.val_one, Fin.reduceFinMk, Fin.val_ofNat, Bool.or_true, Bool.true_or, Bool.or_false, Bool.false_or, Bool.and_true, Bool.true_and, Bool.and_false, Bool.false_and, cond_true, cond_false, ↓reduceIte, eq_self, ne_eq, not_true_eq_false, not_false_eq_true, true_and, and_true, Option.toList_some, Option.toList_none, List.cons_append, List.nil_append, Option.some.injEq, Value.int.injEq, Value.long.injEq, rx_l0, rx_l1, rx_fv0, rx_fv1, rx_fv2, rx_fv3, nI_c1, nI_c2, nI_c4, nI_c8, nI_c9, nI_c24, nI_c64, Nat.le_refl, bI_z, bI_0, bI_1, Classical.not_not, lg_cmp_ge, lg_cmp_le, lg_cmp_gt, lg_cmp_lt, lg_cmp_eq]
      exact ⟨fun h => h, fun h => h⟩)
  · cases hf
def pX2_firstBroken : rx_P := [(0, .aload_n 0, 0), (1, .iconst (-1), 0), (2, .putfield 19, 0), (5, .aload_n 0, 0), (6, .invokevirtual 23, 0), (9, .istore_n 1, 0), (10, .iload_n 1, 0), (11, .ifCond .eq 5, 16), (14, .iload_n 1, 0), (15, .ireturn, 0), (16, .aload_n 0, 0), (17, .aload_n 0, 0), (18, .invokevirtual 27, 0), (21, .invokevirtual 30, 0), (24, .ifCond .eq 6, 30), (27, .bipush 7, 0), (29, .ireturn, 0), (30, .aload_n 0, 0), (31, .aload_n 0, 0), (32, .invokevirtual 34, 0), (35, .invokevirtual 30, 0), (38, .ifCond .eq 6, 44), (41, .bipush 8, 0), (43, .ireturn, 0), (44, .aload_n 0, 0), (45, .aload_n 0, 0), (46, .invokevirtual 37, 0), (49, .invokevirtual 30, 0), (52, .ifCond .eq 6, 58), (55, .bipush 9, 0), (57, .ireturn, 0), (58, .aload_n 0, 0), (59, .aload_n 0, 0), (60, .invokevirtual 40, 0), (63, .invokevirtual 30, 0), (66, .ifCond .eq 6, 72), (69, .bipush 10, 0), (71, .ireturn, 0), (72, .aload_n 0, 0), (73, .aload_n 0, 0), (74, .invokevirtual 43, 0), (77, .invokevirtual 30, 0), (80, .ifCond .eq 6, 86), (83, .bipush 11, 0), (85, .ireturn, 0), (86, .aload_n 0, 0), (87, .aload_n 0, 0), (88, .invokevirtual 46, 0), (91, .invokevirtual 30, 0), (94, .ifCond .eq 6, 100), (97, .bipush 12, 0), (99, .ireturn, 0), (100, .aload_n 0, 0), (101, .aload_n 0, 0), (102, .invokevirtual 49, 0), (105, .invokevirtual 30, 0), (108, .ifCond .eq 6, 114), (111, .bipush 13, 0), (113, .ireturn, 0), (114, .aload_n 0, 0), (115, .invokevirtual 52, 0), (118, .ifCond .eq 7, 125), (121, .iconst 0, 0), (122, .goto 5, 127), (125, .bipush 14, 0), (127, .ireturn, 0)]
theorem pX2_firstBroken_ok : ∀ q ∈ pX2_firstBroken, rx_ok cX2_firstBroken q := rx_ok_all (by decide +kernel)
abbrev rX2_firstBroken : Room := { frames := 5, cells := 0, slots := 0, locals := 123 }
noncomputable def fX2_firstBroken : rx_F cS := fun w as => match as with
  | [] => some (True, (w.1, w.2.1, w.2.2.1, (vD w.1).2), some (.int (vD w.1).1))
  | _ => none
noncomputable def eX2_firstBroken (ad : Nat → Nat) : rx_E cS := rx_any [rx_hP 19 (ad 3) (fun w v => match v with | .int z => some (True, (w.1, w.2.1, w.2.2.1, z)) | _ => none), rx_hV 23 0 (ad 3) fX2_firstBrokenOfHead, rx_hV 27 0 (ad 3) fX2_badSegment, rx_hV 30 1 (ad 3) fX2_tells, rx_hV 34 0 (ad 3) fX2_sinkingSegment, rx_hV 37 0 (ad 3) fX2_badSection, rx_hV 40 0 (ad 3) fX2_overlappingSection, rx_hV 43 0 (ad 3) fX2_badlyNamedSection, rx_hV 46 0 (ad 3) fX2_badSymbolsSection, rx_hV 49 0 (ad 3) fX2_sectionOfBadSymbol, rx_hV 52 0 (ad 3) fX2_entryIsGood]
set_option maxHeartbeats 4000000 in
set_option maxRecDepth 100000 in
theorem eo_X2_firstBroken (l : Launch) (D : va_G) (ad : Nat → Nat) (cB : ClassId) (hj : cJ ad) : ∀ (p : Program) (e : Env) (s : State) (m : MethodId) (args : Array Value) (below : List Frame) (meth : Method) (c : Code) (Qw : State → Prop), CallFix p m c cX2_firstBroken 2 s args (Cond.code yX2_firstBroken cX2_firstBroken 2 (some .int) :: wsA) RX2 → cK D cB s → rx_Eok (fun H locs g => W p l e rX2_firstBroken s m args below meth c H locs 0 0 Qw g) m cX2_firstBroken 2 (tr_I D vwCl (cA ad) s (cW ad cB)) (eX2_firstBroken ad) := by
  intro p e s m args below meth c Qw S hK
  have ht : ∀ w ∈ wsA, w.before args s = true := fun w h => S.2.2.2.2 w (wsA_in h)
  exact rx_any_c (rx_hP_ok (fun w v g w1 H locs pc ls rest hfv hg hI hd kk => by
    cases v with
    | int z =>
      cases hfv
      exact va_put (D := D) (ci := 2) (ty := .int) (C := RX2) (T := TX2) (N := 3) S.1 S.2.1 ht inX2 tyX2 tyX2_ok nmX2 S.2.2.2.1 hK.1 hI.1 (cD hj cB w) hI.2 3 rfl rfl 2 (by decide) (ht _ wfX2_19) (fun _ h9 => h9) rfl (by decide +kernel) rfl rfl (Nat.le_of_ble_eq_true rfl) hd (fun H1 locs1 hP _ hS => kk H1 locs1 ⟨hP, hS⟩)
    | _ => cases hfv)) (rx_any_c (rx_hV_ok S ⟨Nat.zero_le _, Nat.zero_le _⟩ cK_tr hK (cwV 0 S.2.2.2.2 (wsA_V wkX2_23 wiX2_firstBrokenOfHead weX2_firstBrokenOfHead winiX2 wX2_firstBrokenOfHead) rfl rfl rfl (by decide +kernel) ⟨by decide, by decide⟩) (ct_X2_firstBrokenOfHead l D ad cB) (fun w H hP => va_recv hK.1 hP (rfl : vwCl[2]? = some (RX2, TX2, 3)) (rfl : (cW ad cB w)[3]? = some _))) (rx_any_c (rx_hV_ok S ⟨Nat.zero_le _, Nat.zero_le _⟩ cK_tr hK (cwV 0 S.2.2.2.2 (wsA_V wkX2_27 wiX2_badSegment weX2_badSegment winiX2 wX2_badSegment) rfl rfl rfl (by decide +kernel) ⟨by decide, by decide⟩) (ct_X2_badSegment l D ad cB) (fun w H hP => va_recv hK.1 hP (rfl : vwCl[2]? = some (RX2, TX2, 3)) (rfl : (cW ad cB w)[3]? = some _))) (rx_any_c (rx_hV_ok S ⟨Nat.zero_le _, Nat.zero_le _⟩ cK_tr hK (cwV 1 S.2.2.2.2 (wsA_V wkX2_30 wiX2_tells weX2_tells winiX2 wX2_tells) rfl rfl rfl (by decide +kernel) ⟨by decide, by decide⟩) (ct_X2_tells l D ad cB hj) (fun w H hP => va_recv hK.1 hP (rfl : vwCl[2]? = some (RX2, TX2, 3)) (rfl : (cW ad cB w)[3]? = some _))) (rx_any_c (rx_hV_ok S ⟨Nat.zero_le _, Nat.zero_le _⟩ cK_tr hK (cwV 0 S.2.2.2.2 (wsA_V wkX2_34 wiX2_sinkingSegment weX2_sinkingSegment winiX2 wX2_sinkingSegment) rfl rfl rfl (by decide +kernel) ⟨by decide, by decide⟩) (ct_X2_sinkingSegment l D ad cB) (fun w H hP => va_recv hK.1 hP (rfl : vwCl[2]? = some (RX2, TX2, 3)) (rfl : (cW ad cB w)[3]? = some _))) (rx_any_c (rx_hV_ok S ⟨Nat.zero_le _, Nat.zero_le _⟩ cK_tr hK (cwV 0 S.2.2.2.2 (wsA_V wkX2_37 wiX2_badSection weX2_badSection winiX2 wX2_badSection) rfl rfl rfl (by decide +kernel) ⟨by decide, by decide⟩) (ct_X2_badSection l D ad cB) (fun w H hP => va_recv hK.1 hP (rfl : vwCl[2]? = some (RX2, TX2, 3)) (rfl : (cW ad cB w)[3]? = some _))) (rx_any_c (rx_hV_ok S ⟨Nat.zero_le _, Nat.zero_le _⟩ cK_tr hK (cwV 0 S.2.2.2.2 (wsA_V wkX2_40 wiX2_overlappingSection weX2_overlappingSection winiX2 wX2_overlappingSection) rfl rfl rfl (by decide +kernel) ⟨by decide, by decide⟩) (ct_X2_overlappingSection l D ad cB) (fun w H hP => va_recv hK.1 hP (rfl : vwCl[2]? = some (RX2, TX2, 3)) (rfl : (cW ad cB w)[3]? = some _))) (rx_any_c (rx_hV_ok S ⟨Nat.zero_le _, Nat.zero_le _⟩ cK_tr hK (cwV 0 S.2.2.2.2 (wsA_V wkX2_43 wiX2_badlyNamedSection weX2_badlyNamedSection winiX2 wX2_badlyNamedSection) rfl rfl rfl (by decide +kernel) ⟨by decide, by decide⟩) (ct_X2_badlyNamedSection l D ad cB) (fun w H hP => va_recv hK.1 hP (rfl : vwCl[2]? = some (RX2, TX2, 3)) (rfl : (cW ad cB w)[3]? = some _))) (rx_any_c (rx_hV_ok S ⟨Nat.zero_le _, Nat.zero_le _⟩ cK_tr hK (cwV 0 S.2.2.2.2 (wsA_V wkX2_46 wiX2_badSymbolsSection weX2_badSymbolsSection winiX2 wX2_badSymbolsSection) rfl rfl rfl (by decide +kernel) ⟨by decide, by decide⟩) (ct_X2_badSymbolsSection l D ad cB) (fun w H hP => va_recv hK.1 hP (rfl : vwCl[2]? = some (RX2, TX2, 3)) (rfl : (cW ad cB w)[3]? = some _))) (rx_any_c (rx_hV_ok S ⟨Nat.zero_le _, Nat.zero_le _⟩ cK_tr hK (cwV 0 S.2.2.2.2 (wsA_V wkX2_49 wiX2_sectionOfBadSymbol weX2_sectionOfBadSymbol winiX2 wX2_sectionOfBadSymbol) rfl rfl rfl (by decide +kernel) ⟨by decide, by decide⟩) (ct_X2_sectionOfBadSymbol l D ad cB) (fun w H hP => va_recv hK.1 hP (rfl : vwCl[2]? = some (RX2, TX2, 3)) (rfl : (cW ad cB w)[3]? = some _))) (rx_any_c (rx_hV_ok S ⟨Nat.zero_le _, Nat.zero_le _⟩ cK_tr hK (cwV 0 S.2.2.2.2 (wsA_V wkX2_52 wiX2_entryIsGood weX2_entryIsGood winiX2 wX2_entryIsGood) rfl rfl rfl (by decide +kernel) ⟨by decide, by decide⟩) (ct_X2_entryIsGood l D ad cB) (fun w H hP => va_recv hK.1 hP (rfl : vwCl[2]? = some (RX2, TX2, 3)) (rfl : (cW ad cB w)[3]? = some _))) (rx_any_0)))))))))))
set_option maxHeartbeats 4000000 in
set_option maxRecDepth 100000 in
theorem ct_X2_firstBroken (l : Launch) (D : va_G) (ad : Nat → Nat) (cB : ClassId) (hj : cJ ad) : ctC l yX2_firstBroken cX2_firstBroken 2 (some .int) rX2_firstBroken D ad cB [.ref (ad 3)] fX2_firstBroken := by
  intro w as g w1 r hf hg
  unfold fX2_firstBroken at hf
  split at hf
  · cases hf
    exact tr_of rx_nc 0 200 0 (by decide) rfl rfl (Nat.le_of_ble_eq_true rfl) pX2_firstBroken_ok (rt_i _) (eo_X2_firstBroken l D ad cB hj) (fun pc g h => by cases h) (by
      simp only [pX2_firstBroken, eX2_firstBroken, fX2_badSection, fX2_badSegment, fX2_badSymbolsSection, fX2_badlyNamedSection, fX2_entryIsGood, fX2_firstBrokenOfHead, fX2_overlappingSection, fX2_sectionOfBadSymbol, fX2_sinkingSegment, fX2_tells, rx_n, rx_s, rx_to, rx_get, rx_f1, rx_f2, rx_two, rx_ext, rx_any, rx_hV, rx_hS, rx_hG, rx_hP, rx_hAi, rx_hAb, rx_hBb, rx_hBi, rx_hL, rx_hLi, rx_got, rx_pop, rx_sum, rx_len, rx_c, rx_m1, lv_args, Value.category, rx_cut_n, rx_cut_1, rx_iconst, rx_bipush, rx_sipush, rx_lconst, rx_iload_n, rx_iload, rx_lload_n, rx_lload, rx_aload_n, rx_aload, rx_istore_n, rx_istore, rx_lstore_n, rx_lstore, rx_astore_n, rx_astore, rx_iinc, rx_iadd, rx_isub, rx_imul, rx_iand, rx_ixor, rx_ishr, rx_idiv, rx_irem, rx_ladd, rx_lsub, rx_land, rx_lor, rx_lxor, rx_lmul, rx_ldiv, rx_lrem, rx_lushr, rx_lshl, rx_lshr, rx_lneg, rx_i2l, rx_l2i, rx_i2b, rx_lcmp, rx_dup_i, rx_dup_a, rx_pop_i, rx_pop_a, rx_if_eq, rx_if_ne, rx_if_lt, rx_if_ge, rx_if_gt, rx_if_le, rx_icmp_eq, rx_icmp_ne, rx_icmp_lt, rx_icmp_ge, rx_icmp_gt, rx_icmp_le, rx_goto, rx_tsw, rx_ireturn, rx_lreturn, rx_return_, rx_getfield, rx_putfield, rx_invokevirtual, rx_invokespecial, rx_invokestatic, rx_ldc, rx_ldc2_w, rx_iaload, rx_iastore, rx_baload, rx_bastore, Nat.reduceBEq, Nat.reduceAdd, Nat.reduceSub, Nat.reduceMul, Nat.reduceLeDiff, Nat.reduceEqDiff, Nat.reduceLT, Int.reduceLT, Int.reduceLE, Int.reduceNeg, Int.reduceToNat, Int.reduceAdd, Fin.isValue, Fin.val_zero, Fin.val_one, Fin.reduceFinMk, Fin.val_ofNat, Bool.or_true, Bool.true_or, Bool.or_false, Bool.false_or, Bool.and_true, Bool.true_and, Bool.and_false, Bool.false_and, cond_true, cond_false, ↓reduceIte, eq_self, ne_eq, not_true_eq_false, not_false_eq_true, true_and, and_true, Option.toList_some, Option.toList_none, List.cons_append, List.nil_append, Option.some.injEq, Value.int.injEq, Value.long.injEq, rx_l0, rx_l1, rx_fv0, rx_fv1, rx_fv2, rx_fv3, nI_c1, nI_c2, nI_c4, nI_c8, nI_c9, nI_c24, nI_c64, Nat.le_refl, bI_z, bI_0, bI_1, Classical.not_not, lg_cmp_ge, lg_cmp_le, lg_cmp_gt, lg_cmp_lt, lg_cmp_eq]
      have hH := rH_lt w.1
      have hsC := sC_lt w.1
      rw [nI_z (by omega)]
      refine ⟨fun h0 => ?_, fun h0 => ?_⟩
      · have h6 := rH_t6 h0
        have z0 : ¬ rH w.1 ≠ 0 := fun q => q h0
        refine ⟨h6, fun a7 => ?_, fun a7 => ?_⟩
        · have z7 : ¬ oI (q7 w.1) (gC w.1) ≠ -1 := fun q => q a7
          refine ⟨h6, fun a8 => ?_, fun a8 => ?_⟩
          · have z8 : ¬ oI (q8 w.1) (gC w.1) ≠ -1 := fun q => q a8
            refine ⟨h6, fun a9 => ?_, fun a9 => ?_⟩
            · have z9 : ¬ oI (q9 w.1) (sC w.1) ≠ -1 := fun q => q a9
              have h9 : t9 w.1 := ⟨h6, oI_m1 hsC a9⟩
              refine ⟨h9, fun a10 => ?_, fun a10 => ?_⟩
              · have z10 : ¬ oI (q10 w.1) (sC w.1) ≠ -1 := fun q => q a10
                refine ⟨h9, fun a11 => ?_, fun a11 => ?_⟩
                · have z11 : ¬ r11 w.1 ≠ -1 := fun q => q a11
                  refine ⟨h9, fun a12 => ?_, fun a12 => ?_⟩
                  · have z12 : ¬ oI (q12 w.1) (sC w.1) ≠ -1 := fun q => q a12
                    refine ⟨⟨h9, oI_m1 hsC a12⟩, fun a13 => ?_, fun a13 => ?_⟩
                    · have z13 : ¬ oI (q13 w.1) (sC w.1) ≠ -1 := fun q => q a13
                      refine ⟨h6, ?_⟩
                      rw [a13]
                      constructor <;> intro a14
                      · first
                        | (have e : vD w.1 = (nI 0, -1) := by unfold vD; rw [if_neg z0, if_neg z7, if_neg z8, if_neg z9, if_neg z10, if_neg z11, if_neg z12, if_neg z13, if_pos a14]
                           rw [e]; exact ⟨rfl, rfl⟩)
                        | (have e : vD w.1 = (nI 14, -1) := by unfold vD; rw [if_neg z0, if_neg z7, if_neg z8, if_neg z9, if_neg z10, if_neg z11, if_neg z12, if_neg z13, if_neg a14]
                           rw [e]; exact ⟨rfl, rfl⟩)
                      · first
                        | (have e : vD w.1 = (nI 0, -1) := by unfold vD; rw [if_neg z0, if_neg z7, if_neg z8, if_neg z9, if_neg z10, if_neg z11, if_neg z12, if_neg z13, if_pos a14]
                           rw [e]; exact ⟨rfl, rfl⟩)
                        | (have e : vD w.1 = (nI 14, -1) := by unfold vD; rw [if_neg z0, if_neg z7, if_neg z8, if_neg z9, if_neg z10, if_neg z11, if_neg z12, if_neg z13, if_neg a14]
                           rw [e]; exact ⟨rfl, rfl⟩)
                    · have e : vD w.1 = (nI 13, oI (q13 w.1) (sC w.1)) := by unfold vD; rw [if_neg z0, if_neg z7, if_neg z8, if_neg z9, if_neg z10, if_neg z11, if_neg z12, if_pos a13]
                      rw [e]; exact ⟨rfl, rfl⟩
                  · have e : vD w.1 = (nI 12, oI (q12 w.1) (sC w.1)) := by unfold vD; rw [if_neg z0, if_neg z7, if_neg z8, if_neg z9, if_neg z10, if_neg z11, if_pos a12]
                    rw [e]; exact ⟨rfl, rfl⟩
                · have e : vD w.1 = (nI 11, r11 w.1) := by unfold vD; rw [if_neg z0, if_neg z7, if_neg z8, if_neg z9, if_neg z10, if_pos a11]
                  rw [e]; exact ⟨rfl, rfl⟩
              · have e : vD w.1 = (nI 10, oI (q10 w.1) (sC w.1)) := by unfold vD; rw [if_neg z0, if_neg z7, if_neg z8, if_neg z9, if_pos a10]
                rw [e]; exact ⟨rfl, rfl⟩
            · have e : vD w.1 = (nI 9, oI (q9 w.1) (sC w.1)) := by unfold vD; rw [if_neg z0, if_neg z7, if_neg z8, if_pos a9]
              rw [e]; exact ⟨rfl, rfl⟩
          · have e : vD w.1 = (nI 8, oI (q8 w.1) (gC w.1)) := by unfold vD; rw [if_neg z0, if_neg z7, if_pos a8]
            rw [e]; exact ⟨rfl, rfl⟩
        · have e : vD w.1 = (nI 7, oI (q7 w.1) (gC w.1)) := by unfold vD; rw [if_neg z0, if_pos a7]
          rw [e]; exact ⟨rfl, rfl⟩
      · have e : vD w.1 = (nI (rH w.1), -1) := by unfold vD; rw [if_pos h0]
        rw [e]; exact ⟨rfl, rfl⟩)
  · cases hf
def pX1_add : rx_P := [(0, .aload_n 0, 0), (1, .getfield 15, 0), (4, .sipush 640, 0), (7, .if_icmp .ge 23, 30), (10, .aload_n 0, 0), (11, .getfield 9, 0), (14, .aload_n 0, 0), (15, .getfield 15, 0), (18, .iload_n 1, 0), (19, .bastore, 0), (20, .aload_n 0, 0), (21, .dup, 0), (22, .getfield 15, 0), (25, .iconst 1, 0), (26, .iadd, 0), (27, .putfield 15, 0), (30, .return_, 0)]
theorem pX1_add_ok : ∀ q ∈ pX1_add, rx_ok cX1_add q := rx_ok_all (by decide +kernel)
abbrev rX1_add : Room := { frames := 0, cells := 0, slots := 0, locals := 0 }
noncomputable def fX1_add : rx_F cS := fun w as => match as with
  | [.int v] => some (bn w.1 < 640, (bSz (bPut w.1 (bn w.1) (uB v)) (bn w.1 + 1), w.2), none)
  | _ => none
noncomputable def eX1_add (ad : Nat → Nat) : rx_E cS := rx_any [rx_hG 15 (ad 1) (fun w => .int (nI (bn w.1))), rx_hG 9 (ad 1) (fun w => .ref (ad 4)), rx_hBb (ad 4) 640 (fun w k v => (bPut w.1 k (uB v), w.2)), rx_hP 15 (ad 1) (fun w v => match v with | .int z => some (z.toNatClampNeg ≤ 640 ∧ nI z.toNatClampNeg = z, (bSz w.1 z.toNatClampNeg, w.2)) | _ => none)]
set_option maxHeartbeats 4000000 in
set_option maxRecDepth 100000 in
theorem eo_X1_add (l : Launch) (D : va_G) (ad : Nat → Nat) (cB : ClassId) (hj : cJ ad) : ∀ (p : Program) (e : Env) (s : State) (m : MethodId) (args : Array Value) (below : List Frame) (meth : Method) (c : Code) (Qw : State → Prop), CallFix p m c cX1_add 2 s args (Cond.code yX1_add cX1_add 2 none :: wsA) RX1 → cK D cB s → rx_Eok (fun H locs g => W p l e rX1_add s m args below meth c H locs 0 0 Qw g) m cX1_add 2 (tr_I D vwCl (cA ad) s (cW ad cB)) (eX1_add ad) := by
  intro p e s m args below meth c Qw S hK
  have ht : ∀ w ∈ wsA, w.before args s = true := fun w h => S.2.2.2.2 w (wsA_in h)
  exact rx_any_c (rx_hG_ok (fun w H locs pc ls rest hI hd k => va_get (D := D) (ci := 1) (C := RX1) (T := TX1) (N := 2) S.1 S.2.1 ht inX1 S.2.2.2.1 hK.1 hI.1 1 rfl rfl 1 (by decide) (ht _ wfX1_15) (fun _ h9 => h9) rfl hd k)) (rx_any_c (rx_hG_ok (fun w H locs pc ls rest hI hd k => va_get (D := D) (ci := 1) (C := RX1) (T := TX1) (N := 2) S.1 S.2.1 ht inX1 S.2.2.2.1 hK.1 hI.1 1 rfl rfl 0 (by decide) (ht _ wfX1_9) (fun _ h9 => h9) rfl hd k)) (rx_any_c (rx_hBb_ok (fun w H locs pc ls rest x v hI hin hd kk => va_bast S.1 S.2.1 hK.1 hI.1 (cD hj cB w) hI.2 4 0 rfl rfl hin hd (fun H1 locs1 hP _ hS => kk H1 locs1 ⟨by rw [cW_bp]; exact hP, hS⟩))) (rx_any_c (rx_hP_ok (fun w v g w1 H locs pc ls rest hfv hg hI hd kk => by
    cases v with
    | int z =>
      cases hfv
      exact va_put (D := D) (ci := 1) (ty := .int) (C := RX1) (T := TX1) (N := 2) S.1 S.2.1 ht inX1 tyX1 tyX1_ok nmX1 S.2.2.2.1 hK.1 hI.1 (cD hj cB w) hI.2 1 rfl rfl 1 (by decide) (ht _ wfX1_15) (fun _ h9 => h9) rfl (by decide +kernel) rfl rfl (Nat.le_of_ble_eq_true rfl) hd (fun H1 locs1 hP _ hS => kk H1 locs1 ⟨by rw [cW_sz hg.1 hg.2]; exact hP, hS⟩)
    | _ => cases hfv)) (rx_any_0))))
set_option maxHeartbeats 4000000 in
set_option maxRecDepth 100000 in
theorem ct_X1_add (l : Launch) (D : va_G) (ad : Nat → Nat) (cB : ClassId) (hj : cJ ad) : ctC l yX1_add cX1_add 2 none rX1_add D ad cB [.ref (ad 1)] fX1_add := by
  intro w as g w1 r hf hg
  unfold fX1_add at hf
  split at hf
  · next v =>
    cases hf
    exact tr_of rx_nc 0 200 0 (by decide) rfl rfl (Nat.le_of_ble_eq_true rfl) pX1_add_ok (rt_v) (eo_X1_add l D ad cB hj) (fun pc g h => by cases h) (by
      simp only [pX1_add, eX1_add, rx_n, rx_s, rx_to, rx_get, rx_f1, rx_f2, rx_two, rx_ext, rx_any, rx_hV, rx_hS, rx_hG, rx_hP, rx_hAi, rx_hAb, rx_hBb, rx_hBi, rx_hL, rx_hLi, rx_got, rx_pop, rx_sum, rx_len, rx_c, rx_m1, lv_args, Value.category, rx_cut_n, rx_cut_1, rx_iconst, rx_bipush, rx_sipush, rx_lconst, rx_iload_n, rx_iload, rx_lload_n, rx_lload, rx_aload_n, rx_aload, rx_istore_n, rx_istore, rx_lstore_n, rx_lstore, rx_astore_n, rx_astore, rx_iinc, rx_iadd, rx_isub, rx_imul, rx_iand, rx_ixor, rx_ishr, rx_idiv, rx_irem, rx_ladd, rx_lsub, rx_land, rx_lor, rx_lxor, rx_lmul, rx_ldiv, rx_lrem, rx_lushr, rx_lshl, rx_lshr, rx_lneg, rx_i2l, rx_l2i, rx_i2b, rx_lcmp, rx_dup_i, rx_dup_a, rx_pop_i, rx_pop_a, rx_if_eq, rx_if_ne, rx_if_lt, rx_if_ge, rx_if_gt, rx_if_le, rx_icmp_eq, rx_icmp_ne, rx_icmp_lt, rx_icmp_ge, rx_icmp_gt, rx_icmp_le, rx_goto, rx_tsw, rx_ireturn, rx_lreturn, rx_return_, rx_getfield, rx_putfield, rx_invokevirtual, rx_invokespecial, rx_invokestatic, rx_ldc, rx_ldc2_w, rx_iaload, rx_iastore, rx_baload, rx_bastore, Nat.reduceBEq, Nat.reduceAdd, Nat.reduceSub, Nat.reduceMul, Nat.reduceLeDiff, Nat.reduceEqDiff, Nat.reduceLT, Int.reduceLT, Int.reduceLE, Int.reduceNeg, Int.reduceToNat, Int.reduceAdd, Fin.isValue, Fin.val_zero, Fin.val_one, Fin.reduceFinMk, Fin.val_ofNat, Bool.or_true, Bool.true_or, Bool.or_false, Bool.false_or, Bool.and_true, Bool.true_and, Bool.and_false, Bool.false_and, cond_true, cond_false, ↓reduceIte, eq_self, ne_eq, not_true_eq_false, not_false_eq_true, true_and, and_true, Option.toList_some, Option.toList_none, List.cons_append, List.nil_append, Option.some.injEq, Value.int.injEq, Value.long.injEq, rx_l0, rx_l1, rx_fv0, rx_fv1, rx_fv2, rx_fv3, nI_c1, nI_c2, nI_c4, nI_c8, nI_c9, nI_c24, nI_c64, Nat.le_refl, bI_z, bI_0, bI_1, Classical.not_not, lg_cmp_ge, lg_cmp_le, lg_cmp_gt, lg_cmp_lt, lg_cmp_eq]
      rw [nI_leI (by omega) (by omega)]
      refine ⟨fun h => by omega, fun h => ?_⟩
      simp (disch := omega) only [nI_clamp, bn_put, nI_add]
      exact ⟨vp_in_nI hg (by decide), ⟨by omega, trivial⟩, trivial⟩)
  · cases hf
def pX1_turnOver : rx_P := [(0, .iload_n 1, 0), (1, .ifCond .lt 26, 27), (4, .iload_n 1, 0), (5, .aload_n 0, 0), (6, .getfield 15, 0), (9, .if_icmp .ge 18, 27), (12, .aload_n 0, 0), (13, .getfield 9, 0), (16, .iload_n 1, 0), (17, .aload_n 0, 0), (18, .getfield 9, 0), (21, .iload_n 1, 0), (22, .baload, 0), (23, .iload_n 2, 0), (24, .ixor, 0), (25, .i2b, 0), (26, .bastore, 0), (27, .return_, 0)]
theorem pX1_turnOver_ok : ∀ q ∈ pX1_turnOver, rx_ok cX1_turnOver q := rx_ok_all (by decide +kernel)
abbrev rX1_turnOver : Room := { frames := 0, cells := 0, slots := 0, locals := 0 }
noncomputable def fX1_turnOver : rx_F cS := fun w as => match as with
  | [.int k, .int v] => some (vp_in k (bn w.1), (bPut w.1 k.toNatClampNeg (uB (sB (bg w.1 k.toNatClampNeg) ^^^ v).toInt8.toInt32), w.2), none)
  | _ => none
noncomputable def eX1_turnOver (ad : Nat → Nat) : rx_E cS := rx_any [rx_hG 15 (ad 1) (fun w => .int (nI (bn w.1))), rx_hG 9 (ad 1) (fun w => .ref (ad 4)), rx_hAb (ad 4) 640 (fun w k => sB (bg w.1 k)), rx_hBb (ad 4) 640 (fun w k v => (bPut w.1 k (uB v), w.2))]
set_option maxHeartbeats 4000000 in
set_option maxRecDepth 100000 in
theorem eo_X1_turnOver (l : Launch) (D : va_G) (ad : Nat → Nat) (cB : ClassId) (hj : cJ ad) : ∀ (p : Program) (e : Env) (s : State) (m : MethodId) (args : Array Value) (below : List Frame) (meth : Method) (c : Code) (Qw : State → Prop), CallFix p m c cX1_turnOver 3 s args (Cond.code yX1_turnOver cX1_turnOver 3 none :: wsA) RX1 → cK D cB s → rx_Eok (fun H locs g => W p l e rX1_turnOver s m args below meth c H locs 0 0 Qw g) m cX1_turnOver 3 (tr_I D vwCl (cA ad) s (cW ad cB)) (eX1_turnOver ad) := by
  intro p e s m args below meth c Qw S hK
  have ht : ∀ w ∈ wsA, w.before args s = true := fun w h => S.2.2.2.2 w (wsA_in h)
  exact rx_any_c (rx_hG_ok (fun w H locs pc ls rest hI hd k => va_get (D := D) (ci := 1) (C := RX1) (T := TX1) (N := 2) S.1 S.2.1 ht inX1 S.2.2.2.1 hK.1 hI.1 1 rfl rfl 1 (by decide) (ht _ wfX1_15) (fun _ h9 => h9) rfl hd k)) (rx_any_c (rx_hG_ok (fun w H locs pc ls rest hI hd k => va_get (D := D) (ci := 1) (C := RX1) (T := TX1) (N := 2) S.1 S.2.1 ht inX1 S.2.2.2.1 hK.1 hI.1 1 rfl rfl 0 (by decide) (ht _ wfX1_9) (fun _ h9 => h9) rfl hd k)) (rx_any_c (rx_hAb_ok (fun w H locs pc ls rest x hI hin hd k => va_bald S.1 S.2.1 hK.1 hI.1 4 0 rfl rfl hin hd k)) (rx_any_c (rx_hBb_ok (fun w H locs pc ls rest x v hI hin hd kk => va_bast S.1 S.2.1 hK.1 hI.1 (cD hj cB w) hI.2 4 0 rfl rfl hin hd (fun H1 locs1 hP _ hS => kk H1 locs1 ⟨by rw [cW_bp]; exact hP, hS⟩))) (rx_any_0))))
set_option maxHeartbeats 4000000 in
set_option maxRecDepth 100000 in
theorem ct_X1_turnOver (l : Launch) (D : va_G) (ad : Nat → Nat) (cB : ClassId) (hj : cJ ad) : ctC l yX1_turnOver cX1_turnOver 3 none rX1_turnOver D ad cB [.ref (ad 1)] fX1_turnOver := by
  intro w as g w1 r hf hg
  unfold fX1_turnOver at hf
  split at hf
  · next k v =>
    cases hf
    exact tr_of rx_nc 0 200 0 (by decide) rfl rfl (Nat.le_of_ble_eq_true rfl) pX1_turnOver_ok (rt_v) (eo_X1_turnOver l D ad cB hj) (fun pc g h => by cases h) (by
      simp only [pX1_turnOver, eX1_turnOver, rx_n, rx_s, rx_to, rx_get, rx_f1, rx_f2, rx_two, rx_ext, rx_any, rx_hV, rx_hS, rx_hG, rx_hP, rx_hAi, rx_hAb, rx_hBb, rx_hBi, rx_hL, rx_hLi, rx_got, rx_pop, rx_sum, rx_len, rx_c, rx_m1, lv_args, Value.category, rx_cut_n, rx_cut_1, rx_iconst, rx_bipush, rx_sipush, rx_lconst, rx_iload_n, rx_iload, rx_lload_n, rx_lload, rx_aload_n, rx_aload, rx_istore_n, rx_istore, rx_lstore_n, rx_lstore, rx_astore_n, rx_astore, rx_iinc, rx_iadd, rx_isub, rx_imul, rx_iand, rx_ixor, rx_ishr, rx_idiv, rx_irem, rx_ladd, rx_lsub, rx_land, rx_lor, rx_lxor, rx_lmul, rx_ldiv, rx_lrem, rx_lushr, rx_lshl, rx_lshr, rx_lneg, rx_i2l, rx_l2i, rx_i2b, rx_lcmp, rx_dup_i, rx_dup_a, rx_pop_i, rx_pop_a, rx_if_eq, rx_if_ne, rx_if_lt, rx_if_ge, rx_if_gt, rx_if_le, rx_icmp_eq, rx_icmp_ne, rx_icmp_lt, rx_icmp_ge, rx_icmp_gt, rx_icmp_le, rx_goto, rx_tsw, rx_ireturn, rx_lreturn, rx_return_, rx_getfield, rx_putfield, rx_invokevirtual, rx_invokespecial, rx_invokestatic, rx_ldc, rx_ldc2_w, rx_iaload, rx_iastore, rx_baload, rx_bastore, Nat.reduceBEq, Nat.reduceAdd, Nat.reduceSub, Nat.reduceMul, Nat.reduceLeDiff, Nat.reduceEqDiff, Nat.reduceLT, Int.reduceLT, Int.reduceLE, Int.reduceNeg, Int.reduceToNat, Int.reduceAdd, Fin.isValue, Fin.val_zero, Fin.val_one, Fin.reduceFinMk, Fin.val_ofNat, Bool.or_true, Bool.true_or, Bool.or_false, Bool.false_or, Bool.and_true, Bool.true_and, Bool.and_false, Bool.false_and, cond_true, cond_false, ↓reduceIte, eq_self, ne_eq, not_true_eq_false, not_false_eq_true, true_and, and_true, Option.toList_some, Option.toList_none, List.cons_append, List.nil_append, Option.some.injEq, Value.int.injEq, Value.long.injEq, rx_l0, rx_l1, rx_fv0, rx_fv1, rx_fv2, rx_fv3, nI_c1, nI_c2, nI_c4, nI_c8, nI_c9, nI_c24, nI_c64, Nat.le_refl, bI_z, bI_0, bI_1, Classical.not_not, lg_cmp_ge, lg_cmp_le, lg_cmp_gt, lg_cmp_lt, lg_cmp_eq]
      have hB := bn_le w.1
      obtain ⟨j, h1, rfl⟩ := vp_in_of hg (by omega)
      rw [nI_leI (by omega) (by omega)]
      exact ⟨fun h => absurd h (nI_pos (by omega)), fun _ => ⟨fun h => by omega, fun _ => ⟨vp_in_nI (by omega) (by decide), vp_in_nI (by omega) (by decide)⟩⟩⟩)
  · cases hf
def pX1_empty : rx_P := [(0, .aload_n 0, 0), (1, .iconst 0, 0), (2, .putfield 15, 0), (5, .return_, 0)]
theorem pX1_empty_ok : ∀ q ∈ pX1_empty, rx_ok cX1_empty q := rx_ok_all (by decide +kernel)
abbrev rX1_empty : Room := { frames := 0, cells := 0, slots := 0, locals := 0 }
noncomputable def fX1_empty : rx_F cS := fun w as => match as with
  | [] => some (True, (bSz w.1 0, w.2), none)
  | _ => none
noncomputable def eX1_empty (ad : Nat → Nat) : rx_E cS := rx_any [rx_hP 15 (ad 1) (fun w v => match v with | .int z => some (z.toNatClampNeg ≤ 640 ∧ nI z.toNatClampNeg = z, (bSz w.1 z.toNatClampNeg, w.2)) | _ => none)]
set_option maxHeartbeats 4000000 in
set_option maxRecDepth 100000 in
theorem eo_X1_empty (l : Launch) (D : va_G) (ad : Nat → Nat) (cB : ClassId) (hj : cJ ad) : ∀ (p : Program) (e : Env) (s : State) (m : MethodId) (args : Array Value) (below : List Frame) (meth : Method) (c : Code) (Qw : State → Prop), CallFix p m c cX1_empty 1 s args (Cond.code yX1_empty cX1_empty 1 none :: wsA) RX1 → cK D cB s → rx_Eok (fun H locs g => W p l e rX1_empty s m args below meth c H locs 0 0 Qw g) m cX1_empty 1 (tr_I D vwCl (cA ad) s (cW ad cB)) (eX1_empty ad) := by
  intro p e s m args below meth c Qw S hK
  have ht : ∀ w ∈ wsA, w.before args s = true := fun w h => S.2.2.2.2 w (wsA_in h)
  exact rx_any_c (rx_hP_ok (fun w v g w1 H locs pc ls rest hfv hg hI hd kk => by
    cases v with
    | int z =>
      cases hfv
      exact va_put (D := D) (ci := 1) (ty := .int) (C := RX1) (T := TX1) (N := 2) S.1 S.2.1 ht inX1 tyX1 tyX1_ok nmX1 S.2.2.2.1 hK.1 hI.1 (cD hj cB w) hI.2 1 rfl rfl 1 (by decide) (ht _ wfX1_15) (fun _ h9 => h9) rfl (by decide +kernel) rfl rfl (Nat.le_of_ble_eq_true rfl) hd (fun H1 locs1 hP _ hS => kk H1 locs1 ⟨by rw [cW_sz hg.1 hg.2]; exact hP, hS⟩)
    | _ => cases hfv)) (rx_any_0)
set_option maxHeartbeats 4000000 in
set_option maxRecDepth 100000 in
theorem ct_X1_empty (l : Launch) (D : va_G) (ad : Nat → Nat) (cB : ClassId) (hj : cJ ad) : ctC l yX1_empty cX1_empty 1 none rX1_empty D ad cB [.ref (ad 1)] fX1_empty := by
  intro w as g w1 r hf hg
  unfold fX1_empty at hf
  split at hf
  · cases hf
    exact tr_of rx_nc 0 200 0 (by decide) rfl rfl (Nat.le_of_ble_eq_true rfl) pX1_empty_ok (rt_v) (eo_X1_empty l D ad cB hj) (fun pc g h => by cases h) (by
      simp only [pX1_empty, eX1_empty, rx_n, rx_s, rx_to, rx_get, rx_f1, rx_f2, rx_two, rx_ext, rx_any, rx_hV, rx_hS, rx_hG, rx_hP, rx_hAi, rx_hAb, rx_hBb, rx_hBi, rx_hL, rx_hLi, rx_got, rx_pop, rx_sum, rx_len, rx_c, rx_m1, lv_args, Value.category, rx_cut_n, rx_cut_1, rx_iconst, rx_bipush, rx_sipush, rx_lconst, rx_iload_n, rx_iload, rx_lload_n, rx_lload, rx_aload_n, rx_aload, rx_istore_n, rx_istore, rx_lstore_n, rx_lstore, rx_astore_n, rx_astore, rx_iinc, rx_iadd, rx_isub, rx_imul, rx_iand, rx_ixor, rx_ishr, rx_idiv, rx_irem, rx_ladd, rx_lsub, rx_land, rx_lor, rx_lxor, rx_lmul, rx_ldiv, rx_lrem, rx_lushr, rx_lshl, rx_lshr, rx_lneg, rx_i2l, rx_l2i, rx_i2b, rx_lcmp, rx_dup_i, rx_dup_a, rx_pop_i, rx_pop_a, rx_if_eq, rx_if_ne, rx_if_lt, rx_if_ge, rx_if_gt, rx_if_le, rx_icmp_eq, rx_icmp_ne, rx_icmp_lt, rx_icmp_ge, rx_icmp_gt, rx_icmp_le, rx_goto, rx_tsw, rx_ireturn, rx_lreturn, rx_return_, rx_getfield, rx_putfield, rx_invokevirtual, rx_invokespecial, rx_invokestatic, rx_ldc, rx_ldc2_w, rx_iaload, rx_iastore, rx_baload, rx_bastore, Nat.reduceBEq, Nat.reduceAdd, Nat.reduceSub, Nat.reduceMul, Nat.reduceLeDiff, Nat.reduceEqDiff, Nat.reduceLT, Int.reduceLT, Int.reduceLE, Int.reduceNeg, Int.reduceToNat, Int.reduceAdd, Fin.isValue, Fin.val_zero, Fin.val_one, Fin.reduceFinMk, Fin.val_ofNat, Bool.or_true, Bool.true_or, Bool.or_false, Bool.false_or, Bool.and_true, Bool.true_and, Bool.and_false, Bool.false_and, cond_true, cond_false, ↓reduceIte, eq_self, ne_eq, not_true_eq_false, not_false_eq_true, true_and, and_true, Option.toList_some, Option.toList_none, List.cons_append, List.nil_append, Option.some.injEq, Value.int.injEq, Value.long.injEq, rx_l0, rx_l1, rx_fv0, rx_fv1, rx_fv2, rx_fv3, nI_c1, nI_c2, nI_c4, nI_c8, nI_c9, nI_c24, nI_c64, Nat.le_refl, bI_z, bI_0, bI_1, Classical.not_not, lg_cmp_ge, lg_cmp_le, lg_cmp_gt, lg_cmp_lt, lg_cmp_eq]
      rw [nI_c0]
      exact ⟨⟨by decide, rfl⟩, rfl⟩)
  · cases hf
