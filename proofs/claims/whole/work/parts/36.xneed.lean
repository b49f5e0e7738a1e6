theorem tx_rt {ok : Prop} {w w1 w2 : cS} {r : tx_R} {v : Option Value} {E : String} {ret : Option FieldType} (H1 : ok → w2 = w1 ∧ r = .inl v) (H2 : ¬ ok → w2 = w ∧ r = .inr E) (h : tr_rt ret v) : ∀ v', r = .inl v' → tr_rt ret v' := by
  intro v' hv
  by_cases q : ok
  · rw [(H1 q).2] at hv
    cases hv
    exact h
  · rw [(H2 q).2] at hv
    cases hv
theorem tx_two {ok : Prop} {w w1 w2 : cS} {r : tx_R} {v : Option Value} {E : String} (H1 : ok → w2 = w1 ∧ r = .inl v) (H2 : ¬ ok → w2 = w ∧ r = .inr E) : (ok ∧ w2 = w1 ∧ r = .inl v) ∨ (¬ ok ∧ w2 = w ∧ r = .inr E) := by
  by_cases q : ok
  · exact Or.inl ⟨q, H1 q⟩
  · exact Or.inr ⟨q, H2 q⟩
def cG (w : cS) : Prop := ¬ w.2.1 = 0 ∧ w.2.2.1 = 0
theorem what_in {x : Int32} {h : Nat} (hh : h < 2147483647) : (¬ x < 0 ∧ x ≤ nI h) ↔ vp_in x (h + 1) := by
  by_cases hx : x < 0
  · exact ⟨fun q => absurd hx q.1, fun q => absurd (Or.inl hx) q⟩
  · obtain ⟨j, hj, rfl⟩ := nI_of hx
    unfold vp_in
    rw [nI_leI hj (by omega), nI_clamp hj]
    constructor
    · intro q z
      rcases z with z | z
      · exact q.1 z
      · omega
    · intro q
      refine ⟨hx, ?_⟩
      by_cases z : h + 1 ≤ j
      · exact absurd (Or.inr z) q
      · omega
theorem numb_in {x : Int32} {h : Nat} (hh : h < 2147483648) : (¬ x < 0 ∧ x < nI h) ↔ vp_in x h := by
  by_cases hx : x < 0
  · exact ⟨fun q => absurd hx q.1, fun q => absurd (Or.inl hx) q⟩
  · obtain ⟨j, hj, rfl⟩ := nI_of hx
    unfold vp_in
    rw [nI_ltI hj hh, nI_clamp hj]
    constructor
    · intro q z
      rcases z with z | z
      · exact q.1 z
      · omega
    · intro q
      refine ⟨hx, ?_⟩
      by_cases z : h ≤ j
      · exact absurd (Or.inr z) q
      · omega
def pX3_needWhat : rx_P := [(0, .iload_n 0, 0), (1, .ifCond .lt 8, 9), (4, .iload_n 0, 0), (5, .iload_n 1, 0), (6, .if_icmp .le 13, 19), (9, .new 42, 0), (12, .dup, 0), (13, .ldc 133, 0), (15, .invokespecial 46, 0), (18, .athrow, 0), (19, .return_, 0)]
theorem pX3_needWhat_ok : ∀ q ∈ pX3_needWhat, rx_ok cX3_needWhat q := rx_ok_all (by decide +kernel)
abbrev rX3_needWhat : Room := { frames := 6, cells := 1, slots := 6, locals := 83 }
noncomputable def fX3_needWhat : rx_Fx cS := fun w as => match as with
  | [.int x, .int h] => some (nI h.toNatClampNeg = h ∧ h.toNatClampNeg < 2147483647, vp_in x (h.toNatClampNeg + 1), w, none, xIA)
  | _ => none
noncomputable def dX3_needWhat (ad : Nat → Nat) : rx_E cS := rx_any []
set_option maxHeartbeats 4000000 in
set_option maxRecDepth 100000 in
theorem do_X3_needWhat (l : Launch) (D : va_G) (ad : Nat → Nat) (cB : ClassId) : ∀ (p : Program) (e : Env) (s : State) (m : MethodId) (args : Array Value) (below : List Frame) (meth : Method) (c : Code) (Qw : State → Prop), CallFix p m c cX3_needWhat 2 s args (Cond.code yX3_needWhat cX3_needWhat 2 none :: wsA) yX3_needWhat.cls → xK D cB s → rx_Eok (fun H locs g => W p l e rX3_needWhat s m args below meth c H locs 0 0 Qw g) m cX3_needWhat 2 (fun w H locs => va_P D vwCl (cW ad cB w) H ∧ H = s.heap ∧ locs = []) (dX3_needWhat ad) := by
  intro p e s m args below meth c Qw S0 hK
  have S : CallFix p m c cX3_needWhat 2 s args (Cond.code yX3_needWhat cX3_needWhat 2 none :: wsA) RX3 := S0
  have ht : ∀ w ∈ wsA, w.before args s = true := fun w h => S.2.2.2.2 w (wsA_in h)
  exact rx_any_0
set_option maxHeartbeats 4000000 in
set_option maxRecDepth 100000 in
theorem ct_X3_needWhat (l : Launch) (hl : l.stackTraces = false) (D : va_G) (ad : Nat → Nat) (cB : ClassId) : ctX l yX3_needWhat cX3_needWhat 2 none rX3_needWhat D ad cB [] fX3_needWhat := by
  intro w as g ok w1 v E hf hg w2 r H1 H2
  unfold fX3_needWhat at hf
  split at hf
  · next x h =>
    cases hf
    refine tx_ofT [(9, xIA)] tx_n 200 (by decide) rfl (Nat.le_of_ble_eq_true rfl) pX3_needWhat_ok (tx_rt H1 H2 (rt_v)) ?_ (do_X3_needWhat l D ad cB) (fun p e s m args below meth c S hr hK hz hnh hlocks pc g h => by cases h) ?_
    · intro t X hm
      rcases List.mem_cons.mp hm with h9 | hm
      · cases h9
        exact tx_site (l := l) (cls := xIA) (text := "no such what") (t := 9) (ik := 42) (is := 133) (ic := 46) (i1 := 7) (b1 := Bundle.six) hl (by decide +kernel) (by decide +kernel) (by decide +kernel) (by decide +kernel) (by decide +kernel) wl_IA wn_IA (by decide +kernel) tm_IA rfl (by decide +kernel) (by decide +kernel) (by decide +kernel) (by decide +kernel) (by decide +kernel) ⟨by decide, by decide, by decide, by decide⟩
      cases hm
    · simp only [pX3_needWhat, dX3_needWhat, rx_n, rx_s, rx_to, rx_get, rx_f1, rx_f2, rx_two, rx_ext, rx_any, rx_hV, rx_hS, rx_hG, rx_hP, rx_hAi, rx_hAb, rx_hBb, rx_hBi, rx_hL, rx_hLi, rx_got, rx_pop, rx_sum, rx_len, rx_c, rx_m1, lv_args, Value.category, rx_cut_n, rx_cut_1, rx_iconst, rx_bipush, rx_sipush, rx_lconst, rx_iload_n, rx_iload, rx_lload_n, rx_lload, rx_aload_n, rx_aload, rx_istore_n, rx_istore, rx_lstore_n, rx_lstore, rx_astore_n, rx_astore, rx_iinc, rx_iadd, rx_isub, rx_imul, rx_iand, rx_ixor, rx_ishr, rx_idiv, rx_irem, rx_ladd, rx_lsub, rx_land, rx_lor, rx_lxor, rx_lmul, rx_ldiv, rx_lrem, rx_lushr, rx_lshl, rx_lshr, rx_lneg, rx_i2l, rx_l2i, rx_i2b, rx_lcmp, rx_dup_i, rx_dup_a, rx_pop_i, rx_pop_a, rx_if_eq, rx_if_ne, rx_if_lt, rx_if_ge, rx_if_gt, rx_if_le, rx_icmp_eq, rx_icmp_ne, rx_icmp_lt, rx_icmp_ge, rx_icmp_gt, rx_icmp_le, rx_goto, rx_tsw, rx_ireturn, rx_lreturn, rx_return_, rx_getfield, rx_putfield, rx_invokevirtual, rx_invokespecial, rx_invokestatic, rx_ldc, rx_ldc2_w, rx_iaload, rx_iastore, rx_baload, rx_bastore, rx_hVx, rx_hSx, rx_gotx, tx_X_c, tx_X_0, tx_n_e, tx_e_e, rx_cut_n, Nat.reduceBEq, Nat.reduceAdd, Nat.reduceSub, Nat.reduceMul, Nat.reduceLeDiff, Nat.reduceEqDiff, Nat.reduceLT, Int.reduceLT, Int.reduceLE, Int.reduceNeg, Int.reduceToNat, Int.reduceAdd, Fin.isValue, Fin.val_zero, Fin.val_one, Fin.reduceFinMk, Fin.val_ofNat, Bool.or_true, Bool.true_or, Bool.or_false, Bool.false_or, Bool.and_true, Bool.true_and, Bool.and_false, Bool.false_and, cond_true, cond_false, ↓reduceIte, eq_self, ne_eq, not_true_eq_false, not_false_eq_true, true_and, and_true, Option.toList_some, Option.toList_none, List.cons_append, List.nil_append, Option.some.injEq, Value.int.injEq, Value.long.injEq, rx_l0, rx_l1, rx_fv0, rx_fv1, rx_fv2, rx_fv3, nI_c1, nI_c2, nI_c4, nI_c8, nI_c9, nI_c24, nI_c64, Nat.le_refl, bI_z, bI_0, bI_1, Classical.not_not, lg_cmp_ge, lg_cmp_le, lg_cmp_gt, lg_cmp_lt, lg_cmp_eq]
      have hq := what_in (x := x) hg.2
      rw [hg.1] at hq
      rcases tx_two H1 H2 with ⟨q, rfl, rfl⟩ | ⟨q, rfl, rfl⟩
      · obtain ⟨q1, q2⟩ := hq.mpr q
        exact ⟨fun z => absurd z q1, fun _ => ⟨fun _ => ⟨rfl, rfl⟩, fun z => absurd q2 z⟩⟩
      · exact ⟨fun z => ⟨rfl, rfl⟩, fun z => ⟨fun z2 => absurd (hq.mp ⟨z, z2⟩) q, fun z2 => ⟨rfl, rfl⟩⟩⟩
  · cases hf
def pX3_needGood : rx_P := [(0, .aload_n 0, 0), (1, .getfield 34, 0), (4, .ifCond .eq 10, 14), (7, .aload_n 0, 0), (8, .getfield 38, 0), (11, .ifCond .eq 13, 24), (14, .new 52, 0), (17, .dup, 0), (18, .ldc 135, 0), (20, .invokespecial 56, 0), (23, .athrow, 0), (24, .return_, 0)]
theorem pX3_needGood_ok : ∀ q ∈ pX3_needGood, rx_ok cX3_needGood q := rx_ok_all (by decide +kernel)
abbrev rX3_needGood : Room := { frames := 6, cells := 1, slots := 6, locals := 83 }
noncomputable def fX3_needGood : rx_Fx cS := fun w as => match as with
  | [] => some (True, cG w, w, none, xIS)
  | _ => none
noncomputable def dX3_needGood (ad : Nat → Nat) : rx_E cS := rx_any [rx_hG 34 (ad 0) (fun w => .int w.2.1), rx_hG 38 (ad 0) (fun w => .int w.2.2.1)]
set_option maxHeartbeats 4000000 in
set_option maxRecDepth 100000 in
theorem do_X3_needGood (l : Launch) (D : va_G) (ad : Nat → Nat) (cB : ClassId) : ∀ (p : Program) (e : Env) (s : State) (m : MethodId) (args : Array Value) (below : List Frame) (meth : Method) (c : Code) (Qw : State → Prop), CallFix p m c cX3_needGood 1 s args (Cond.code yX3_needGood cX3_needGood 1 none :: wsA) yX3_needGood.cls → xK D cB s → rx_Eok (fun H locs g => W p l e rX3_needGood s m args below meth c H locs 0 0 Qw g) m cX3_needGood 1 (fun w H locs => va_P D vwCl (cW ad cB w) H ∧ H = s.heap ∧ locs = []) (dX3_needGood ad) := by
  intro p e s m args below meth c Qw S0 hK
  have S : CallFix p m c cX3_needGood 1 s args (Cond.code yX3_needGood cX3_needGood 1 none :: wsA) RX3 := S0
  have ht : ∀ w ∈ wsA, w.before args s = true := fun w h => S.2.2.2.2 w (wsA_in h)
  exact rx_any_c (rx_hG_ok (fun w H locs pc ls rest hI hd k => va_get (D := D) (ci := 3) (C := RX3) (T := TX3) (N := 5) S.1 S.2.1 ht inX3 S.2.2.2.1 hK.1.1 hI.1 0 rfl rfl 3 (by decide) (ht _ wfX3_34) (fun _ h9 => h9) rfl hd k)) (rx_any_c (rx_hG_ok (fun w H locs pc ls rest hI hd k => va_get (D := D) (ci := 3) (C := RX3) (T := TX3) (N := 5) S.1 S.2.1 ht inX3 S.2.2.2.1 hK.1.1 hI.1 0 rfl rfl 4 (by decide) (ht _ wfX3_38) (fun _ h9 => h9) rfl hd k)) (rx_any_0))
set_option maxHeartbeats 4000000 in
set_option maxRecDepth 100000 in
theorem ct_X3_needGood (l : Launch) (hl : l.stackTraces = false) (D : va_G) (ad : Nat → Nat) (cB : ClassId) : ctX l yX3_needGood cX3_needGood 1 none rX3_needGood D ad cB [.ref (ad 0)] fX3_needGood := by
  intro w as g ok w1 v E hf hg w2 r H1 H2
  unfold fX3_needGood at hf
  split at hf
  · cases hf
    refine tx_ofT [(14, xIS)] tx_n 200 (by decide) rfl (Nat.le_of_ble_eq_true rfl) pX3_needGood_ok (tx_rt H1 H2 (rt_v)) ?_ (do_X3_needGood l D ad cB) (fun p e s m args below meth c S hr hK hz hnh hlocks pc g h => by cases h) ?_
    · intro t X hm
      rcases List.mem_cons.mp hm with h9 | hm
      · cases h9
        exact tx_site (l := l) (cls := xIS) (text := "it is not judged, or not good") (t := 14) (ik := 52) (is := 135) (ic := 56) (i1 := 7) (b1 := Bundle.six) hl (by decide +kernel) (by decide +kernel) (by decide +kernel) (by decide +kernel) (by decide +kernel) wl_IS wn_IS (by decide +kernel) tm_IS rfl (by decide +kernel) (by decide +kernel) (by decide +kernel) (by decide +kernel) (by decide +kernel) ⟨by decide, by decide, by decide, by decide⟩
      cases hm
    · simp only [pX3_needGood, dX3_needGood, rx_n, rx_s, rx_to, rx_get, rx_f1, rx_f2, rx_two, rx_ext, rx_any, rx_hV, rx_hS, rx_hG, rx_hP, rx_hAi, rx_hAb, rx_hBb, rx_hBi, rx_hL, rx_hLi, rx_got, rx_pop, rx_sum, rx_len, rx_c, rx_m1, lv_args, Value.category, rx_cut_n, rx_cut_1, rx_iconst, rx_bipush, rx_sipush, rx_lconst, rx_iload_n, rx_iload, rx_lload_n, rx_lload, rx_aload_n, rx_aload, rx_istore_n, rx_istore, rx_lstore_n, rx_lstore, rx_astore_n, rx_astore, rx_iinc, rx_iadd, rx_isub, rx_imul, rx_iand, rx_ixor, rx_ishr, rx_idiv, rx_irem, rx_ladd, rx_lsub, rx_land, rx_lor, rx_lxor, rx_lmul, rx_ldiv, rx_lrem, rx_lushr, rx_lshl, rx_lshr, rx_lneg, rx_i2l, rx_l2i, rx_i2b, rx_lcmp, rx_dup_i, rx_dup_a, rx_pop_i, rx_pop_a, rx_if_eq, rx_if_ne, rx_if_lt, rx_if_ge, rx_if_gt, rx_if_le, rx_icmp_eq, rx_icmp_ne, rx_icmp_lt, rx_icmp_ge, rx_icmp_gt, rx_icmp_le, rx_goto, rx_tsw, rx_ireturn, rx_lreturn, rx_return_, rx_getfield, rx_putfield, rx_invokevirtual, rx_invokespecial, rx_invokestatic, rx_ldc, rx_ldc2_w, rx_iaload, rx_iastore, rx_baload, rx_bastore, rx_hVx, rx_hSx, rx_gotx, tx_X_c, tx_X_0, tx_n_e, tx_e_e, rx_cut_n, Nat.reduceBEq, Nat.reduceAdd, Nat.reduceSub, Nat.reduceMul, Nat.reduceLeDiff, Nat.reduceEqDiff, Nat.reduceLT, Int.reduceLT, Int.reduceLE, Int.reduceNeg, Int.reduceToNat, Int.reduceAdd, Fin.isValue, Fin.val_zero, Fin.val_one, Fin.reduceFinMk, Fin.val_ofNat, Bool.or_true, Bool.true_or, Bool.or_false, Bool.false_or, Bool.and_true, Bool.true_and, Bool.and_false, Bool.false_and, cond_true, cond_false, ↓reduceIte, eq_self, ne_eq, not_true_eq_false, not_false_eq_true, true_and, and_true, Option.toList_some, Option.toList_none, List.cons_append, List.nil_append, Option.some.injEq, Value.int.injEq, Value.long.injEq, rx_l0, rx_l1, rx_fv0, rx_fv1, rx_fv2, rx_fv3, nI_c1, nI_c2, nI_c4, nI_c8, nI_c9, nI_c24, nI_c64, Nat.le_refl, bI_z, bI_0, bI_1, Classical.not_not, lg_cmp_ge, lg_cmp_le, lg_cmp_gt, lg_cmp_lt, lg_cmp_eq]
      rcases tx_two H1 H2 with ⟨q, rfl, rfl⟩ | ⟨q, rfl, rfl⟩
      · exact ⟨fun z => absurd z q.1, fun _ => ⟨fun _ => ⟨rfl, rfl⟩, fun z => absurd q.2 z⟩⟩
      · exact ⟨fun z => ⟨rfl, rfl⟩, fun z => ⟨fun z2 => absurd ⟨z, z2⟩ q, fun z2 => ⟨rfl, rfl⟩⟩⟩
  · cases hf
def pX3_needNumber : rx_P := [(0, .iload_n 0, 0), (1, .ifCond .lt 8, 9), (4, .iload_n 0, 0), (5, .iload_n 1, 0), (6, .if_icmp .lt 13, 19), (9, .new 137, 0), (12, .dup, 0), (13, .ldc 139, 0), (15, .invokespecial 141, 0), (18, .athrow, 0), (19, .return_, 0)]
theorem pX3_needNumber_ok : ∀ q ∈ pX3_needNumber, rx_ok cX3_needNumber q := rx_ok_all (by decide +kernel)
abbrev rX3_needNumber : Room := { frames := 6, cells := 1, slots := 6, locals := 83 }
noncomputable def fX3_needNumber : rx_Fx cS := fun w as => match as with
  | [.int x, .int h] => some (nI h.toNatClampNeg = h ∧ h.toNatClampNeg < 2147483648, vp_in x h.toNatClampNeg, w, none, xNE)
  | _ => none
noncomputable def dX3_needNumber (ad : Nat → Nat) : rx_E cS := rx_any []
set_option maxHeartbeats 4000000 in
set_option maxRecDepth 100000 in
theorem do_X3_needNumber (l : Launch) (D : va_G) (ad : Nat → Nat) (cB : ClassId) : ∀ (p : Program) (e : Env) (s : State) (m : MethodId) (args : Array Value) (below : List Frame) (meth : Method) (c : Code) (Qw : State → Prop), CallFix p m c cX3_needNumber 2 s args (Cond.code yX3_needNumber cX3_needNumber 2 none :: wsA) yX3_needNumber.cls → xK D cB s → rx_Eok (fun H locs g => W p l e rX3_needNumber s m args below meth c H locs 0 0 Qw g) m cX3_needNumber 2 (fun w H locs => va_P D vwCl (cW ad cB w) H ∧ H = s.heap ∧ locs = []) (dX3_needNumber ad) := by
  intro p e s m args below meth c Qw S0 hK
  have S : CallFix p m c cX3_needNumber 2 s args (Cond.code yX3_needNumber cX3_needNumber 2 none :: wsA) RX3 := S0
  have ht : ∀ w ∈ wsA, w.before args s = true := fun w h => S.2.2.2.2 w (wsA_in h)
  exact rx_any_0
set_option maxHeartbeats 4000000 in
set_option maxRecDepth 100000 in
theorem ct_X3_needNumber (l : Launch) (hl : l.stackTraces = false) (D : va_G) (ad : Nat → Nat) (cB : ClassId) : ctX l yX3_needNumber cX3_needNumber 2 none rX3_needNumber D ad cB [] fX3_needNumber := by
  intro w as g ok w1 v E hf hg w2 r H1 H2
  unfold fX3_needNumber at hf
  split at hf
  · next x h =>
    cases hf
    refine tx_ofT [(9, xNE)] tx_n 200 (by decide) rfl (Nat.le_of_ble_eq_true rfl) pX3_needNumber_ok (tx_rt H1 H2 (rt_v)) ?_ (do_X3_needNumber l D ad cB) (fun p e s m args below meth c S hr hK hz hnh hlocks pc g h => by cases h) ?_
    · intro t X hm
      rcases List.mem_cons.mp hm with h9 | hm
      · cases h9
        exact tx_site (l := l) (cls := xNE) (text := "there is none with this number") (t := 9) (ik := 137) (is := 139) (ic := 141) (i1 := 13) (b1 := prog_13_method_4_code) hl (by decide +kernel) (by decide +kernel) (by decide +kernel) (by decide +kernel) (by decide +kernel) wl_NE wn_NE (by decide +kernel) tm_NE rfl (by decide +kernel) (by decide +kernel) (by decide +kernel) (by decide +kernel) (by decide +kernel) ⟨by decide, by decide, by decide, by decide⟩
      cases hm
    · simp only [pX3_needNumber, dX3_needNumber, rx_n, rx_s, rx_to, rx_get, rx_f1, rx_f2, rx_two, rx_ext, rx_any, rx_hV, rx_hS, rx_hG, rx_hP, rx_hAi, rx_hAb, rx_hBb, rx_hBi, rx_hL, rx_hLi, rx_got, rx_pop, rx_sum, rx_len, rx_c, rx_m1, lv_args, Value.category, rx_cut_n, rx_cut_1, rx_iconst, rx_bipush, rx_sipush, rx_lconst, rx_iload_n, rx_iload, rx_lload_n, rx_lload, rx_aload_n, rx_aload, rx_istore_n, rx_istore, rx_lstore_n, rx_lstore, rx_astore_n, rx_astore, rx_iinc, rx_iadd, rx_isub, rx_imul, rx_iand, rx_ixor, rx_ishr, rx_idiv, rx_irem, rx_ladd, rx_lsub, rx_land, rx_lor, rx_lxor, rx_lmul, rx_ldiv, rx_lrem, rx_lushr, rx_lshl, rx_lshr, rx_lneg, rx_i2l, rx_l2i, rx_i2b, rx_lcmp, rx_dup_i, rx_dup_a, rx_pop_i, rx_pop_a, rx_if_eq, rx_if_ne, rx_if_lt, rx_if_ge, rx_if_gt, rx_if_le, rx_icmp_eq, rx_icmp_ne, rx_icmp_lt, rx_icmp_ge, rx_icmp_gt, rx_icmp_le, rx_goto, rx_tsw, rx_ireturn, rx_lreturn, rx_return_, rx_getfield, rx_putfield, rx_invokevirtual, rx_invokespecial, rx_invokestatic, rx_ldc, rx_ldc2_w, rx_iaload, rx_iastore, rx_baload, rx_bastore, rx_hVx, rx_hSx, rx_gotx, tx_X_c, tx_X_0, tx_n_e, tx_e_e, rx_cut_n, Nat.reduceBEq, Nat.reduceAdd, Nat.reduceSub, Nat.reduceMul, Nat.reduceLeDiff, Nat.reduceEqDiff, Nat.reduceLT, Int.reduceLT, Int.reduceLE, Int.reduceNeg, Int.reduceToNat, Int.reduceAdd, Fin.isValue, Fin.val_zero, Fin.val_one, Fin.reduceFinMk, Fin.val_ofNat, Bool.or_true, Bool.true_or, Bool.or_false, Bool.false_or, Bool.and_true, Bool.true_and, Bool.and_false, Bool.false_and, cond_true, cond_false, ↓reduceIte, eq_self, ne_eq, not_true_eq_false, not_false_eq_true, true_and, and_true, Option.toList_some, Option.toList_none, List.cons_append, List.nil_append, Option.some.injEq, Value.int.injEq, Value.long.injEq, rx_l0, rx_l1, rx_fv0, rx_fv1, rx_fv2, rx_fv3, nI_c1, nI_c2, nI_c4, nI_c8, nI_c9, nI_c24, nI_c64, Nat.le_refl, bI_z, bI_0, bI_1, Classical.not_not, lg_cmp_ge, lg_cmp_le, lg_cmp_gt, lg_cmp_lt, lg_cmp_eq]
      have hq := numb_in (x := x) hg.2
      rw [hg.1] at hq
      rcases tx_two H1 H2 with ⟨q, rfl, rfl⟩ | ⟨q, rfl, rfl⟩
      · obtain ⟨q1, q2⟩ := hq.mpr q
        exact ⟨fun z => absurd z q1, fun _ => ⟨fun _ => ⟨rfl, rfl⟩, fun z => absurd q2 z⟩⟩
      · exact ⟨fun z => ⟨rfl, rfl⟩, fun z => ⟨fun z2 => absurd (hq.mp ⟨z, z2⟩) q, fun z2 => ⟨rfl, rfl⟩⟩⟩
  · cases hf
def pX3_broken : rx_P := [(0, .aload_n 0, 0), (1, .getfield 34, 0), (4, .ifCond .ne 13, 17), (7, .new 52, 0), (10, .dup, 0), (11, .ldc 74, 0), (13, .invokespecial 56, 0), (16, .athrow, 0), (17, .aload_n 0, 0), (18, .getfield 30, 0), (21, .getfield 76, 0), (24, .ireturn, 0)]
theorem pX3_broken_ok : ∀ q ∈ pX3_broken, rx_ok cX3_broken q := rx_ok_all (by decide +kernel)
abbrev rX3_broken : Room := { frames := 6, cells := 1, slots := 6, locals := 83 }
noncomputable def fX3_broken : rx_Fx cS := fun w as => match as with
  | [] => some (True, ¬ w.2.1 = 0, w, some (.int w.2.2.2), xIS)
  | _ => none
noncomputable def dX3_broken (ad : Nat → Nat) : rx_E cS := rx_any [rx_hG 34 (ad 0) (fun w => .int w.2.1), rx_hG 30 (ad 0) (fun w => .ref (ad 3)), rx_hG 76 (ad 3) (fun w => .int w.2.2.2)]
set_option maxHeartbeats 4000000 in
set_option maxRecDepth 100000 in
theorem do_X3_broken (l : Launch) (D : va_G) (ad : Nat → Nat) (cB : ClassId) : ∀ (p : Program) (e : Env) (s : State) (m : MethodId) (args : Array Value) (below : List Frame) (meth : Method) (c : Code) (Qw : State → Prop), CallFix p m c cX3_broken 1 s args (Cond.code yX3_broken cX3_broken 1 (some .int) :: wsA) yX3_broken.cls → xK D cB s → rx_Eok (fun H locs g => W p l e rX3_broken s m args below meth c H locs 0 0 Qw g) m cX3_broken 1 (fun w H locs => va_P D vwCl (cW ad cB w) H ∧ H = s.heap ∧ locs = []) (dX3_broken ad) := by
  intro p e s m args below meth c Qw S0 hK
  have S : CallFix p m c cX3_broken 1 s args (Cond.code yX3_broken cX3_broken 1 (some .int) :: wsA) RX3 := S0
  have ht : ∀ w ∈ wsA, w.before args s = true := fun w h => S.2.2.2.2 w (wsA_in h)
  exact rx_any_c (rx_hG_ok (fun w H locs pc ls rest hI hd k => va_get (D := D) (ci := 3) (C := RX3) (T := TX3) (N := 5) S.1 S.2.1 ht inX3 S.2.2.2.1 hK.1.1 hI.1 0 rfl rfl 3 (by decide) (ht _ wfX3_34) (fun _ h9 => h9) rfl hd k)) (rx_any_c (rx_hG_ok (fun w H locs pc ls rest hI hd k => va_get (D := D) (ci := 3) (C := RX3) (T := TX3) (N := 5) S.1 S.2.1 ht inX3 S.2.2.2.1 hK.1.1 hI.1 0 rfl rfl 2 (by decide) (ht _ wfX3_30) (fun _ h9 => h9) rfl hd k)) (rx_any_c (rx_hG_ok (fun w H locs pc ls rest hI hd k => va_getN (D := D) (ci := 2) (C := RX2) (T := TX2) (N := 3) S.1 S.2.1 ht inX2 S.2.2.2.1 hK.1.1 hI.1 3 rfl rfl 2 (by decide) (va_Nw.use rfl hK.1.2.2.2) (fun _ h9 => h9) rfl hd k)) (rx_any_0)))
set_option maxHeartbeats 4000000 in
set_option maxRecDepth 100000 in
theorem ct_X3_broken (l : Launch) (hl : l.stackTraces = false) (D : va_G) (ad : Nat → Nat) (cB : ClassId) : ctX l yX3_broken cX3_broken 1 (some .int) rX3_broken D ad cB [.ref (ad 0)] fX3_broken := by
  intro w as g ok w1 v E hf hg w2 r H1 H2
  unfold fX3_broken at hf
  split at hf
  · cases hf
    refine tx_ofT [(7, xIS)] tx_n 200 (by decide) rfl (Nat.le_of_ble_eq_true rfl) pX3_broken_ok (tx_rt H1 H2 (rt_i _)) ?_ (do_X3_broken l D ad cB) (fun p e s m args below meth c S hr hK hz hnh hlocks pc g h => by cases h) ?_
    · intro t X hm
      rcases List.mem_cons.mp hm with h9 | hm
      · cases h9
        exact tx_site (l := l) (cls := xIS) (text := "it is not judged") (t := 7) (ik := 52) (is := 74) (ic := 56) (i1 := 7) (b1 := Bundle.six) hl (by decide +kernel) (by decide +kernel) (by decide +kernel) (by decide +kernel) (by decide +kernel) wl_IS wn_IS (by decide +kernel) tm_IS rfl (by decide +kernel) (by decide +kernel) (by decide +kernel) (by decide +kernel) (by decide +kernel) ⟨by decide, by decide, by decide, by decide⟩
      cases hm
    · simp only [pX3_broken, dX3_broken, rx_n, rx_s, rx_to, rx_get, rx_f1, rx_f2, rx_two, rx_ext, rx_any, rx_hV, rx_hS, rx_hG, rx_hP, rx_hAi, rx_hAb, rx_hBb, rx_hBi, rx_hL, rx_hLi, rx_got, rx_pop, rx_sum, rx_len, rx_c, rx_m1, lv_args, Value.category, rx_cut_n, rx_cut_1, rx_iconst, rx_bipush, rx_sipush, rx_lconst, rx_iload_n, rx_iload, rx_lload_n, rx_lload, rx_aload_n, rx_aload, rx_istore_n, rx_istore, rx_lstore_n, rx_lstore, rx_astore_n, rx_astore, rx_iinc, rx_iadd, rx_isub, rx_imul, rx_iand, rx_ixor, rx_ishr, rx_idiv, rx_irem, rx_ladd, rx_lsub, rx_land, rx_lor, rx_lxor, rx_lmul, rx_ldiv, rx_lrem, rx_lushr, rx_lshl, rx_lshr, rx_lneg, rx_i2l, rx_l2i, rx_i2b, rx_lcmp, rx_dup_i, rx_dup_a, rx_pop_i, rx_pop_a, rx_if_eq, rx_if_ne, rx_if_lt, rx_if_ge, rx_if_gt, rx_if_le, rx_icmp_eq, rx_icmp_ne, rx_icmp_lt, rx_icmp_ge, rx_icmp_gt, rx_icmp_le, rx_goto, rx_tsw, rx_ireturn, rx_lreturn, rx_return_, rx_getfield, rx_putfield, rx_invokevirtual, rx_invokespecial, rx_invokestatic, rx_ldc, rx_ldc2_w, rx_iaload, rx_iastore, rx_baload, rx_bastore, rx_hVx, rx_hSx, rx_gotx, tx_X_c, tx_X_0, tx_n_e, tx_e_e, rx_cut_n, Nat.reduceBEq, Nat.reduceAdd, Nat.reduceSub, Nat.reduceMul, Nat.reduceLeDiff, Nat.reduceEqDiff, Nat.reduceLT, Int.reduceLT, Int.reduceLE, Int.reduceNeg, Int.reduceToNat, Int.reduceAdd, Fin.isValue, Fin.val_zero, Fin.val_one, Fin.reduceFinMk, Fin.val_ofNat, Bool.or_true, Bool.true_or, Bool.or_false, Bool.false_or, Bool.and_true, Bool.true_and, Bool.and_false, Bool.false_and, cond_true, cond_false, ↓reduceIte, eq_self, ne_eq, not_true_eq_false, not_false_eq_true, true_and, and_true, Option.toList_some, Option.toList_none, List.cons_append, List.nil_append, Option.some.injEq, Value.int.injEq, Value.long.injEq, rx_l0, rx_l1, rx_fv0, rx_fv1, rx_fv2, rx_fv3, nI_c1, nI_c2, nI_c4, nI_c8, nI_c9, nI_c24, nI_c64, Nat.le_refl, bI_z, bI_0, bI_1, Classical.not_not, lg_cmp_ge, lg_cmp_le, lg_cmp_gt, lg_cmp_lt, lg_cmp_eq]
      rcases tx_two H1 H2 with ⟨q, rfl, rfl⟩ | ⟨q, rfl, rfl⟩
      · exact ⟨fun _ => ⟨rfl, rfl⟩, fun z => absurd z q⟩
      · exact ⟨fun z => absurd z q, fun z => ⟨rfl, rfl⟩⟩
  · cases hf
