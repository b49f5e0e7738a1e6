/-! The law's loop. -/
section LWL
variable {p : Program} {l : Launch} {e : Env} {s : State} {m : MethodId} {args : Array Value} {below : List Frame} {meth : Method} {c : Code} {D : va_G} {ad am : Nat → Nat} {cB cI cZ cL : ClassId} {ao sa n i : Nat} {xs : Nat → Int32} {cells slots : Nat} {Qw : State → Prop}
def lRet (p : Program) (l : Launch) (e : Env) (s : State) (m : MethodId) (args : Array Value) (below : List Frame) (meth : Method) (c : Code) (Qw : State → Prop) (D : va_G) (ad am : Nat → Nat) (cB cI cZ cL : ClassId) (ao : Nat) : Prop := ∀ (cells slots : Nat) (w : LSt) (H : Heap) (locs : List Loc) (pc : Nat) (ls : Array Slot) (i : Instr) (st : List Value) (v : Option Value), cells ≤ 1040 ∧ slots ≤ 10173 → tr_I D vwCl (lZs s) s (lW ad am cB cI cZ cL ao) w H locs → rx_ret i st = some v → decode code pc = .ok (i, 1) → lQ w v → W p l e rmL s m args below meth c H locs cells slots Qw (F0 m pc ls st)
def lAt (p : Program) (l : Launch) (e : Env) (s : State) (m : MethodId) (args : Array Value) (below : List Frame) (meth : Method) (c : Code) (Qw : State → Prop) (D : va_G) (ad am : Nat → Nat) (cB cI cZ cL : ClassId) (ao sa : Nat) (pc cells slots i : Nat) : Prop := ∀ (H : Heap) (locs : List Loc) (ls : Array Slot) (w : LSt), tr_I D vwCl (lZs s) s (lW ad am cB cI cZ cL ao) w H locs → lInv w → lv_has ls 8 (lv5 sa ad am ao i) → W p l e rmL s m args below meth c H locs cells slots Qw (F0 m pc ls [])
theorem lw_tail (X : LX p l s m args c D ad am cB cI cZ cL ao sa n xs) (hret : lRet p l e s m args below meth c Qw D ad am cB cI cZ cL ao) (hf : cells ≤ 1040 ∧ slots ≤ 10173) (hN : lAt p l e s m args below meth c Qw D ad am cB cI cZ cL ao sa 23 cells slots (i + 4)) : lAt p l e s m args below meth c Qw D ad am cB cI cZ cL ao sa 797 cells slots i := by
  intro H locs ls w hI hv hl
  refine rx_sound X.S.1 X.S.2.1 pLt_ok (eoL X hf) (fun w H locs pc ls i st v => hret cells slots w H locs pc ls i st v hf) ?_ 60 797 _ (fun q hq => pLt_ok q (rx_to_sub q hq)) w _ [] ls H locs hl hI (lt_run (n := n) (xs := xs) w)
  intro pc g hg w1 lv st ls1 H1 locs1 hl1 hI1 hgw
  obtain ⟨rfl, rfl⟩ := lE_of hg
  obtain ⟨rfl, rfl, h3⟩ := hgw
  exact hN H1 locs1 ls1 w1 hI1 hv (rx_sub_has hl1 h3)
theorem lw_clear (X : LX p l s m args c D ad am cB cI cZ cL ao sa n xs) (hret : lRet p l e s m args below meth c Qw D ad am cB cI cZ cL ao) (hf : cells ≤ 1040 ∧ slots ≤ 10173) (hN : lAt p l e s m args below meth c Qw D ad am cB cI cZ cL ao sa 797 cells slots i) : lAt p l e s m args below meth c Qw D ad am cB cI cZ cL ao sa 248 cells slots i := by
  intro H locs ls w hI hv hl
  refine rx_sound X.S.1 X.S.2.1 pLb_clear_ok (eoL X hf) (fun w H locs pc ls i st v => hret cells slots w H locs pc ls i st v hf) ?_ 100 248 _ (fun q hq => pLb_clear_ok q (rx_to_sub q hq)) w _ [] ls H locs hl hI (lb_clear (n := n) (xs := xs) w hv)
  intro pc g hg w1 lv st ls1 H1 locs1 hl1 hI1 hgw
  obtain ⟨rfl, rfl⟩ := lE_of hg
  obtain ⟨h1, rfl, h3⟩ := hgw
  exact hN H1 locs1 ls1 w1 hI1 h1 (rx_sub_has hl1 h3)
theorem lw_judge (X : LX p l s m args c D ad am cB cI cZ cL ao sa n xs) (hret : lRet p l e s m args below meth c Qw D ad am cB cI cZ cL ao) (hf : cells ≤ 1040 ∧ slots ≤ 10173) (hN : lAt p l e s m args below meth c Qw D ad am cB cI cZ cL ao sa 797 cells slots i) : lAt p l e s m args below meth c Qw D ad am cB cI cZ cL ao sa 259 cells slots i := by
  intro H locs ls w hI hv hl
  refine rx_sound X.S.1 X.S.2.1 pLb_judge_ok (eoL X hf) (fun w H locs pc ls i st v => hret cells slots w H locs pc ls i st v hf) ?_ 100 259 _ (fun q hq => pLb_judge_ok q (rx_to_sub q hq)) w _ [] ls H locs hl hI (lb_judge (n := n) (xs := xs) w hv)
  intro pc g hg w1 lv st ls1 H1 locs1 hl1 hI1 hgw
  obtain ⟨rfl, rfl⟩ := lE_of hg
  obtain ⟨h1, rfl, h3⟩ := hgw
  exact hN H1 locs1 ls1 w1 hI1 h1 (rx_sub_has hl1 h3)
set_option maxHeartbeats 4000000 in
set_option maxRecDepth 100000 in
theorem lw_feed (X : LX p l s m args c D ad am cB cI cZ cL ao sa n xs) (hret : lRet p l e s m args below meth c Qw D ad am cB cI cZ cL ao) (hf : cells + 1 ≤ 1040 ∧ slots + 6 ≤ 10173) (hi : i + 4 ≤ n) (hN : lAt p l e s m args below meth c Qw D ad am cB cI cZ cL ao sa 797 (cells + 1) (slots + 6) i) : lAt p l e s m args below meth c Qw D ad am cB cI cZ cL ao sa 100 cells slots i := by
  intro H locs ls w hI hv hl
  have hf0 : cells ≤ 1040 ∧ slots ≤ 10173 := ⟨by omega, by omega⟩
  refine rx_sound X.S.1 X.S.2.1 pLa_feed_ok (eoL X hf0) (fun w H locs pc ls i st v => hret cells slots w H locs pc ls i st v hf0) ?_ 60 100 _ (fun q hq => pLa_feed_ok q (rx_to_sub q hq)) w _ [] ls H locs hl hI (la_feed X.hn hi w)
  intro pc g hg w1 lv st ls1 H1 locs1 hl1 hI1 hgw
  obtain ⟨rfl, rfl⟩ := lE_of hg
  obtain ⟨hw1, rfl, rfl⟩ := hgw
  rw [hw1] at hI1
  clear hI hl hg hw1
  have hz : tz (lA ad ao) s H1 := (X.hz.kept hI1.2.1 hI1.2.2.1).narrow (fun q h => X.hge q (h.elim Or.inl (fun z => Or.inr (Or.inr z))))
  obtain ⟨w2, fo2, kk, G1, G2⟩ : ∃ (w2 : cS) (fo2 : Nat → Int64) (kk : Nat), (cFeed w.1.1 ((xs (i + 3))) = 0 → w2 = (fd w.1.1 (uN ((jn (xs (i + 1)) (xs (i + 2))))) ((xs (i + 3))).toNatClampNeg, nI 0, w.1.2.2.1, w.1.2.2.2) ∧ fo2 = vp_updL w.2.2 0 (((nI (bn w.1.1 + ((xs (i + 3))).toNatClampNeg))).toInt64) ∧ kk = 0) ∧ (¬ (cFeed w.1.1 ((xs (i + 3))) = 0) → w2 = w.1 ∧ fo2 = w.2.2 ∧ kk = cFeed w.1.1 ((xs (i + 3)))) := by
    by_cases q : cFeed w.1.1 ((xs (i + 3))) = 0
    · exact ⟨_, _, _, fun _ => ⟨rfl, rfl, rfl⟩, fun z => absurd q z⟩
    · exact ⟨_, _, _, fun z => absurd z q, fun _ => ⟨rfl, rfl, rfl⟩⟩
  refine tw_callS (rest := []) X.S (cwL_feed X.hl X.hd.1 X.hd.2.2.2.1 w.1 w.2.2 ((jn (xs (i + 1)) (xs (i + 2)))) ((xs (i + 3))) w2 fo2 kk G1 G2) lwK_tr X.hK (tw_C_of 4 X.S.2.2.2.2 (wsA_S wkL_59 wsL_feed winiL wL_feed) rfl (by decide +kernel) ⟨by decide, by decide⟩) (lW_co hI1.1) hz rfl hl1.1 rfl (by decide) (by decide +kernel) ⟨hf.1, hf.2⟩ (fun H2 L hP hF hL => ?_)
  refine rx_sound X.S.1 X.S.2.1 pLb_feed_ok (eoL X hf) (fun w H locs pc ls i st v => hret (cells + 1) (slots + 6) w H locs pc ls i st v hf) ?_ 100 133 _ (fun q hq => pLb_feed_ok q (rx_to_sub q hq)) (w2, w.2.1, fo2) _ _ ls1 H2 (locs1 ++ L) hl1 ⟨lW_putO X.hd hI1.1 hP hF, ?_⟩ (lb_feed X.hn hi w.1 w.2.1 w.2.2 hv w2 fo2 kk G1 G2)
  · intro pc g hg w1 lv st ls1 H1 locs1 hl1 hI1 hgw
    obtain ⟨rfl, rfl⟩ := lE_of hg
    obtain ⟨h1, rfl, h3⟩ := hgw
    exact hN H1 locs1 ls1 w1 hI1 h1 (rx_sub_has hl1 h3)
  · have hA : ∀ q, lA ad ao q → lZs s q := fun q h => X.hge q (h.elim Or.inl (fun z => Or.inr (Or.inr z)))
    refine ⟨Nat.le_trans hI1.2.1 hF.1, fun x a1 a2 => (hF.2 x (Nat.lt_of_lt_of_le a1 hI1.2.1) (fun z => a2 (hA x z))).trans (hI1.2.2.1 x a1 a2), fun x hx => ?_⟩
    rcases List.mem_append.mp hx with z | z
    · exact hI1.2.2.2 x z
    · exact hA _ (hL x z)
set_option maxHeartbeats 4000000 in
set_option maxRecDepth 100000 in
theorem lw_spoil (X : LX p l s m args c D ad am cB cI cZ cL ao sa n xs) (hret : lRet p l e s m args below meth c Qw D ad am cB cI cZ cL ao) (hf : cells + 1 ≤ 1040 ∧ slots + 6 ≤ 10173) (hi : i + 4 ≤ n) (hN : lAt p l e s m args below meth c Qw D ad am cB cI cZ cL ao sa 797 (cells + 1) (slots + 6) i) : lAt p l e s m args below meth c Qw D ad am cB cI cZ cL ao sa 200 cells slots i := by
  intro H locs ls w hI hv hl
  have hf0 : cells ≤ 1040 ∧ slots ≤ 10173 := ⟨by omega, by omega⟩
  refine rx_sound X.S.1 X.S.2.1 pLa_spoil_ok (eoL X hf0) (fun w H locs pc ls i st v => hret cells slots w H locs pc ls i st v hf0) ?_ 60 200 _ (fun q hq => pLa_spoil_ok q (rx_to_sub q hq)) w _ [] ls H locs hl hI (la_spoil X.hn hi w)
  intro pc g hg w1 lv st ls1 H1 locs1 hl1 hI1 hgw
  obtain ⟨rfl, rfl⟩ := lE_of hg
  obtain ⟨hw1, rfl, rfl⟩ := hgw
  rw [hw1] at hI1
  clear hI hl hg hw1
  have hz : tz (lA ad ao) s H1 := (X.hz.kept hI1.2.1 hI1.2.2.1).narrow (fun q h => X.hge q (h.elim Or.inl (fun z => Or.inr (Or.inr z))))
  obtain ⟨w2, fo2, kk, G1, G2⟩ : ∃ (w2 : cS) (fo2 : Nat → Int64) (kk : Nat), (vp_in ((xs (i + 1))) (bn w.1.1) → w2 = (bPut w.1.1 ((xs (i + 1))).toNatClampNeg (bg w.1.1 ((xs (i + 1))).toNatClampNeg ^^^ (((xs (i + 2))).toBitVec.toNat % 256)), nI 0, w.1.2.2.1, w.1.2.2.2) ∧ fo2 = w.2.2 ∧ kk = 0) ∧ (¬ (vp_in ((xs (i + 1))) (bn w.1.1)) → w2 = w.1 ∧ fo2 = w.2.2 ∧ kk = 1) := by
    by_cases q : vp_in ((xs (i + 1))) (bn w.1.1)
    · exact ⟨_, _, _, fun _ => ⟨rfl, rfl, rfl⟩, fun z => absurd q z⟩
    · exact ⟨_, _, _, fun z => absurd z q, fun _ => ⟨rfl, rfl, rfl⟩⟩
  refine tw_callS (rest := []) X.S (cwL_spoil X.hl X.hd.1 X.hd.2.2.2.1 w.1 w.2.2 ((xs (i + 1))) ((xs (i + 2))) w2 fo2 kk G1 G2) lwK_tr X.hK (tw_C_of 3 X.S.2.2.2.2 (wsA_S wkL_68 wsL_spoil winiL wL_spoil) rfl (by decide +kernel) ⟨by decide, by decide⟩) (lW_co hI1.1) hz rfl hl1.1 rfl (by decide) (by decide +kernel) ⟨hf.1, hf.2⟩ (fun H2 L hP hF hL => ?_)
  refine rx_sound X.S.1 X.S.2.1 pLb_spoil_ok (eoL X hf) (fun w H locs pc ls i st v => hret (cells + 1) (slots + 6) w H locs pc ls i st v hf) ?_ 100 216 _ (fun q hq => pLb_spoil_ok q (rx_to_sub q hq)) (w2, w.2.1, fo2) _ _ ls1 H2 (locs1 ++ L) hl1 ⟨lW_putO X.hd hI1.1 hP hF, ?_⟩ (lb_spoil X.hn hi w.1 w.2.1 w.2.2 hv w2 fo2 kk G1 G2)
  · intro pc g hg w1 lv st ls1 H1 locs1 hl1 hI1 hgw
    obtain ⟨rfl, rfl⟩ := lE_of hg
    obtain ⟨h1, rfl, h3⟩ := hgw
    exact hN H1 locs1 ls1 w1 hI1 h1 (rx_sub_has hl1 h3)
  · have hA : ∀ q, lA ad ao q → lZs s q := fun q h => X.hge q (h.elim Or.inl (fun z => Or.inr (Or.inr z)))
    refine ⟨Nat.le_trans hI1.2.1 hF.1, fun x a1 a2 => (hF.2 x (Nat.lt_of_lt_of_le a1 hI1.2.1) (fun z => a2 (hA x z))).trans (hI1.2.2.1 x a1 a2), fun x hx => ?_⟩
    rcases List.mem_append.mp hx with z | z
    · exact hI1.2.2.2 x z
    · exact hA _ (hL x z)
set_option maxHeartbeats 4000000 in
set_option maxRecDepth 100000 in
theorem lw_broken (X : LX p l s m args c D ad am cB cI cZ cL ao sa n xs) (hret : lRet p l e s m args below meth c Qw D ad am cB cI cZ cL ao) (hf : cells + 1 ≤ 1040 ∧ slots + 6 ≤ 10173) (hi : i + 4 ≤ n) (hN : lAt p l e s m args below meth c Qw D ad am cB cI cZ cL ao sa 797 (cells + 1) (slots + 6) i) : lAt p l e s m args below meth c Qw D ad am cB cI cZ cL ao sa 272 cells slots i := by
  intro H locs ls w hI hv hl
  have hf0 : cells ≤ 1040 ∧ slots ≤ 10173 := ⟨by omega, by omega⟩
  refine rx_sound X.S.1 X.S.2.1 pLa_broken_ok (eoL X hf0) (fun w H locs pc ls i st v => hret cells slots w H locs pc ls i st v hf0) ?_ 60 272 _ (fun q hq => pLa_broken_ok q (rx_to_sub q hq)) w _ [] ls H locs hl hI (la_broken X.hn hi w)
  intro pc g hg w1 lv st ls1 H1 locs1 hl1 hI1 hgw
  obtain ⟨rfl, rfl⟩ := lE_of hg
  obtain ⟨hw1, rfl, rfl⟩ := hgw
  rw [hw1] at hI1
  clear hI hl hg hw1
  have hz : tz (lA ad ao) s H1 := (X.hz.kept hI1.2.1 hI1.2.2.1).narrow (fun q h => X.hge q (h.elim Or.inl (fun z => Or.inr (Or.inr z))))
  obtain ⟨w2, fo2, kk, G1, G2⟩ : ∃ (w2 : cS) (fo2 : Nat → Int64) (kk : Nat), (¬ w.1.2.1 = 0 → w2 = w.1 ∧ fo2 = vp_updL w.2.2 0 ((w.1.2.2.2).toInt64) ∧ kk = 0) ∧ (¬ (¬ w.1.2.1 = 0) → w2 = w.1 ∧ fo2 = w.2.2 ∧ kk = 1) := by
    by_cases q : ¬ w.1.2.1 = 0
    · exact ⟨_, _, _, fun _ => ⟨rfl, rfl, rfl⟩, fun z => absurd q z⟩
    · exact ⟨_, _, _, fun z => absurd z q, fun _ => ⟨rfl, rfl, rfl⟩⟩
  refine tw_callS (rest := []) X.S (cwL_broken X.hl X.hd.1 X.hd.2.2.2.1 w.1 w.2.2  w2 fo2 kk G1 G2) lwK_tr X.hK (tw_C_of 2 X.S.2.2.2.2 (wsA_S wkL_80 wsL_broken winiL wL_broken) rfl (by decide +kernel) ⟨by decide, by decide⟩) (lW_co hI1.1) hz rfl hl1.1 rfl (by decide) (by decide +kernel) ⟨hf.1, hf.2⟩ (fun H2 L hP hF hL => ?_)
  refine rx_sound X.S.1 X.S.2.1 pLb_broken_ok (eoL X hf) (fun w H locs pc ls i st v => hret (cells + 1) (slots + 6) w H locs pc ls i st v hf) ?_ 100 277 _ (fun q hq => pLb_broken_ok q (rx_to_sub q hq)) (w2, w.2.1, fo2) _ _ ls1 H2 (locs1 ++ L) hl1 ⟨lW_putO X.hd hI1.1 hP hF, ?_⟩ (lb_broken X.hn hi w.1 w.2.1 w.2.2 hv w2 fo2 kk G1 G2)
  · intro pc g hg w1 lv st ls1 H1 locs1 hl1 hI1 hgw
    obtain ⟨rfl, rfl⟩ := lE_of hg
    obtain ⟨h1, rfl, h3⟩ := hgw
    exact hN H1 locs1 ls1 w1 hI1 h1 (rx_sub_has hl1 h3)
  · have hA : ∀ q, lA ad ao q → lZs s q := fun q h => X.hge q (h.elim Or.inl (fun z => Or.inr (Or.inr z)))
    refine ⟨Nat.le_trans hI1.2.1 hF.1, fun x a1 a2 => (hF.2 x (Nat.lt_of_lt_of_le a1 hI1.2.1) (fun z => a2 (hA x z))).trans (hI1.2.2.1 x a1 a2), fun x hx => ?_⟩
    rcases List.mem_append.mp hx with z | z
    · exact hI1.2.2.2 x z
    · exact hA _ (hL x z)
set_option maxHeartbeats 4000000 in
set_option maxRecDepth 100000 in
theorem lw_many (X : LX p l s m args c D ad am cB cI cZ cL ao sa n xs) (hret : lRet p l e s m args below meth c Qw D ad am cB cI cZ cL ao) (hf : cells + 1 ≤ 1040 ∧ slots + 6 ≤ 10173) (hi : i + 4 ≤ n) (hN : lAt p l e s m args below meth c Qw D ad am cB cI cZ cL ao sa 797 (cells + 1) (slots + 6) i) : lAt p l e s m args below meth c Qw D ad am cB cI cZ cL ao sa 316 cells slots i := by
  intro H locs ls w hI hv hl
  have hf0 : cells ≤ 1040 ∧ slots ≤ 10173 := ⟨by omega, by omega⟩
  refine rx_sound X.S.1 X.S.2.1 pLa_many_ok (eoL X hf0) (fun w H locs pc ls i st v => hret cells slots w H locs pc ls i st v hf0) ?_ 60 316 _ (fun q hq => pLa_many_ok q (rx_to_sub q hq)) w _ [] ls H locs hl hI (la_many X.hn hi w)
  intro pc g hg w1 lv st ls1 H1 locs1 hl1 hI1 hgw
  obtain ⟨rfl, rfl⟩ := lE_of hg
  obtain ⟨hw1, rfl, rfl⟩ := hgw
  rw [hw1] at hI1
  clear hI hl hg hw1
  have hz : tz (lA ad ao) s H1 := (X.hz.kept hI1.2.1 hI1.2.2.1).narrow (fun q h => X.hge q (h.elim Or.inl (fun z => Or.inr (Or.inr z))))
  obtain ⟨w2, fo2, kk, G1, G2⟩ : ∃ (w2 : cS) (fo2 : Nat → Int64) (kk : Nat), (cMany (cG w.1) ((xs (i + 1))) = 0 → w2 = w.1 ∧ fo2 = vp_updL w.2.2 0 (((cif (((xs (i + 1))) = 0) (nI (gC w.1.1)) (nI (sC w.1.1)))).toInt64) ∧ kk = 0) ∧ (¬ (cMany (cG w.1) ((xs (i + 1))) = 0) → w2 = w.1 ∧ fo2 = w.2.2 ∧ kk = cMany (cG w.1) ((xs (i + 1)))) := by
    by_cases q : cMany (cG w.1) ((xs (i + 1))) = 0
    · exact ⟨_, _, _, fun _ => ⟨rfl, rfl, rfl⟩, fun z => absurd q z⟩
    · exact ⟨_, _, _, fun z => absurd z q, fun _ => ⟨rfl, rfl, rfl⟩⟩
  refine tw_callS (rest := []) X.S (cwL_many X.hl X.hd.1 X.hd.2.2.2.1 w.1 w.2.2 ((xs (i + 1))) (lInv_gd hv) w2 fo2 kk G1 G2) lwK_tr X.hK (tw_C_of 3 X.S.2.2.2.2 (wsA_S wkL_84 wsL_many winiL wL_many) rfl (by decide +kernel) ⟨by decide, by decide⟩) (lW_co hI1.1) hz rfl hl1.1 rfl (by decide) (by decide +kernel) ⟨hf.1, hf.2⟩ (fun H2 L hP hF hL => ?_)
  refine rx_sound X.S.1 X.S.2.1 pLb_many_ok (eoL X hf) (fun w H locs pc ls i st v => hret (cells + 1) (slots + 6) w H locs pc ls i st v hf) ?_ 100 327 _ (fun q hq => pLb_many_ok q (rx_to_sub q hq)) (w2, w.2.1, fo2) _ _ ls1 H2 (locs1 ++ L) hl1 ⟨lW_putO X.hd hI1.1 hP hF, ?_⟩ (lb_many X.hn hi w.1 w.2.1 w.2.2 hv w2 fo2 kk G1 G2)
  · intro pc g hg w1 lv st ls1 H1 locs1 hl1 hI1 hgw
    obtain ⟨rfl, rfl⟩ := lE_of hg
    obtain ⟨h1, rfl, h3⟩ := hgw
    exact hN H1 locs1 ls1 w1 hI1 h1 (rx_sub_has hl1 h3)
  · have hA : ∀ q, lA ad ao q → lZs s q := fun q h => X.hge q (h.elim Or.inl (fun z => Or.inr (Or.inr z)))
    refine ⟨Nat.le_trans hI1.2.1 hF.1, fun x a1 a2 => (hF.2 x (Nat.lt_of_lt_of_le a1 hI1.2.1) (fun z => a2 (hA x z))).trans (hI1.2.2.1 x a1 a2), fun x hx => ?_⟩
    rcases List.mem_append.mp hx with z | z
    · exact hI1.2.2.2 x z
    · exact hA _ (hL x z)
set_option maxHeartbeats 4000000 in
set_option maxRecDepth 100000 in
theorem lw_segment (X : LX p l s m args c D ad am cB cI cZ cL ao sa n xs) (hret : lRet p l e s m args below meth c Qw D ad am cB cI cZ cL ao) (hf : cells + 1 ≤ 1040 ∧ slots + 6 ≤ 10173) (hi : i + 4 ≤ n) (hN : lAt p l e s m args below meth c Qw D ad am cB cI cZ cL ao sa 797 (cells + 1) (slots + 6) i) : lAt p l e s m args below meth c Qw D ad am cB cI cZ cL ao sa 372 cells slots i := by
  intro H locs ls w hI hv hl
  have hf0 : cells ≤ 1040 ∧ slots ≤ 10173 := ⟨by omega, by omega⟩
  refine rx_sound X.S.1 X.S.2.1 pLa_segment_ok (eoL X hf0) (fun w H locs pc ls i st v => hret cells slots w H locs pc ls i st v hf0) ?_ 60 372 _ (fun q hq => pLa_segment_ok q (rx_to_sub q hq)) w _ [] ls H locs hl hI (la_segment X.hn hi w)
  intro pc g hg w1 lv st ls1 H1 locs1 hl1 hI1 hgw
  obtain ⟨rfl, rfl⟩ := lE_of hg
  obtain ⟨hw1, rfl, rfl⟩ := hgw
  rw [hw1] at hI1
  clear hI hl hg hw1
  have hz : tz (lA ad ao) s H1 := (X.hz.kept hI1.2.1 hI1.2.2.1).narrow (fun q h => X.hge q (h.elim Or.inl (fun z => Or.inr (Or.inr z))))
  obtain ⟨w2, fo2, kk, G1, G2⟩ : ∃ (w2 : cS) (fo2 : Nat → Int64) (kk : Nat), (cRow (cG w.1) (gC w.1.1) ((xs (i + 1))) ((xs (i + 2))) = 0 → w2 = w.1 ∧ fo2 = vp_updL w.2.2 0 ((lN (vSeg w.1.1 ((xs (i + 1))).toNatClampNeg ((xs (i + 2))).toNatClampNeg))) ∧ kk = 0) ∧ (¬ (cRow (cG w.1) (gC w.1.1) ((xs (i + 1))) ((xs (i + 2))) = 0) → w2 = w.1 ∧ fo2 = w.2.2 ∧ kk = cRow (cG w.1) (gC w.1.1) ((xs (i + 1))) ((xs (i + 2)))) := by
    by_cases q : cRow (cG w.1) (gC w.1.1) ((xs (i + 1))) ((xs (i + 2))) = 0
    · exact ⟨_, _, _, fun _ => ⟨rfl, rfl, rfl⟩, fun z => absurd q z⟩
    · exact ⟨_, _, _, fun z => absurd z q, fun _ => ⟨rfl, rfl, rfl⟩⟩
  refine tw_callS (rest := []) X.S (cwL_segment X.hl X.hd.1 X.hd.2.2.2.1 w.1 w.2.2 ((xs (i + 1))) ((xs (i + 2))) (lInv_gd hv) w2 fo2 kk G1 G2) lwK_tr X.hK (tw_C_of 4 X.S.2.2.2.2 (wsA_S wkL_88 wsL_segment winiL wL_segment) rfl (by decide +kernel) ⟨by decide, by decide⟩) (lW_co hI1.1) hz rfl hl1.1 rfl (by decide) (by decide +kernel) ⟨hf.1, hf.2⟩ (fun H2 L hP hF hL => ?_)
  refine rx_sound X.S.1 X.S.2.1 pLb_segment_ok (eoL X hf) (fun w H locs pc ls i st v => hret (cells + 1) (slots + 6) w H locs pc ls i st v hf) ?_ 100 389 _ (fun q hq => pLb_segment_ok q (rx_to_sub q hq)) (w2, w.2.1, fo2) _ _ ls1 H2 (locs1 ++ L) hl1 ⟨lW_putO X.hd hI1.1 hP hF, ?_⟩ (lb_segment X.hn hi w.1 w.2.1 w.2.2 hv w2 fo2 kk G1 G2)
  · intro pc g hg w1 lv st ls1 H1 locs1 hl1 hI1 hgw
    obtain ⟨rfl, rfl⟩ := lE_of hg
    obtain ⟨h1, rfl, h3⟩ := hgw
    exact hN H1 locs1 ls1 w1 hI1 h1 (rx_sub_has hl1 h3)
  · have hA : ∀ q, lA ad ao q → lZs s q := fun q h => X.hge q (h.elim Or.inl (fun z => Or.inr (Or.inr z)))
    refine ⟨Nat.le_trans hI1.2.1 hF.1, fun x a1 a2 => (hF.2 x (Nat.lt_of_lt_of_le a1 hI1.2.1) (fun z => a2 (hA x z))).trans (hI1.2.2.1 x a1 a2), fun x hx => ?_⟩
    rcases List.mem_append.mp hx with z | z
    · exact hI1.2.2.2 x z
    · exact hA _ (hL x z)
set_option maxHeartbeats 4000000 in
set_option maxRecDepth 100000 in
theorem lw_section (X : LX p l s m args c D ad am cB cI cZ cL ao sa n xs) (hret : lRet p l e s m args below meth c Qw D ad am cB cI cZ cL ao) (hf : cells + 1 ≤ 1040 ∧ slots + 6 ≤ 10173) (hi : i + 4 ≤ n) (hN : lAt p l e s m args below meth c Qw D ad am cB cI cZ cL ao sa 797 (cells + 1) (slots + 6) i) : lAt p l e s m args below meth c Qw D ad am cB cI cZ cL ao sa 439 cells slots i := by
  intro H locs ls w hI hv hl
  have hf0 : cells ≤ 1040 ∧ slots ≤ 10173 := ⟨by omega, by omega⟩
  refine rx_sound X.S.1 X.S.2.1 pLa_section_ok (eoL X hf0) (fun w H locs pc ls i st v => hret cells slots w H locs pc ls i st v hf0) ?_ 60 439 _ (fun q hq => pLa_section_ok q (rx_to_sub q hq)) w _ [] ls H locs hl hI (la_section X.hn hi w)
  intro pc g hg w1 lv st ls1 H1 locs1 hl1 hI1 hgw
  obtain ⟨rfl, rfl⟩ := lE_of hg
  obtain ⟨hw1, rfl, rfl⟩ := hgw
  rw [hw1] at hI1
  clear hI hl hg hw1
  have hz : tz (lA ad ao) s H1 := (X.hz.kept hI1.2.1 hI1.2.2.1).narrow (fun q h => X.hge q (h.elim Or.inl (fun z => Or.inr (Or.inr z))))
  obtain ⟨w2, fo2, kk, G1, G2⟩ : ∃ (w2 : cS) (fo2 : Nat → Int64) (kk : Nat), (cRow (cG w.1) (sC w.1.1) ((xs (i + 1))) ((xs (i + 2))) = 0 → w2 = w.1 ∧ fo2 = vp_updL w.2.2 0 ((lN (vSec w.1.1 ((xs (i + 1))).toNatClampNeg ((xs (i + 2))).toNatClampNeg))) ∧ kk = 0) ∧ (¬ (cRow (cG w.1) (sC w.1.1) ((xs (i + 1))) ((xs (i + 2))) = 0) → w2 = w.1 ∧ fo2 = w.2.2 ∧ kk = cRow (cG w.1) (sC w.1.1) ((xs (i + 1))) ((xs (i + 2)))) := by
    by_cases q : cRow (cG w.1) (sC w.1.1) ((xs (i + 1))) ((xs (i + 2))) = 0
    · exact ⟨_, _, _, fun _ => ⟨rfl, rfl, rfl⟩, fun z => absurd q z⟩
    · exact ⟨_, _, _, fun z => absurd z q, fun _ => ⟨rfl, rfl, rfl⟩⟩
  refine tw_callS (rest := []) X.S (cwL_section X.hl X.hd.1 X.hd.2.2.2.1 w.1 w.2.2 ((xs (i + 1))) ((xs (i + 2))) (lInv_gd hv) w2 fo2 kk G1 G2) lwK_tr X.hK (tw_C_of 4 X.S.2.2.2.2 (wsA_S wkL_92 wsL_section winiL wL_section) rfl (by decide +kernel) ⟨by decide, by decide⟩) (lW_co hI1.1) hz rfl hl1.1 rfl (by decide) (by decide +kernel) ⟨hf.1, hf.2⟩ (fun H2 L hP hF hL => ?_)
  refine rx_sound X.S.1 X.S.2.1 pLb_section_ok (eoL X hf) (fun w H locs pc ls i st v => hret (cells + 1) (slots + 6) w H locs pc ls i st v hf) ?_ 100 456 _ (fun q hq => pLb_section_ok q (rx_to_sub q hq)) (w2, w.2.1, fo2) _ _ ls1 H2 (locs1 ++ L) hl1 ⟨lW_putO X.hd hI1.1 hP hF, ?_⟩ (lb_section X.hn hi w.1 w.2.1 w.2.2 hv w2 fo2 kk G1 G2)
  · intro pc g hg w1 lv st ls1 H1 locs1 hl1 hI1 hgw
    obtain ⟨rfl, rfl⟩ := lE_of hg
    obtain ⟨h1, rfl, h3⟩ := hgw
    exact hN H1 locs1 ls1 w1 hI1 h1 (rx_sub_has hl1 h3)
  · have hA : ∀ q, lA ad ao q → lZs s q := fun q h => X.hge q (h.elim Or.inl (fun z => Or.inr (Or.inr z)))
    refine ⟨Nat.le_trans hI1.2.1 hF.1, fun x a1 a2 => (hF.2 x (Nat.lt_of_lt_of_le a1 hI1.2.1) (fun z => a2 (hA x z))).trans (hI1.2.2.1 x a1 a2), fun x hx => ?_⟩
    rcases List.mem_append.mp hx with z | z
    · exact hI1.2.2.2 x z
    · exact hA _ (hL x z)
set_option maxHeartbeats 4000000 in
set_option maxRecDepth 100000 in
theorem lw_letter (X : LX p l s m args c D ad am cB cI cZ cL ao sa n xs) (hret : lRet p l e s m args below meth c Qw D ad am cB cI cZ cL ao) (hf : cells + 1 ≤ 1040 ∧ slots + 6 ≤ 10173) (hi : i + 4 ≤ n) (hN : lAt p l e s m args below meth c Qw D ad am cB cI cZ cL ao sa 797 (cells + 1) (slots + 6) i) : lAt p l e s m args below meth c Qw D ad am cB cI cZ cL ao sa 506 cells slots i := by
  intro H locs ls w hI hv hl
  have hf0 : cells ≤ 1040 ∧ slots ≤ 10173 := ⟨by omega, by omega⟩
  refine rx_sound X.S.1 X.S.2.1 pLa_letter_ok (eoL X hf0) (fun w H locs pc ls i st v => hret cells slots w H locs pc ls i st v hf0) ?_ 60 506 _ (fun q hq => pLa_letter_ok q (rx_to_sub q hq)) w _ [] ls H locs hl hI (la_letter X.hn hi w)
  intro pc g hg w1 lv st ls1 H1 locs1 hl1 hI1 hgw
  obtain ⟨rfl, rfl⟩ := lE_of hg
  obtain ⟨hw1, rfl, rfl⟩ := hgw
  rw [hw1] at hI1
  clear hI hl hg hw1
  have hz : tz (lA ad ao) s H1 := (X.hz.kept hI1.2.1 hI1.2.2.1).narrow (fun q h => X.hge q (h.elim Or.inl (fun z => Or.inr (Or.inr z))))
  obtain ⟨w2, fo2, kk, G1, G2⟩ : ∃ (w2 : cS) (fo2 : Nat → Int64) (kk : Nat), (cLet (cG w.1) w.1.1 ((xs (i + 1))) ((xs (i + 2))) = 0 → w2 = w.1 ∧ fo2 = vp_updL w.2.2 0 (((nI (bg w.1.1 (nmA w.1.1 ((xs (i + 1))).toNatClampNeg + ((xs (i + 2))).toNatClampNeg)))).toInt64) ∧ kk = 0) ∧ (¬ (cLet (cG w.1) w.1.1 ((xs (i + 1))) ((xs (i + 2))) = 0) → w2 = w.1 ∧ fo2 = w.2.2 ∧ kk = cLet (cG w.1) w.1.1 ((xs (i + 1))) ((xs (i + 2)))) := by
    by_cases q : cLet (cG w.1) w.1.1 ((xs (i + 1))) ((xs (i + 2))) = 0
    · exact ⟨_, _, _, fun _ => ⟨rfl, rfl, rfl⟩, fun z => absurd q z⟩
    · exact ⟨_, _, _, fun z => absurd z q, fun _ => ⟨rfl, rfl, rfl⟩⟩
  refine tw_callS (rest := []) X.S (cwL_letter X.hl X.hd.1 X.hd.2.2.2.1 w.1 w.2.2 ((xs (i + 1))) ((xs (i + 2))) (lInv_gd hv) w2 fo2 kk G1 G2) lwK_tr X.hK (tw_C_of 4 X.S.2.2.2.2 (wsA_S wkL_95 wsL_letter winiL wL_letter) rfl (by decide +kernel) ⟨by decide, by decide⟩) (lW_co hI1.1) hz rfl hl1.1 rfl (by decide) (by decide +kernel) ⟨hf.1, hf.2⟩ (fun H2 L hP hF hL => ?_)
  refine rx_sound X.S.1 X.S.2.1 pLb_letter_ok (eoL X hf) (fun w H locs pc ls i st v => hret (cells + 1) (slots + 6) w H locs pc ls i st v hf) ?_ 100 523 _ (fun q hq => pLb_letter_ok q (rx_to_sub q hq)) (w2, w.2.1, fo2) _ _ ls1 H2 (locs1 ++ L) hl1 ⟨lW_putO X.hd hI1.1 hP hF, ?_⟩ (lb_letter X.hn hi w.1 w.2.1 w.2.2 hv w2 fo2 kk G1 G2)
  · intro pc g hg w1 lv st ls1 H1 locs1 hl1 hI1 hgw
    obtain ⟨rfl, rfl⟩ := lE_of hg
    obtain ⟨h1, rfl, h3⟩ := hgw
    exact hN H1 locs1 ls1 w1 hI1 h1 (rx_sub_has hl1 h3)
  · have hA : ∀ q, lA ad ao q → lZs s q := fun q h => X.hge q (h.elim Or.inl (fun z => Or.inr (Or.inr z)))
    refine ⟨Nat.le_trans hI1.2.1 hF.1, fun x a1 a2 => (hF.2 x (Nat.lt_of_lt_of_le a1 hI1.2.1) (fun z => a2 (hA x z))).trans (hI1.2.2.1 x a1 a2), fun x hx => ?_⟩
    rcases List.mem_append.mp hx with z | z
    · exact hI1.2.2.2 x z
    · exact hA _ (hL x z)
set_option maxHeartbeats 4000000 in
set_option maxRecDepth 100000 in
theorem lw_symbols (X : LX p l s m args c D ad am cB cI cZ cL ao sa n xs) (hret : lRet p l e s m args below meth c Qw D ad am cB cI cZ cL ao) (hf : cells + 1 ≤ 1040 ∧ slots + 6 ≤ 10173) (hi : i + 4 ≤ n) (hN : lAt p l e s m args below meth c Qw D ad am cB cI cZ cL ao sa 797 (cells + 1) (slots + 6) i) : lAt p l e s m args below meth c Qw D ad am cB cI cZ cL ao sa 574 cells slots i := by
  intro H locs ls w hI hv hl
  have hf0 : cells ≤ 1040 ∧ slots ≤ 10173 := ⟨by omega, by omega⟩
  refine rx_sound X.S.1 X.S.2.1 pLa_symbols_ok (eoL X hf0) (fun w H locs pc ls i st v => hret cells slots w H locs pc ls i st v hf0) ?_ 60 574 _ (fun q hq => pLa_symbols_ok q (rx_to_sub q hq)) w _ [] ls H locs hl hI (la_symbols X.hn hi w)
  intro pc g hg w1 lv st ls1 H1 locs1 hl1 hI1 hgw
  obtain ⟨rfl, rfl⟩ := lE_of hg
  obtain ⟨hw1, rfl, rfl⟩ := hgw
  rw [hw1] at hI1
  clear hI hl hg hw1
  have hz : tz (lA ad ao) s H1 := (X.hz.kept hI1.2.1 hI1.2.2.1).narrow (fun q h => X.hge q (h.elim Or.inl (fun z => Or.inr (Or.inr z))))
  obtain ⟨w2, fo2, kk, G1, G2⟩ : ∃ (w2 : cS) (fo2 : Nat → Int64) (kk : Nat), (cSyms (cG w.1) w.1.1 ((xs (i + 1))) = 0 → w2 = w.1 ∧ fo2 = vp_updL w.2.2 0 (((nI (cO w.1.1 ((xs (i + 1))).toNatClampNeg))).toInt64) ∧ kk = 0) ∧ (¬ (cSyms (cG w.1) w.1.1 ((xs (i + 1))) = 0) → w2 = w.1 ∧ fo2 = w.2.2 ∧ kk = cSyms (cG w.1) w.1.1 ((xs (i + 1)))) := by
    by_cases q : cSyms (cG w.1) w.1.1 ((xs (i + 1))) = 0
    · exact ⟨_, _, _, fun _ => ⟨rfl, rfl, rfl⟩, fun z => absurd q z⟩
    · exact ⟨_, _, _, fun z => absurd z q, fun _ => ⟨rfl, rfl, rfl⟩⟩
  refine tw_callS (rest := []) X.S (cwL_symbols X.hl X.hd.1 X.hd.2.2.2.1 w.1 w.2.2 ((xs (i + 1))) (lInv_gd hv) w2 fo2 kk G1 G2) lwK_tr X.hK (tw_C_of 3 X.S.2.2.2.2 (wsA_S wkL_98 wsL_symbols winiL wL_symbols) rfl (by decide +kernel) ⟨by decide, by decide⟩) (lW_co hI1.1) hz rfl hl1.1 rfl (by decide) (by decide +kernel) ⟨hf.1, hf.2⟩ (fun H2 L hP hF hL => ?_)
  refine rx_sound X.S.1 X.S.2.1 pLb_symbols_ok (eoL X hf) (fun w H locs pc ls i st v => hret (cells + 1) (slots + 6) w H locs pc ls i st v hf) ?_ 100 585 _ (fun q hq => pLb_symbols_ok q (rx_to_sub q hq)) (w2, w.2.1, fo2) _ _ ls1 H2 (locs1 ++ L) hl1 ⟨lW_putO X.hd hI1.1 hP hF, ?_⟩ (lb_symbols X.hn hi w.1 w.2.1 w.2.2 hv w2 fo2 kk G1 G2)
  · intro pc g hg w1 lv st ls1 H1 locs1 hl1 hI1 hgw
    obtain ⟨rfl, rfl⟩ := lE_of hg
    obtain ⟨h1, rfl, h3⟩ := hgw
    exact hN H1 locs1 ls1 w1 hI1 h1 (rx_sub_has hl1 h3)
  · have hA : ∀ q, lA ad ao q → lZs s q := fun q h => X.hge q (h.elim Or.inl (fun z => Or.inr (Or.inr z)))
    refine ⟨Nat.le_trans hI1.2.1 hF.1, fun x a1 a2 => (hF.2 x (Nat.lt_of_lt_of_le a1 hI1.2.1) (fun z => a2 (hA x z))).trans (hI1.2.2.1 x a1 a2), fun x hx => ?_⟩
    rcases List.mem_append.mp hx with z | z
    · exact hI1.2.2.2 x z
    · exact hA _ (hL x z)
set_option maxHeartbeats 4000000 in
set_option maxRecDepth 100000 in
theorem lw_symbol (X : LX p l s m args c D ad am cB cI cZ cL ao sa n xs) (hret : lRet p l e s m args below meth c Qw D ad am cB cI cZ cL ao) (hf : cells + 1 ≤ 1040 ∧ slots + 6 ≤ 10173) (hi : i + 4 ≤ n) (hN : lAt p l e s m args below meth c Qw D ad am cB cI cZ cL ao sa 797 (cells + 1) (slots + 6) i) : lAt p l e s m args below meth c Qw D ad am cB cI cZ cL ao sa 630 cells slots i := by
  intro H locs ls w hI hv hl
  have hf0 : cells ≤ 1040 ∧ slots ≤ 10173 := ⟨by omega, by omega⟩
  refine rx_sound X.S.1 X.S.2.1 pLa_symbol_ok (eoL X hf0) (fun w H locs pc ls i st v => hret cells slots w H locs pc ls i st v hf0) ?_ 60 630 _ (fun q hq => pLa_symbol_ok q (rx_to_sub q hq)) w _ [] ls H locs hl hI (la_symbol X.hn hi w)
  intro pc g hg w1 lv st ls1 H1 locs1 hl1 hI1 hgw
  obtain ⟨rfl, rfl⟩ := lE_of hg
  obtain ⟨hw1, rfl, rfl⟩ := hgw
  rw [hw1] at hI1
  clear hI hl hg hw1
  have hz : tz (lA ad ao) s H1 := (X.hz.kept hI1.2.1 hI1.2.2.1).narrow (fun q h => X.hge q (h.elim Or.inl (fun z => Or.inr (Or.inr z))))
  obtain ⟨w2, fo2, kk, G1, G2⟩ : ∃ (w2 : cS) (fo2 : Nat → Int64) (kk : Nat), (cSym (cG w.1) w.1.1 ((xs (i + 1))) ((xs (i + 2))) ((xs (i + 3))) = 0 → w2 = w.1 ∧ fo2 = vp_updL w.2.2 0 ((lN (vSym w.1.1 ((xs (i + 1))).toNatClampNeg ((xs (i + 2))).toNatClampNeg ((xs (i + 3))).toNatClampNeg))) ∧ kk = 0) ∧ (¬ (cSym (cG w.1) w.1.1 ((xs (i + 1))) ((xs (i + 2))) ((xs (i + 3))) = 0) → w2 = w.1 ∧ fo2 = w.2.2 ∧ kk = cSym (cG w.1) w.1.1 ((xs (i + 1))) ((xs (i + 2))) ((xs (i + 3)))) := by
    by_cases q : cSym (cG w.1) w.1.1 ((xs (i + 1))) ((xs (i + 2))) ((xs (i + 3))) = 0
    · exact ⟨_, _, _, fun _ => ⟨rfl, rfl, rfl⟩, fun z => absurd q z⟩
    · exact ⟨_, _, _, fun z => absurd z q, fun _ => ⟨rfl, rfl, rfl⟩⟩
  refine tw_callS (rest := []) X.S (cwL_symbol X.hl X.hd.1 X.hd.2.2.2.1 w.1 w.2.2 ((xs (i + 1))) ((xs (i + 2))) ((xs (i + 3))) (lInv_gd hv) w2 fo2 kk G1 G2) lwK_tr X.hK (tw_C_of 5 X.S.2.2.2.2 (wsA_S wkL_101 wsL_symbol winiL wL_symbol) rfl (by decide +kernel) ⟨by decide, by decide⟩) (lW_co hI1.1) hz rfl hl1.1 rfl (by decide) (by decide +kernel) ⟨hf.1, hf.2⟩ (fun H2 L hP hF hL => ?_)
  refine rx_sound X.S.1 X.S.2.1 pLb_symbol_ok (eoL X hf) (fun w H locs pc ls i st v => hret (cells + 1) (slots + 6) w H locs pc ls i st v hf) ?_ 100 653 _ (fun q hq => pLb_symbol_ok q (rx_to_sub q hq)) (w2, w.2.1, fo2) _ _ ls1 H2 (locs1 ++ L) hl1 ⟨lW_putO X.hd hI1.1 hP hF, ?_⟩ (lb_symbol X.hn hi w.1 w.2.1 w.2.2 hv w2 fo2 kk G1 G2)
  · intro pc g hg w1 lv st ls1 H1 locs1 hl1 hI1 hgw
    obtain ⟨rfl, rfl⟩ := lE_of hg
    obtain ⟨h1, rfl, h3⟩ := hgw
    exact hN H1 locs1 ls1 w1 hI1 h1 (rx_sub_has hl1 h3)
  · have hA : ∀ q, lA ad ao q → lZs s q := fun q h => X.hge q (h.elim Or.inl (fun z => Or.inr (Or.inr z)))
    refine ⟨Nat.le_trans hI1.2.1 hF.1, fun x a1 a2 => (hF.2 x (Nat.lt_of_lt_of_le a1 hI1.2.1) (fun z => a2 (hA x z))).trans (hI1.2.2.1 x a1 a2), fun x hx => ?_⟩
    rcases List.mem_append.mp hx with z | z
    · exact hI1.2.2.2 x z
    · exact hA _ (hL x z)
set_option maxHeartbeats 4000000 in
set_option maxRecDepth 100000 in
theorem lw_find (X : LX p l s m args c D ad am cB cI cZ cL ao sa n xs) (hret : lRet p l e s m args below meth c Qw D ad am cB cI cZ cL ao) (hf : cells + 1 ≤ 1040 ∧ slots + 6 ≤ 10173) (hi : i + 4 ≤ n) (hN : lAt p l e s m args below meth c Qw D ad am cB cI cZ cL ao sa 797 (cells + 1) (slots + 6) i) : lAt p l e s m args below meth c Qw D ad am cB cI cZ cL ao sa 709 cells slots i := by
  intro H locs ls w hI hv hl
  have hf0 : cells ≤ 1040 ∧ slots ≤ 10173 := ⟨by omega, by omega⟩
  refine rx_sound X.S.1 X.S.2.1 pLa_find_ok (eoL X hf0) (fun w H locs pc ls i st v => hret cells slots w H locs pc ls i st v hf0) ?_ 60 709 _ (fun q hq => pLa_find_ok q (rx_to_sub q hq)) w _ [] ls H locs hl hI (la_find X.hn hi w)
  intro pc g hg w1 lv st ls1 H1 locs1 hl1 hI1 hgw
  obtain ⟨rfl, rfl⟩ := lE_of hg
  obtain ⟨hw1, rfl, rfl⟩ := hgw
  rw [hw1] at hI1
  clear hI hl hg hw1
  have hz : tz (lA ad ao) s H1 := (X.hz.kept hI1.2.1 hI1.2.2.1).narrow (fun q h => X.hge q (h.elim Or.inl (fun z => Or.inr (Or.inr z))))
  obtain ⟨w2, fo2, kk, G1, G2⟩ : ∃ (w2 : cS) (fo2 : Nat → Int64) (kk : Nat), (cG w.1 → w2 = w.1 ∧ fo2 = vp_updL w.2.2 0 (((oI (fun k => gL w.1.1 k ∧ gI w.1.1 (uN ((jn (xs (i + 1)) (xs (i + 2))))) k) (gC w.1.1))).toInt64) ∧ kk = 0) ∧ (¬ (cG w.1) → w2 = w.1 ∧ fo2 = w.2.2 ∧ kk = 1) := by
    by_cases q : cG w.1
    · exact ⟨_, _, _, fun _ => ⟨rfl, rfl, rfl⟩, fun z => absurd q z⟩
    · exact ⟨_, _, _, fun z => absurd z q, fun _ => ⟨rfl, rfl, rfl⟩⟩
  refine tw_callS (rest := []) X.S (cwL_find X.hl X.hd.1 X.hd.2.2.2.1 w.1 w.2.2 ((jn (xs (i + 1)) (xs (i + 2)))) (lInv_gd hv) w2 fo2 kk G1 G2) lwK_tr X.hK (tw_C_of 3 X.S.2.2.2.2 (wsA_S wkL_105 wsL_find winiL wL_find) rfl (by decide +kernel) ⟨by decide, by decide⟩) (lW_co hI1.1) hz rfl hl1.1 rfl (by decide) (by decide +kernel) ⟨hf.1, hf.2⟩ (fun H2 L hP hF hL => ?_)
  refine rx_sound X.S.1 X.S.2.1 pLb_find_ok (eoL X hf) (fun w H locs pc ls i st v => hret (cells + 1) (slots + 6) w H locs pc ls i st v hf) ?_ 100 736 _ (fun q hq => pLb_find_ok q (rx_to_sub q hq)) (w2, w.2.1, fo2) _ _ ls1 H2 (locs1 ++ L) hl1 ⟨lW_putO X.hd hI1.1 hP hF, ?_⟩ (lb_find X.hn hi w.1 w.2.1 w.2.2 hv w2 fo2 kk G1 G2)
  · intro pc g hg w1 lv st ls1 H1 locs1 hl1 hI1 hgw
    obtain ⟨rfl, rfl⟩ := lE_of hg
    obtain ⟨h1, rfl, h3⟩ := hgw
    exact hN H1 locs1 ls1 w1 hI1 h1 (rx_sub_has hl1 h3)
  · have hA : ∀ q, lA ad ao q → lZs s q := fun q h => X.hge q (h.elim Or.inl (fun z => Or.inr (Or.inr z)))
    refine ⟨Nat.le_trans hI1.2.1 hF.1, fun x a1 a2 => (hF.2 x (Nat.lt_of_lt_of_le a1 hI1.2.1) (fun z => a2 (hA x z))).trans (hI1.2.2.1 x a1 a2), fun x hx => ?_⟩
    rcases List.mem_append.mp hx with z | z
    · exact hI1.2.2.2 x z
    · exact hA _ (hL x z)
set_option maxHeartbeats 4000000 in
set_option maxRecDepth 100000 in
theorem lw_head (X : LX p l s m args c D ad am cB cI cZ cL ao sa n xs) (hret : lRet p l e s m args below meth c Qw D ad am cB cI cZ cL ao) (hf : cells ≤ 1040 ∧ slots ≤ 10173) (hi : i ≤ n) (hN : i + 4 ≤ n → (cells + 1 ≤ 1040 ∧ slots + 6 ≤ 10173) ∧ lAt p l e s m args below meth c Qw D ad am cB cI cZ cL ao sa 23 (cells + 1) (slots + 6) (i + 4)) : lAt p l e s m args below meth c Qw D ad am cB cI cZ cL ao sa 23 cells slots i := by
  intro H locs ls w hI hv hl
  refine rx_sound X.S.1 X.S.2.1 pLh_ok (eoL X hf) (fun w H locs pc ls i st v => hret cells slots w H locs pc ls i st v hf) ?_ 60 23 _ (fun q hq => pLh_ok q (rx_to_sub q hq)) w _ [] ls H locs hl hI (lh_run X.hn hi w)
  intro pc g hg w1 lv st ls1 H1 locs1 hl1 hI1 hgw
  obtain ⟨hpc, rfl⟩ := lEs_of hg
  obtain ⟨h4, rfl, rfl, rfl⟩ := hgw
  obtain ⟨hf1, hN1⟩ := hN h4
  have hE := lw_tail X hret hf1 hN1
  clear hg hI hl
  rcases List.mem_cons.mp hpc with rfl | hpc
  · exact lw_feed X hret hf1 h4 hE H1 locs1 ls1 _ hI1 hv hl1
  rcases List.mem_cons.mp hpc with rfl | hpc
  · exact lw_spoil X hret hf1 h4 hE H1 locs1 ls1 _ hI1 hv hl1
  rcases List.mem_cons.mp hpc with rfl | hpc
  · exact w_more (Nat.le_succ _) (Nat.le_add_right _ 6) (lw_clear X hret hf1 hE H1 locs1 ls1 _ hI1 hv hl1)
  rcases List.mem_cons.mp hpc with rfl | hpc
  · exact w_more (Nat.le_succ _) (Nat.le_add_right _ 6) (lw_judge X hret hf1 hE H1 locs1 ls1 _ hI1 hv hl1)
  rcases List.mem_cons.mp hpc with rfl | hpc
  · exact lw_broken X hret hf1 h4 hE H1 locs1 ls1 _ hI1 hv hl1
  rcases List.mem_cons.mp hpc with rfl | hpc
  · exact lw_many X hret hf1 h4 hE H1 locs1 ls1 _ hI1 hv hl1
  rcases List.mem_cons.mp hpc with rfl | hpc
  · exact lw_segment X hret hf1 h4 hE H1 locs1 ls1 _ hI1 hv hl1
  rcases List.mem_cons.mp hpc with rfl | hpc
  · exact lw_section X hret hf1 h4 hE H1 locs1 ls1 _ hI1 hv hl1
  rcases List.mem_cons.mp hpc with rfl | hpc
  · exact lw_letter X hret hf1 h4 hE H1 locs1 ls1 _ hI1 hv hl1
  rcases List.mem_cons.mp hpc with rfl | hpc
  · exact lw_symbols X hret hf1 h4 hE H1 locs1 ls1 _ hI1 hv hl1
  rcases List.mem_cons.mp hpc with rfl | hpc
  · exact lw_symbol X hret hf1 h4 hE H1 locs1 ls1 _ hI1 hv hl1
  rcases List.mem_cons.mp hpc with rfl | hpc
  · exact lw_find X hret hf1 h4 hE H1 locs1 ls1 _ hI1 hv hl1
  rcases List.mem_cons.mp hpc with rfl | hpc
  · exact w_more (Nat.le_succ _) (Nat.le_add_right _ 6) (hE H1 locs1 ls1 _ hI1 hv hl1)
  cases hpc
theorem lw_loop (X : LX p l s m args c D ad am cB cI cZ cL ao sa n xs) (hret : lRet p l e s m args below meth c Qw D ad am cB cI cZ cL ao) : ∀ (u i cells slots : Nat), n < i + 4 * u + 4 → i ≤ n → cells + u ≤ 1040 → slots + 6 * u ≤ 10173 → lAt p l e s m args below meth c Qw D ad am cB cI cZ cL ao sa 23 cells slots i
  | 0, i, cells, slots, h1, h2, h3, h4 => lw_head X hret ⟨by omega, by omega⟩ h2 (fun q => absurd q (by omega))
  | u + 1, i, cells, slots, h1, h2, h3, h4 => lw_head X hret ⟨by omega, by omega⟩ h2 (fun q => ⟨⟨by omega, by omega⟩, lw_loop X hret u (i + 4) (cells + 1) (slots + 6) (by omega) q (by omega) (by omega)⟩)
end LWL
