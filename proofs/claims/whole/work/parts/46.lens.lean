/-! The law's own state: the class's, the reference's, the array of one long. Calls that see a part of it. -/
abbrev LSt : Type := cS × mS × (Nat → Int64)
abbrev lW (ad am : Nat → Nat) (cB cI cZ cL : ClassId) (ao : Nat) (w : LSt) : va_W := cW ad cB w.1 ++ (mW am cI cZ w.2.1 ++ cU ao cL w.2.2)
def lD (ad am : Nat → Nat) (ao : Nat) : Prop := cJ ad ∧ mJ am ∧ (∀ q, cA ad q → ¬ mA am q) ∧ ¬ cA ad ao ∧ ¬ mA am ao
theorem cU_at {ao : Nat} {cL : ClassId} {f : Nat → Int64} {k : Nat} {q : Nat × va_E} (h : (cU ao cL f)[k]? = some q) : q.1 = ao := by
  have h1 : k < 1 := (List.getElem?_eq_some_iff.mp h).1
  have h2 : k = 0 := by omega
  subst h2
  cases h
  rfl
section LWP
variable {D : va_G} {cl : List vw_C} {ad am : Nat → Nat} {cB cI cZ cL : ClassId} {ao : Nat} {w : LSt} {H H1 : Heap}
theorem lW_c (h : va_P D cl (lW ad am cB cI cZ cL ao w) H) : va_P D cl (cW ad cB w.1) H := va_P_l h
theorem lW_m (h : va_P D cl (lW ad am cB cI cZ cL ao w) H) : va_P D cl (mW am cI cZ w.2.1) H := va_P_l (va_P_r h)
theorem lW_o (h : va_P D cl (lW ad am cB cI cZ cL ao w) H) : va_P D cl (cU ao cL w.2.2) H := va_P_r (va_P_r h)
theorem lW_co (h : va_P D cl (lW ad am cB cI cZ cL ao w) H) : va_P D cl (lC ad cB ao cL w.1 w.2.2) H := va_P.app (lW_c h) (lW_o h)
theorem lW_putC (hd : lD ad am ao) (h : va_P D cl (lW ad am cB cI cZ cL ao w) H) {wc : cS} (h1 : va_P D cl (cW ad cB wc) H1) (hF : tx_F (cA ad) H H1) : va_P D cl (lW ad am cB cI cZ cL ao (wc, w.2)) H1 := by
  have a1 : va_P D cl (mW am cI cZ w.2.1) H1 := va_P_o (lW_m h) hF (fun k q hq z => hd.2.2.1 q.1 z ⟨k, (mW_at hq).1, (mW_at hq).2⟩)
  have a2 : va_P D cl (cU ao cL w.2.2) H1 := va_P_o (lW_o h) hF (fun k q hq z => hd.2.2.2.1 (by rw [cU_at hq] at z; exact z))
  exact va_P.app h1 (va_P.app a1 a2)
theorem lW_putM (hd : lD ad am ao) (h : va_P D cl (lW ad am cB cI cZ cL ao w) H) {wm : mS} (h1 : va_P D cl (mW am cI cZ wm) H1) (hF : tx_F (mA am) H H1) : va_P D cl (lW ad am cB cI cZ cL ao (w.1, wm, w.2.2)) H1 := by
  have a1 : va_P D cl (cW ad cB w.1) H1 := va_P_o (lW_c h) hF (fun k q hq z => hd.2.2.1 q.1 ⟨k, (cW_at hq).1, (cW_at hq).2⟩ z)
  have a2 : va_P D cl (cU ao cL w.2.2) H1 := va_P_o (lW_o h) hF (fun k q hq z => hd.2.2.2.2 (by rw [cU_at hq] at z; exact z))
  exact va_P.app a1 (va_P.app h1 a2)
theorem lW_putO (hd : lD ad am ao) (h : va_P D cl (lW ad am cB cI cZ cL ao w) H) {wc : cS} {f : Nat → Int64} (h1 : va_P D cl (lC ad cB ao cL wc f) H1) (hF : tx_F (lA ad ao) H H1) : va_P D cl (lW ad am cB cI cZ cL ao (wc, w.2.1, f)) H1 := by
  have a1 : va_P D cl (mW am cI cZ w.2.1) H := lW_m h
  refine va_P.app (va_P_l h1) (va_P.app (va_P_o a1 hF (fun k q hq z => ?_)) (va_P_r h1))
  have hm : mA am q.1 := ⟨k, (mW_at hq).1, (mW_at hq).2⟩
  rcases z with z | z
  · exact hd.2.2.1 q.1 z hm
  · exact hd.2.2.2.2 (by rw [← z]; exact hm)
end LWP
def liC (f : rx_F cS) : rx_F LSt := fun w as => match f w.1 as with
  | some (g, w1, r) => some (g, (w1, w.2), r)
  | none => none
def liM (f : rx_F mS) : rx_F LSt := fun w as => match f w.2.1 as with
  | some (g, w1, r) => some (g, (w.1, w1, w.2.2), r)
  | none => none
theorem liC_of {f : rx_F cS} {w : LSt} {as : List Value} {g : Prop} {w1 : LSt} {r : Option Value} (h : liC f w as = some (g, w1, r)) : ∃ wc, f w.1 as = some (g, wc, r) ∧ w1 = (wc, w.2) := by
  unfold liC at h
  split at h
  · next g' w' r' e => cases h; exact ⟨w', e, rfl⟩
  · cases h
theorem liM_of {f : rx_F mS} {w : LSt} {as : List Value} {g : Prop} {w1 : LSt} {r : Option Value} (h : liM f w as = some (g, w1, r)) : ∃ wm, f w.2.1 as = some (g, wm, r) ∧ w1 = (w.1, wm, w.2.2) := by
  unfold liM at h
  split at h
  · next g' w' r' e => cases h; exact ⟨w', e, rfl⟩
  · cases h
section LRV
variable {σ : Type} {p : Program} {l : Launch} {e : Env} {R : Room} {s : State} {m : MethodId} {args : Array Value} {below : List Frame} {meth : Method} {c : Code} {cells slots : Nat} {Qw : State → Prop} {cc : ByteArray} {nL : Nat}
variable {K : State → Prop} {D : va_G} {cl : List vw_C} {A A1 : Nat → Prop} {Wf pr : σ → va_W} {own : String} {Ts : List Cond}
theorem lr_go {H : Heap} {locs : List Loc} {pc : Nat} {ls : Array Slot} {st0 rest : List Value} {W2 : va_W} {r : Option Value} {a : Array Value}
    (hr : va_Run p l e R s m args below meth c H locs cells slots 0 0 (F0 m pc ls st0) rest (tr_Qc D cl A1 W2 r a) A1)
    (kk : ∀ (H1 : Heap) (L : List Loc), va_P D cl W2 H1 → tx_F A1 H H1 → (∀ q ∈ L, A1 q.base) → W p l e R s m args below meth c H1 (locs ++ L) cells slots Qw (F0 m (pc + 3) ls (r.toList ++ rest))) : W p l e R s m args below meth c H locs cells slots Qw (F0 m pc ls st0) := by
  intro T hT X
  obtain ⟨v, st₀, t, T', L, h0, X', hL, e1, e2, ⟨hv, hp, hF⟩, st⟩ := hr T hT X
  cases hv
  obtain ⟨t2, a1, b1⟩ := kk T'.heap L (by rw [e1]; exact hp) ⟨by rw [e1, ← h0]; exact hF.1, fun q h1 h2 => by rw [e1, ← h0]; exact hF.2 q (by rw [h0]; exact h1) h2⟩ hL T' rfl X'
  exact ⟨t2, st t2 a1, b1⟩
theorem lr_hV {j n b : Nat} {f : rx_F σ} {y : MethodName} {ws : List Cond} {rm : Room} {C : String} {maxL : Nat} {bytes : ByteArray} {ret : Option FieldType}
    (S : CallFix p m c cc nL s args Ts own) (hf : cells ≤ R.cells ∧ slots ≤ R.slots) (tK : tr_K K) (hKs : K s)
    (cw : CallW R s args own C j y bytes maxL ret ws rm 0 0 n) (hA : ∀ q, A1 q → A q)
    (hM : ∀ (w : σ) (as : List Value) (g : Prop) (w1 : σ) (r : Option Value), f w as = some (g, w1, r) → g → tr l y ws rm K D cl A1 (.ref b :: as) (pr w) (pr w1) r)
    (hpr : ∀ (w : σ) (H : Heap), va_P D cl (Wf w) H → va_P D cl (pr w) H)
    (hput : ∀ (w : σ) (as : List Value) (g : Prop) (w1 : σ) (r : Option Value) (H H1 : Heap), f w as = some (g, w1, r) → va_P D cl (Wf w) H → va_P D cl (pr w1) H1 → tx_F A1 H H1 → va_P D cl (Wf w1) H1)
    (hrec : ∀ (w : σ) (H : Heap), va_P D cl (Wf w) H → ∃ cellB : Cell, H[b]? = some cellB ∧ cellB.vm.isStatics = false ∧ s.vm.findClass C = some cellB.cls) :
    rx_Eok (fun H locs g => W p l e R s m args below meth c H locs cells slots Qw g) m cc nL (tr_I D cl A s Wf) (rx_hV j n b f) := by
  intro w H locs pc ls i st q hI hs e1 hd
  unfold rx_hV at e1
  split at e1
  · next j' =>
    cases hj : (j' == j) with
    | false => rw [hj] at e1; cases e1
    | true =>
      rw [hj] at e1
      have hj2 : j' = j := by simpa using hj
      subst hj2
      simp only [cond_true] at e1
      split at e1
      · next as b' rest hpop =>
        split at e1
        · next hb =>
          subst hb
          obtain ⟨bs, q1, q2, q3⟩ := rx_pop_eq _ _ _ _ _ hpop
          rw [List.append_nil] at q3
          cases ef : f w as with
          | none => rw [ef] at e1; cases e1
          | some z =>
            obtain ⟨g, w1, r⟩ := z
            rw [ef] at e1
            cases e1
            intro hg kk
            have hMy := hM w as g w1 r ef hg.1
            refine lr_go (va_runV (C := C) (bytes := bytes) (maxL := maxL) (ret := ret) (n := n) (b := b') (As := as) (rest := rest) S hMy cw ⟨tr_blind tK, hrec w H hI.1, fun U hU hW => ⟨rfl, by rw [hU]; exact hpr w H hI.1, tK.2 s U hW hKs⟩⟩ rfl (by rw [q3, List.length_reverse]; exact q1) hs (by rw [q3, List.reverse_reverse]; exact q2) (by rw [rx_sum_eq]; show 2 * 0 + _ ≤ 8; omega) hd ⟨hf.1, hf.2⟩) (fun H1 L h1 h2 h3 => kk H1 (locs ++ L) ⟨hput w as g w1 r H H1 ef hI.1 h1 h2, ?_⟩)
            refine ⟨Nat.le_trans hI.2.1 h2.1, fun x a1 a2 => (h2.2 x (Nat.lt_of_lt_of_le a1 hI.2.1) (fun z => a2 (hA x z))).trans (hI.2.2.1 x a1 a2), fun x hx => ?_⟩
            rcases List.mem_append.mp hx with z | z
            · exact hI.2.2.2 x z
            · exact hA _ (h3 x z)
        · cases e1
      · cases e1
  · cases e1
end LRV
