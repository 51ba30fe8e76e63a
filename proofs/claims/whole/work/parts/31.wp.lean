/-! what is left to show: a method's walk to a wanted end, the heap's shape as it was -/
abbrev fI (v : Int32) : Option Value := some (.int v)
abbrev fR (a : Nat) : Option Value := some (.ref a)
abbrev fV (_ : Unit) : Option Value := none
def XF {α : Type} (f : α → Option Value) (l : Launch) (C : xC) (M : xM) (pc : Nat) (ls : List (Option Value)) (st : List Value) (G : xG) (I : xI) (Q : α → xI → Prop) : Prop := ∃ v I', XW l C M pc ls st G I (f v) G I' ∧ Q v I'
section XFs
variable {α β : Type} {f : α → Option Value} {fc : β → Option Value} {l : Launch} {C : xC} {M M2 : xM} {pc nx pc2 : Nat} {ls ls2 : List (Option Value)} {st st2 stk : List Value} {G : xG} {I I2 : xI} {Q R : α → xI → Prop} {Qc : β → xI → Prop}
theorem XF.lift (hk : XF f l C M pc2 ls2 st2 G I2 Q) (h : ∀ r I', XW l C M pc2 ls2 st2 G I2 r G I' → XW l C M pc ls st G I r G I') : XF f l C M pc ls st G I Q := by
  obtain ⟨v, I', h1, h2⟩ := hk
  exact ⟨v, I', h _ _ h1, h2⟩
theorem XF.br {P : Prop} (h1 : P → XF f l C M pc ls st G I Q) (h2 : ¬ P → XF f l C M pc ls st G I Q) : XF f l C M pc ls st G I Q := by
  by_cases h : P
  · exact h1 h
  · exact h2 h
theorem XF.call {ent : List (Option Value)} (hc : XF fc l C M2 0 ent [] G I Qc) (hw : ∀ v I1 r I', XW l C M2 0 ent [] G I (fc v) G I1 → XW l C M nx ls ((fc v).toList ++ st) G I1 r G I' → XW l C M pc ls stk G I r G I') (hk : ∀ v I1, Qc v I1 → XF f l C M nx ls ((fc v).toList ++ st) G I1 Q) : XF f l C M pc ls stk G I Q := by
  obtain ⟨v, I1, h1, h2⟩ := hc
  obtain ⟨w, I', h3, h4⟩ := hk v I1 h2
  exact ⟨w, I', hw _ _ _ _ h1 h3, h4⟩
theorem XF.mono (h : XF f l C M pc ls st G I Q) (hq : ∀ v I', Q v I' → R v I') : XF f l C M pc ls st G I R := by
  obtain ⟨v, I', h1, h2⟩ := h
  exact ⟨v, I', h1, hq _ _ h2⟩
theorem XF.of {v : α} {I' : xI} (h : XW l C M pc ls st G I (f v) G I') : XF f l C M pc ls st G I (fun w J => w = v ∧ J = I') := ⟨v, I', h, rfl, rfl⟩
theorem XF.to (h : XF f l C M pc ls2 st2 G I2 Q) (h1 : ls = ls2) (h2 : st = st2) (h3 : I = I2) : XF f l C M pc ls st G I Q := by subst h1; subst h2; subst h3; exact h
end XFs
/-- a line's object -/
def LN (G : xG) (a : Nat) : Prop := gO G a 2 ∨ gO G a 8 ∨ gO G a 1
def LSu (G : xG) (a : Nat) : Prop := gO G a 8 ∨ gO G a 1
theorem gO_tag {G : xG} {a c : Nat} (h : gO G a c) : gT G a = c := h.2.2
theorem LN.held {G : xG} {a : Nat} (h : LN G a) (hc : gT G a = 1) : gO G a 1 := by
  rcases h with h | h | h
  · have := gO_tag h; omega
  · have := gO_tag h; omega
  · exact h
theorem LN.sure {G : xG} {a : Nat} (h : LN G a) (hc : ¬ gT G a = 2) : LSu G a := by
  rcases h with h | h | h
  · exact absurd (gO_tag h) hc
  · exact Or.inl h
  · exact Or.inr h
def kpt (G : xG) (I : xI) (a : Nat) : Int32 := if gT G a = 2 then 0 else I a 2
def knd (G : xG) (a : Nat) : Int32 := if gT G a = 2 then 0 else if gT G a = 8 then 1 else 2
abbrev SA (p t : Int32) : Prop := 0 < p ∧ (t + 1) - (t + 1) / p * p = 0
theorem tab_out3 {x : Int32} (h3 : ¬ x = 3) (h4 : ¬ x = 4) (h5 : ¬ x = 5) : x.toInt < 3 ∨ 5 < x.toInt := by
  have e3 : ¬ x.toInt = 3 := fun z => h3 (Int32.toInt_inj.mp (by rw [z]; rfl))
  have e4 : ¬ x.toInt = 4 := fun z => h4 (Int32.toInt_inj.mp (by rw [z]; rfl))
  have e5 : ¬ x.toInt = 5 := fun z => h5 (Int32.toInt_inj.mp (by rw [z]; rfl))
  omega
section XLs
variable {l : Launch} {C : xC} {M : xM} {pc nx idx k a : Nat} {ls : List (Option Value)} {st : List Value} {G : xG} {I I' : xI} {r : Option Value}
theorem XW.getL (hd : xd M.2.1 pc (.getfield idx) 3 nx) (f2 : xF M.1.cls idx 2 k) (f8 : xF M.1.cls idx 8 k) (f1 : xF M.1.cls idx 1 k) (hk : xrf 2 k = false ∧ xrf 8 k = false ∧ xrf 1 k = false) (ha : LN G a) (kk : XW l C M nx ls (.int (I a k) :: st) G I r G I') : XW l C M pc ls (.ref a :: st) G I r G I' := by
  rcases ha with ha | ha | ha
  · exact XW.getI hd f2 hk.1 ha kk
  · exact XW.getI hd f8 hk.2.1 ha kk
  · exact XW.getI hd f1 hk.2.2 ha kk
theorem XW.getS (hd : xd M.2.1 pc (.getfield idx) 3 nx) (f8 : xF M.1.cls idx 8 k) (f1 : xF M.1.cls idx 1 k) (hk : xrf 8 k = false ∧ xrf 1 k = false) (ha : LSu G a) (kk : XW l C M nx ls (.int (I a k) :: st) G I r G I') : XW l C M pc ls (.ref a :: st) G I r G I' := by
  rcases ha with ha | ha
  · exact XW.getI hd f8 hk.1 ha kk
  · exact XW.getI hd f1 hk.2 ha kk
def xWr (M : xM) (c k : Nat) : Bool := (match vwCl[c]? with | some q => !(q.2.1 k).2.2.2 | none => false) && !(xrf c k) && (match xTy c k with | .int => true | _ => false)
theorem xWr_P {c k : Nat} (h : xWr M c k = true) : xP M c k ∧ xrf c k = false ∧ ∀ x : Int32, narrow (xTy c k) (.int x) = .int x ∧ fits (xTy c k) (.int x) = true := by
  unfold xWr at h
  simp only [Bool.and_eq_true, Bool.not_eq_true'] at h
  obtain ⟨⟨h1, h2⟩, h3⟩ := h
  refine ⟨fun q hq => Or.inl ?_, h2, fun x => ?_⟩
  · rw [hq] at h1
    simpa using h1
  · cases ht : xTy c k with
    | int => exact ⟨rfl, rfl⟩
    | _ => rw [ht] at h3; exact absurd h3 (by simp)
theorem XW.putL {x : Int32} (hd : xd M.2.1 pc (.putfield idx) 3 nx) (f2 : xF M.1.cls idx 2 k) (f8 : xF M.1.cls idx 8 k) (f1 : xF M.1.cls idx 1 k) (hk : xWr M 2 k = true ∧ xWr M 8 k = true ∧ xWr M 1 k = true) (ha : LN G a) (kk : XW l C M nx ls st G (wI I a k x) r G I') : XW l C M pc ls (.int x :: .ref a :: st) G I r G I' := by
  rcases ha with ha | ha | ha
  · obtain ⟨p1, p2, p3⟩ := xWr_P hk.1
    exact XW.putI hd f2 p1 p2 (p3 x) ha kk
  · obtain ⟨p1, p2, p3⟩ := xWr_P hk.2.1
    exact XW.putI hd f8 p1 p2 (p3 x) ha kk
  · obtain ⟨p1, p2, p3⟩ := xWr_P hk.2.2
    exact XW.putI hd f1 p1 p2 (p3 x) ha kk
theorem XW.putS {x : Int32} (hd : xd M.2.1 pc (.putfield idx) 3 nx) (f8 : xF M.1.cls idx 8 k) (f1 : xF M.1.cls idx 1 k) (hk : xWr M 8 k = true ∧ xWr M 1 k = true) (ha : LSu G a) (kk : XW l C M nx ls st G (wI I a k x) r G I') : XW l C M pc ls (.int x :: .ref a :: st) G I r G I' := by
  rcases ha with ha | ha
  · obtain ⟨p1, p2, p3⟩ := xWr_P hk.1
    exact XW.putI hd f8 p1 p2 (p3 x) ha kk
  · obtain ⟨p1, p2, p3⟩ := xWr_P hk.2
    exact XW.putI hd f1 p1 p2 (p3 x) ha kk
theorem XW.isHeld (hd : xd M.2.1 pc (.instanceof idx) 3 nx) (hl : Cond.classLink M.1.cls idx "LetterStore$Held" ∈ xtbl) (ha : LN G a) (kk : XW l C M nx ls (.int (bI (gT G a = 1)) :: st) G I r G I') : XW l C M pc ls (.ref a :: st) G I r G I' := by
  rcases ha with ha | ha | ha
  · rw [show bI (gT G a = 1) = 0 from if_neg (by rw [gO_tag ha]; decide)] at kk
    exact XW.instN (q := (RX2, TX2, 2)) hd ha rfl hl (by decide) kk
  · rw [show bI (gT G a = 1) = 0 from if_neg (by rw [gO_tag ha]; decide)] at kk
    exact XW.instN (q := (RX8, TX8, 3)) hd ha rfl hl (by decide) kk
  · rw [show bI (gT G a = 1) = 1 from if_pos (gO_tag ha)] at kk
    exact XW.instY (q := (RX1, TX1, 6)) hd ha rfl hl (Or.inl rfl) kk
theorem XW.isSure (hd : xd M.2.1 pc (.instanceof idx) 3 nx) (hl : Cond.classLink M.1.cls idx "LetterStore$Sure" ∈ xtbl) (ha : LN G a) (kk : XW l C M nx ls (.int (bI (¬ gT G a = 2)) :: st) G I r G I') : XW l C M pc ls (.ref a :: st) G I r G I' := by
  rcases ha with ha | ha | ha
  · rw [show bI (¬ gT G a = 2) = 0 from if_neg (by rw [gO_tag ha]; decide)] at kk
    exact XW.instN (q := (RX2, TX2, 2)) hd ha rfl hl (by decide) kk
  · rw [show bI (¬ gT G a = 2) = 1 from if_pos (by rw [gO_tag ha]; decide)] at kk
    exact XW.instY (q := (RX8, TX8, 3)) hd ha rfl hl (Or.inl rfl) kk
  · rw [show bI (¬ gT G a = 2) = 1 from if_pos (by rw [gO_tag ha]; decide)] at kk
    exact XW.instY (q := (RX1, TX1, 6)) hd ha rfl hl (Or.inr (by decide)) kk
theorem XW.castS (hd : xd M.2.1 pc (.checkcast idx) 3 nx) (hl : Cond.classLink M.1.cls idx "LetterStore$Sure" ∈ xtbl) (ha : LSu G a) (kk : XW l C M nx ls (.ref a :: st) G I r G I') : XW l C M pc ls (.ref a :: st) G I r G I' := by
  rcases ha with ha | ha
  · exact XW.cast (q := (RX8, TX8, 3)) hd ha rfl hl (Or.inl rfl) kk
  · exact XW.cast (q := (RX1, TX1, 6)) hd ha rfl hl (Or.inr (by decide)) kk
theorem YX2_keptPart (I : xI) : XW l C mX2_keptPart 0 (xent mX2_keptPart [.ref a]) [] G I (some (.int 0)) G I := by
  show XW l C mX2_keptPart 0 [some (.ref a)] [] G I _ G _
  refine XW.iconst (v := 0) eX2_keptPart_0 (by decide) ?_
  exact XW.iret eX2_keptPart_1 rfl rfl rfl rfl rfl
theorem YX8_keptPart (I : xI) (ha : LSu G a) : XW l C mX8_keptPart 0 (xent mX8_keptPart [.ref a]) [] G I (some (.int (I a 2))) G I := by
  show XW l C mX8_keptPart 0 [some (.ref a)] [] G I _ G _
  refine XW.aload_n eX8_keptPart_0 rfl ?_
  refine XW.getS eX8_keptPart_1 f8_11_8 f8_11_1 (by decide) ha ?_
  exact XW.iret eX8_keptPart_4 rfl rfl rfl rfl rfl
theorem YX2_kindNumber (I : xI) : XW l C mX2_kindNumber 0 (xent mX2_kindNumber [.ref a]) [] G I (some (.int 0)) G I := by
  show XW l C mX2_kindNumber 0 [some (.ref a)] [] G I _ G _
  refine XW.iconst (v := 0) eX2_kindNumber_0 (by decide) ?_
  exact XW.iret eX2_kindNumber_1 rfl rfl rfl rfl rfl
theorem YX8_kindNumber (I : xI) : XW l C mX8_kindNumber 0 (xent mX8_kindNumber [.ref a]) [] G I (some (.int 1)) G I := by
  show XW l C mX8_kindNumber 0 [some (.ref a)] [] G I _ G _
  refine XW.iconst (v := 1) eX8_kindNumber_0 (by decide) ?_
  exact XW.iret eX8_kindNumber_1 rfl rfl rfl rfl rfl
theorem YX1_kindNumber (I : xI) : XW l C mX1_kindNumber 0 (xent mX1_kindNumber [.ref a]) [] G I (some (.int 2)) G I := by
  show XW l C mX1_kindNumber 0 [some (.ref a)] [] G I _ G _
  refine XW.iconst (v := 2) eX1_kindNumber_0 (by decide) ?_
  exact XW.iret eX1_kindNumber_1 rfl rfl rfl rfl rfl
theorem XW.kept (hd : xd M.2.1 pc (.invokevirtual idx) 3 nx) (c2 : xCO M.1.cls idx 2 yX2_keptPart mX2_keptPart) (c8 : xCO M.1.cls idx 8 yX2_keptPart mX8_keptPart) (c1 : xCO M.1.cls idx 1 yX2_keptPart mX8_keptPart) (ha : LN G a) (hrk : 1 ≤ M.2.2.2.2) (hst : (st.map fun v => v.category).sum ≤ 8) (kk : XW l C M nx ls (.int (kpt G I a) :: st) G I r G I') : XW l C M pc ls (.ref a :: st) G I r G I' := by
  have hn2 : xNum M mX2_keptPart [.ref a] st G G G 1 := ⟨hrk, rfl, Nat.le_refl _, by intro v hv; simp at hv; subst hv; rfl, hst, Nat.le_refl _, Nat.le_refl _, Nat.le_refl _, Nat.le_refl _⟩
  have hn8 : xNum M mX8_keptPart [.ref a] st G G G 1 := ⟨hrk, rfl, Nat.le_refl _, by intro v hv; simp at hv; subst hv; rfl, hst, Nat.le_refl _, Nat.le_refl _, Nat.le_refl _, Nat.le_refl _⟩
  rcases ha with ha | ha | ha
  · rw [show kpt G I a = 0 from if_pos (gO_tag ha)] at kk
    exact XW.callO (As := []) hd okX2_keptPart c2 rfl ha (YX2_keptPart I) hn2 kk
  · rw [show kpt G I a = I a 2 from if_neg (by rw [gO_tag ha]; decide)] at kk
    exact XW.callO (As := []) hd okX8_keptPart c8 rfl ha (YX8_keptPart I (Or.inl ha)) hn8 kk
  · rw [show kpt G I a = I a 2 from if_neg (by rw [gO_tag ha]; decide)] at kk
    exact XW.callO (As := []) hd okX8_keptPart c1 rfl ha (YX8_keptPart I (Or.inr ha)) hn8 kk
theorem XW.kindNo (hd : xd M.2.1 pc (.invokevirtual idx) 3 nx) (c2 : xCO M.1.cls idx 2 yX2_kindNumber mX2_kindNumber) (c8 : xCO M.1.cls idx 8 yX2_kindNumber mX8_kindNumber) (c1 : xCO M.1.cls idx 1 yX2_kindNumber mX1_kindNumber) (ha : LN G a) (hrk : 1 ≤ M.2.2.2.2) (hst : (st.map fun v => v.category).sum ≤ 8) (kk : XW l C M nx ls (.int (knd G a) :: st) G I r G I') : XW l C M pc ls (.ref a :: st) G I r G I' := by
  have hn2 : xNum M mX2_kindNumber [.ref a] st G G G 1 := ⟨hrk, rfl, Nat.le_refl _, by intro v hv; simp at hv; subst hv; rfl, hst, Nat.le_refl _, Nat.le_refl _, Nat.le_refl _, Nat.le_refl _⟩
  have hn8 : xNum M mX8_kindNumber [.ref a] st G G G 1 := ⟨hrk, rfl, Nat.le_refl _, by intro v hv; simp at hv; subst hv; rfl, hst, Nat.le_refl _, Nat.le_refl _, Nat.le_refl _, Nat.le_refl _⟩
  have hn1 : xNum M mX1_kindNumber [.ref a] st G G G 1 := ⟨hrk, rfl, Nat.le_refl _, by intro v hv; simp at hv; subst hv; rfl, hst, Nat.le_refl _, Nat.le_refl _, Nat.le_refl _, Nat.le_refl _⟩
  unfold knd at kk
  rcases ha with ha | ha | ha
  · rw [if_pos (gO_tag ha)] at kk
    exact XW.callO (As := []) hd okX2_kindNumber c2 rfl ha (YX2_kindNumber I) hn2 kk
  · rw [if_neg (by rw [gO_tag ha]; decide), if_pos (gO_tag ha)] at kk
    exact XW.callO (As := []) hd okX8_kindNumber c8 rfl ha (YX8_kindNumber I) hn8 kk
  · rw [if_neg (by rw [gO_tag ha]; decide), if_neg (by rw [gO_tag ha]; decide)] at kk
    exact XW.callO (As := []) hd okX1_kindNumber c1 rfl ha (YX1_kindNumber I) hn1 kk

end XLs
set_option maxRecDepth 100000 in
set_option maxHeartbeats 4000000 in
theorem VX2_sendsAt {l : Launch} {C : xC} {G : xG} {a : Nat} (ha : LN G a) (I : xI) (t : Int32) {Q : Int32 → xI → Prop} (h :
    (((I a 1) ≤ 0 → Q 0 I) ∧ (¬ ((I a 1) ≤ 0) → ¬ (I a 1) = 0 ∧ ((((t + 1) - (t + 1) / (I a 1) * (I a 1)) = 0 → Q 1 I) ∧ (¬ (((t + 1) - (t + 1) / (I a 1) * (I a 1)) = 0) → Q 0 I))))) : XF fI l C mX2_sendsAt 0 (xent mX2_sendsAt [.ref a, .int t]) [] G I Q := by
  show XF fI l C mX2_sendsAt 0 [some (.ref a), some (.int t)] [] G I Q
  refine XF.lift (pc2 := 4) (ls2 := [some (.ref a), some (.int t)]) (st2 := [.int (I a 1)]) (I2 := I) ?_ (fun r I' hk => by
      refine XW.aload_n eX2_sendsAt_0 rfl ?_
      refine XW.getL eX2_sendsAt_1 f2_9_2 f2_9_8 f2_9_1 (by decide) ha ?_
      exact hk)
  obtain ⟨ht, hf⟩ := h
  refine XF.br (P := (I a 1) ≤ 0) (fun c_4 => ?_) (fun c_4 => ?_)
  ·
    replace h := ht c_4
    refine XF.lift (pc2 := 23) (ls2 := [some (.ref a), some (.int t)]) (st2 := [.int 0]) (I2 := I) ?_ (fun r I' hk => by
        refine XW.if_le eX2_sendsAt_4 (fun _ => ?_) (fun z => absurd c_4 z)
        refine XW.iconst (v := 0) eX2_sendsAt_22 (by decide) ?_
        exact hk)
    exact ⟨0, I, XW.iret eX2_sendsAt_23 rfl rfl rfl rfl rfl, h⟩
  ·
    replace h := hf c_4
    obtain ⟨z_14, h⟩ := h
    refine XF.lift (pc2 := 15) (ls2 := [some (.ref a), some (.int t)]) (st2 := [.int ((t + 1) - (t + 1) / (I a 1) * (I a 1))]) (I2 := I) ?_ (fun r I' hk => by
        refine XW.if_le eX2_sendsAt_4 (fun z => absurd z c_4) (fun _ => ?_)
        refine XW.iload_n eX2_sendsAt_7 rfl ?_
        refine XW.iconst (v := 1) eX2_sendsAt_8 (by decide) ?_
        refine XW.iadd eX2_sendsAt_9 ?_
        refine XW.aload_n eX2_sendsAt_10 rfl ?_
        refine XW.getL eX2_sendsAt_11 f2_9_2 f2_9_8 f2_9_1 (by decide) ha ?_
        refine XW.irem eX2_sendsAt_14 z_14 ?_
        exact hk)
    obtain ⟨ht, hf⟩ := h
    refine XF.br (P := ((t + 1) - (t + 1) / (I a 1) * (I a 1)) = 0) (fun c_15 => ?_) (fun c_15 => ?_)
    ·
      replace h := ht c_15
      refine XF.lift (pc2 := 23) (ls2 := [some (.ref a), some (.int t)]) (st2 := [.int 1]) (I2 := I) ?_ (fun r I' hk => by
          refine XW.if_ne eX2_sendsAt_15 (fun z => absurd c_15 z) (fun _ => ?_)
          refine XW.iconst (v := 1) eX2_sendsAt_18 (by decide) ?_
          refine XW.goto eX2_sendsAt_19 ?_
          exact hk)
      exact ⟨1, I, XW.iret eX2_sendsAt_23 rfl rfl rfl rfl rfl, h⟩
    ·
      replace h := hf c_15
      refine XF.lift (pc2 := 23) (ls2 := [some (.ref a), some (.int t)]) (st2 := [.int 0]) (I2 := I) ?_ (fun r I' hk => by
          refine XW.if_ne eX2_sendsAt_15 (fun _ => ?_) (fun z => absurd z c_15)
          refine XW.iconst (v := 0) eX2_sendsAt_22 (by decide) ?_
          exact hk)
      exact ⟨0, I, XW.iret eX2_sendsAt_23 rfl rfl rfl rfl rfl, h⟩
theorem YX2_sendsAt {l : Launch} {C : xC} {G : xG} {a : Nat} (ha : LN G a) (I : xI) (t : Int32) : XW l C mX2_sendsAt 0 (xent mX2_sendsAt [.ref a, .int t]) [] G I (some (.int (bI (SA (I a 1) t)))) G I := by
  have h : XF fI l C mX2_sendsAt 0 (xent mX2_sendsAt [.ref a, .int t]) [] G I (fun v J => v = bI (SA (I a 1) t) ∧ J = I) := by
    refine VX2_sendsAt ha I t ?_
    unfold SA
    refine ⟨fun c1 => ?_, fun c1 => ⟨?_, fun c2 => ?_, fun c2 => ?_⟩⟩
    · exact ⟨(if_neg (fun z => Int32.not_le.mpr z.1 c1)).symm, rfl⟩
    · intro z; rw [z] at c1; exact c1 (by decide)
    · exact ⟨(if_pos ⟨Int32.not_le.mp c1, c2⟩).symm, rfl⟩
    · exact ⟨(if_neg (fun z => c2 z.2)).symm, rfl⟩
  obtain ⟨v, I', h1, rfl, rfl⟩ := h
  exact h1
theorem XW.sendsAt {l : Launch} {C : xC} {M : xM} {pc nx idx a : Nat} {ls : List (Option Value)} {st : List Value} {G : xG} {I I' : xI} {r : Option Value} {t : Int32} (hd : xd M.2.1 pc (.invokevirtual idx) 3 nx) (c2 : xCO M.1.cls idx 2 yX2_sendsAt mX2_sendsAt) (c8 : xCO M.1.cls idx 8 yX2_sendsAt mX2_sendsAt) (c1 : xCO M.1.cls idx 1 yX2_sendsAt mX2_sendsAt) (ha : LN G a) (hrk : 1 ≤ M.2.2.2.2) (hst : (st.map fun v => v.category).sum ≤ 8) (kk : XW l C M nx ls (.int (bI (SA (I a 1) t)) :: st) G I r G I') : XW l C M pc ls (.int t :: .ref a :: st) G I r G I' := by
  have hn2 : xNum M mX2_sendsAt [.ref a, .int t] st G G G 2 := ⟨hrk, rfl, Nat.le_refl _, by intro v hv; simp at hv; rcases hv with rfl | rfl <;> rfl, hst, Nat.le_refl _, Nat.le_refl _, Nat.le_refl _, Nat.le_refl _⟩
  have hY := YX2_sendsAt (l := l) (C := C) ha I t
  rcases ha with ha | ha | ha
  · exact XW.callO (As := [.int t]) hd okX2_sendsAt c2 rfl ha hY hn2 kk
  · exact XW.callO (As := [.int t]) hd okX2_sendsAt c8 rfl ha hY hn2 kk
  · exact XW.callO (As := [.int t]) hd okX2_sendsAt c1 rfl ha hY hn2 kk
/-- a row, a queue, a sheet -/
def RW (G : xG) (w : Nat) : Prop := gO G w 4 ∧ gR G w 0 = w + 1 ∧ gR G w 1 = w + 2 ∧ gA G (w + 1) 100 80 ∧ gA G (w + 2) 100 80
def QU (G : xG) (u : Nat) : Prop := gO G u 3 ∧ gR G u 0 = u + 1 ∧ gA G (u + 1) 100 12
def TSh (G : xG) (u : Nat) : Prop := gO G u 7 ∧ gR G u 1 = u + 1 ∧ gA G (u + 1) 100 160
theorem lt4 {i : Nat} (h : i < 4) : i = 0 ∨ i = 1 ∨ i = 2 ∨ i = 3 := by omega
section XQs
variable {G : xG} {i : Int32}
theorem sq9 (hs : SH G) (h : vp_in i 4) : gR G 9 i.toNatClampNeg = 18 + 2 * i.toNatClampNeg := by
  rcases lt4 (xin_lt h) with e | e | e | e <;> rw [e]
  · exact sr_9_0 hs
  · exact sr_9_1 hs
  · exact sr_9_2 hs
  · exact sr_9_3 hs
theorem sq27 (hs : SH G) (h : vp_in i 4) : gR G 27 i.toNatClampNeg = 36 + 2 * i.toNatClampNeg := by
  rcases lt4 (xin_lt h) with e | e | e | e <;> rw [e]
  · exact sr_27_0 hs
  · exact sr_27_1 hs
  · exact sr_27_2 hs
  · exact sr_27_3 hs
theorem sq6 (hs : SH G) (h : vp_in i 4) : gR G 6 i.toNatClampNeg = 49 + 3 * i.toNatClampNeg := by
  rcases lt4 (xin_lt h) with e | e | e | e <;> rw [e]
  · exact sr_6_0 hs
  · exact sr_6_1 hs
  · exact sr_6_2 hs
  · exact sr_6_3 hs
theorem sq7 (hs : SH G) (h : vp_in i 4) : gR G 7 i.toNatClampNeg = 61 + 2 * i.toNatClampNeg := by
  rcases lt4 (xin_lt h) with e | e | e | e <;> rw [e]
  · exact sr_7_0 hs
  · exact sr_7_1 hs
  · exact sr_7_2 hs
  · exact sr_7_3 hs
theorem TS61 (hs : SH G) {j : Nat} (h : j < 4) : TSh G (61 + 2 * j) := by
  rcases lt4 h with rfl | rfl | rfl | rfl
  · exact ⟨so_61 hs, sr_61_1 hs, sa_62 hs⟩
  · exact ⟨so_63 hs, sr_63_1 hs, sa_64 hs⟩
  · exact ⟨so_65 hs, sr_65_1 hs, sa_66 hs⟩
  · exact ⟨so_67 hs, sr_67_1 hs, sa_68 hs⟩
theorem QU18 (hs : SH G) {j : Nat} (h : j < 4) : QU G (18 + 2 * j) := by
  rcases lt4 h with rfl | rfl | rfl | rfl
  · exact ⟨so_18 hs, sr_18_0 hs, sa_19 hs⟩
  · exact ⟨so_20 hs, sr_20_0 hs, sa_21 hs⟩
  · exact ⟨so_22 hs, sr_22_0 hs, sa_23 hs⟩
  · exact ⟨so_24 hs, sr_24_0 hs, sa_25 hs⟩
theorem QU36 (hs : SH G) {j : Nat} (h : j < 4) : QU G (36 + 2 * j) := by
  rcases lt4 h with rfl | rfl | rfl | rfl
  · exact ⟨so_36 hs, sr_36_0 hs, sa_37 hs⟩
  · exact ⟨so_38 hs, sr_38_0 hs, sa_39 hs⟩
  · exact ⟨so_40 hs, sr_40_0 hs, sa_41 hs⟩
  · exact ⟨so_42 hs, sr_42_0 hs, sa_43 hs⟩
theorem RW49 (hs : SH G) {j : Nat} (h : j < 4) : RW G (49 + 3 * j) := by
  rcases lt4 h with rfl | rfl | rfl | rfl
  · exact ⟨so_49 hs, sr_49_0 hs, sr_49_1 hs, sa_50 hs, sa_51 hs⟩
  · exact ⟨so_52 hs, sr_52_0 hs, sr_52_1 hs, sa_53 hs, sa_54 hs⟩
  · exact ⟨so_55 hs, sr_55_0 hs, sr_55_1 hs, sa_56 hs, sa_57 hs⟩
  · exact ⟨so_58 hs, sr_58_0 hs, sr_58_1 hs, sa_59 hs, sa_60 hs⟩
theorem so9 (hs : SH G) (h : vp_in i 4) : gO G (18 + 2 * i.toNatClampNeg) 3 := (QU18 hs (xin_lt h)).1
theorem so27 (hs : SH G) (h : vp_in i 4) : gO G (36 + 2 * i.toNatClampNeg) 3 := (QU36 hs (xin_lt h)).1
theorem so7 (hs : SH G) (h : vp_in i 4) : TSh G (61 + 2 * i.toNatClampNeg) := TS61 hs (xin_lt h)
theorem so6 (hs : SH G) (h : vp_in i 4) : RW G (49 + 3 * i.toNatClampNeg) := RW49 hs (xin_lt h)
end XQs
