/-! a method's run as a contract, and calls -/
def xrm (k mc ms : Nat) : Room := { frames := k, cells := mc, slots := ms, locals := 37 * k }
def xws (M : xM) : List Cond := Cond.code M.1 M.2.1 M.2.2.1 M.2.2.2.1 :: xtbl
def xPc (C : xC) (As : List Value) (G : xG) (I : xI) : Array Value → State → Prop := fun v U => v = (As.map (xv C)).toArray ∧ xH C U G I U.heap
theorem xPc_blind (C : xC) (As : List Value) (G : xG) (I : xI) : FrameBlind (xPc C As G I) := fun a U g mk h => ⟨h.1, xH.same (s := U) (t := U.calling g mk a) rfl h.2⟩
/-- the locals at a method's entry -/
def xent (M : xM) (As : List Value) : List (Option Value) := As.map some ++ List.replicate (M.2.2.1 - As.length) none
theorem lv_args_mem (vs : List Value) (hc : ∀ v ∈ vs, v.category = 1) : ∀ (i k : Nat) (v : Value), vs[k]? = some v → (i + k, v) ∈ lv_args i vs := by
  induction vs with
  | nil => intro i k v h; simp at h
  | cons w vs ih =>
    intro i k v h
    have hw : ¬ w.category = 2 := by rw [hc w List.mem_cons_self]; decide
    unfold lv_args
    rw [if_neg hw]
    cases k with
    | zero =>
      simp at h
      subst h
      exact List.mem_cons_self
    | succ k =>
      have h' : vs[k]? = some v := by simpa using h
      have := ih (fun v hv => hc v (List.mem_cons_of_mem _ hv)) (i + 1) k v h'
      rw [show i + (k + 1) = i + 1 + k by omega]
      exact List.mem_cons_of_mem _ this
theorem lg_sl_len (vs : List Value) (hc : ∀ v ∈ vs, v.category = 1) : (lg_sl vs).length = vs.length := by
  induction vs with
  | nil => rfl
  | cons w vs ih =>
    have hw : ¬ w.category = 2 := by rw [hc w List.mem_cons_self]; decide
    have := ih (fun v hv => hc v (List.mem_cons_of_mem _ hv))
    unfold lg_sl at this ⊢
    simp [hw] at this ⊢
    omega
theorem xls_entry {C : xC} {M : xM} {As : List Value} (hc : ∀ v ∈ As, v.category = 1) (hn : As.length ≤ M.2.2.1) :
    xls C M.2.2.1 (xent M As) ((lg_sl (As.map (xv C)) ++ List.replicate (M.2.2.1 - (lg_sl (As.map (xv C))).length) Slot.unset).toArray) := by
  have hc2 : ∀ v ∈ As.map (xv C), v.category = 1 := by
    intro v hv
    obtain ⟨w, hw, rfl⟩ := List.mem_map.mp hv
    rw [xv_cat]; exact hc w hw
  have hl : (lg_sl (As.map (xv C))).length = As.length := by rw [lg_sl_len _ hc2, List.length_map]
  have h1 := lv_entry (As.map (xv C)) (n := M.2.2.1) (by rw [hl]; exact hn)
  have key : ∀ (k : Nat) (v : Value), (xent M As)[k]? = some (some v) → As[k]? = some v := by
    intro k v h
    unfold xent at h
    by_cases hk : k < As.length
    · rw [List.getElem?_append_left (by simpa using hk), List.getElem?_map] at h
      cases hq : As[k]? with
      | none => rw [hq] at h; simp at h
      | some w => rw [hq] at h; simp at h; rw [h]
    · rw [List.getElem?_append_right (by simpa using hk)] at h
      have := List.eq_of_mem_replicate (List.mem_of_getElem? h)
      cases this
  refine ⟨⟨h1.1, h1.2.1, fun q hq => ?_⟩, by simp [xent]; omega, fun v hv => ?_⟩
  · obtain ⟨v, hv, e⟩ := xlv_of hq
    have h3 := lv_args_mem _ hc2 0 q.1 (xv C v) (by rw [List.getElem?_map, key _ _ hv]; rfl)
    have h4 := h1.2.2 _ h3
    rw [e]
    rw [Nat.zero_add] at h4
    exact h4
  · obtain ⟨k, hk⟩ := List.getElem?_of_mem hv
    exact hc v (List.mem_of_getElem? (key k v hk))
/-- what a method must be, to be called: its code is among the words, .. -/
def xOk (M : xM) (n : Nat) : Prop := Cond.code M.1 M.2.1 M.2.2.1 M.2.2.2.1 ∈ xtbl ∧ Cond.initialized M.1.cls ∈ xtbl ∧ (M.1.cls ≠ "java/lang/invoke/MethodHandle" ∧ M.1.cls ≠ "java/lang/invoke/VarHandle" ∧ (parseMethodDescriptor M.1.desc).map (fun d => d.parameters.length) = some n) ∧ plainName M.1.cls = true ∧ M.2.2.1 ≤ 18
theorem xGoodIn {M : xM} {n : Nat} (h : xOk M n) : GoodIn xtbl (xws M) := by
  intro w hw
  rcases List.mem_cons.mp hw with rfl | hw
  · exact ⟨h.1, xGood _ h.1⟩
  · exact ⟨hw, xGood w hw⟩
section XMET
variable {l : Launch} {C : xC} {M M2 : xM} {pc nx : Nat} {ls ls' : List (Option Value)} {st stk : List Value} {G G' G1 : xG} {I I' I1 : xI} {r r1 : Option Value}
theorem XW.met {As : List Value} {n : Nat} (hp : xOk M n) (hc : ∀ v ∈ As, v.category = 1) (hn : As.length ≤ M.2.2.1) (h : XW l C M 0 (xent M As) [] G I r G1 I1) :
    Met l M.1 (xws M) (xrm M.2.2.2.2 (gN G1 - gN G) (gS G1 - gS G)) (xPc C As G I) (xQc C r G1 I1) (gN G1 - gN G) (gS G1 - gS G) (fun q => C.1 ≤ q) := by
  refine Met.ofW (cc := M.2.1) (maxL := M.2.2.1) (ret := M.2.2.2.1) hp.2.2.2.1 rfl ?_
  intro p e s m args below meth c s₁ B hml hv
  obtain ⟨rfl, hH⟩ := hv
  have hts := atoms_spec (ws := xws M) B.pre
  have K : xK M p s m (As.map (xv C)).toArray meth c (xrm M.2.2.2.2 (gN G1 - gN G) (gS G1 - gS G)) :=
    ⟨B.exec, B.bytes, B.returns, hml, findClass_of_methodNamed B.named, fun w hw => hts w (List.mem_cons_of_mem _ hw), B.notSynchronized, fun hi => (name_of_methodNamed B.named B.method).1.trans hi, Nat.le_refl _, Nat.le_refl _⟩
  have h1 := h p e s m _ below meth c _ (gN G) (gS G) s.heap [] _ K hH (xls_entry hc hn) ⟨Nat.le_refl _, Nat.le_refl _, Nat.le_refl _, Nat.le_refl _, fun q hq => by cases hq⟩
  rw [Nat.sub_self, Nat.sub_self] at h1
  rw [lg_entry_eq]
  exact h1
/-- behind a call -/
theorem xcallW {p : Program} {e : Env} {s : State} {m : MethodId} {args a : Array Value} {below : List Frame} {meth : Method} {c : Code} {R : Room} {n0 s0 mc ms : Nat} {H : Heap} {locs : List Loc} {la : Array Slot} {st0 rest : List Value} (hr : va_Run p l e R s m args below meth c H locs (gN G - n0) (gS G - s0) mc ms (F0 m pc la st0) rest (xQc C r1 G1 I1 a) (fun q => C.1 ≤ q))
    (hH : xH C s G I H) (hn : mc = gN G1 - gN G ∧ ms = gS G1 - gS G) (hN : gN G ≤ gN G1 ∧ gS G ≤ gS G1) (hB : n0 ≤ gN G ∧ s0 ≤ gS G ∧ ∀ q ∈ locs, C.1 ≤ q.base) {Q : State → Prop}
    (kk : ∀ (H1 : Heap) (locs1 : List Loc), xH C s G1 I1 H1 → (∀ q ∈ locs1, C.1 ≤ q.base) → W p l e R s m args below meth c H1 locs1 (gN G1 - n0) (gS G1 - s0) Q (F0 m (pc + 3) la ((r1.map (xv C)).toList ++ rest))) :
    W p l e R s m args below meth c H locs (gN G - n0) (gS G - s0) Q (F0 m pc la st0) := by
  intro T hT X
  obtain ⟨v, st₀, t, T', L, h0, X', hL, e1, e2, ⟨hv, hq⟩, st⟩ := hr T hT X
  cases hv
  have hal : s.vm.Alike t.vm := by rw [← e2]; exact X'.warmed.alike
  have hx : xH C s G1 I1 T'.heap := by
    rw [e1]
    exact ⟨hH.1, hq.2.1.moved hal.symm, hq.2.2⟩
  have hl2 : ∀ q ∈ locs ++ L, C.1 ≤ q.base := by
    intro q hq
    rcases List.mem_append.mp hq with h | h
    · exact hB.2.2 q h
    · exact hL q h
  obtain ⟨c1, c2⟩ := hn
  have ec : gN G - n0 + mc = gN G1 - n0 := by omega
  have es : gS G - s0 + ms = gS G1 - s0 := by omega
  rw [ec, es] at X'
  obtain ⟨t2, a1, b1⟩ := kk T'.heap (locs ++ L) hx hl2 T' rfl X'
  exact ⟨t2, st t2 a1, b1⟩
/-- the numbers of a call: the callee's rank, the room, what lies below on the stack -/
def xNum (M M2 : xM) (As st : List Value) (G G1 G' : xG) (n : Nat) : Prop := M2.2.2.2.2 + 1 ≤ M.2.2.2.2 ∧ As.length = n ∧ As.length ≤ M2.2.2.1 ∧ (∀ v ∈ As, v.category = 1) ∧ (st.map fun v => v.category).sum ≤ 8 ∧ gN G ≤ gN G1 ∧ gS G ≤ gS G1 ∧ gN G1 ≤ gN G' ∧ gS G1 ≤ gS G'
theorem xnum {As : List Value} {n : Nat} (h1 : Nat.ble (M2.2.2.2.2 + 1) M.2.2.2.2 = true) (h2 : As.length = n) (h3 : Nat.ble As.length M2.2.2.1 = true) (h4 : As.all (fun v => v.category == 1) = true) (h5 : Nat.ble (st.map fun v => v.category).sum 8 = true) : xNum M M2 As st G G G n :=
  ⟨Nat.le_of_ble_eq_true h1, h2, Nat.le_of_ble_eq_true h3, fun v hv => by simpa using List.all_eq_true.mp h4 v hv, Nat.le_of_ble_eq_true h5, Nat.le_refl _, Nat.le_refl _, Nat.le_refl _, Nat.le_refl _⟩
theorem xnumG {As : List Value} {n : Nat} (h1 : Nat.ble (M2.2.2.2.2 + 1) M.2.2.2.2 = true) (h2 : As.length = n) (h3 : Nat.ble As.length M2.2.2.1 = true) (h4 : As.all (fun v => v.category == 1) = true) (h5 : Nat.ble (st.map fun v => v.category).sum 8 = true) (h6 : gN G ≤ gN G1) (h7 : gS G ≤ gS G1) (h8 : gN G1 ≤ gN G') (h9 : gS G1 ≤ gS G') : xNum M M2 As st G G1 G' n :=
  ⟨Nat.le_of_ble_eq_true h1, h2, Nat.le_of_ble_eq_true h3, fun v hv => by simpa using List.all_eq_true.mp h4 v hv, Nat.le_of_ble_eq_true h5, h6, h7, h8, h9⟩
theorem xsum (C : xC) (st : List Value) : ((st.map (xv C)).map fun v => v.category).sum = (st.map fun v => v.category).sum := by
  rw [List.map_map]
  congr 1
  exact List.map_congr_left fun v _ => xv_cat C v
theorem xtoList (C : xC) (r : Option Value) (st : List Value) : (r.map (xv C)).toList ++ st.map (xv C) = (r.toList ++ st).map (xv C) := by
  cases r <;> rfl
theorem xroomOk {R : Room} (h1 : M2.2.2.2.2 + 1 ≤ M.2.2.2.2) (hf : M.2.2.2.2 ≤ R.frames) (hl : 37 * M.2.2.2.2 ≤ R.locals) (hm : M2.2.2.1 ≤ 18) (mc ms : Nat) : (xrm M2.2.2.2.2 mc ms).frames + 1 ≤ R.frames ∧ 8 + (M2.2.2.1 + 11) + (xrm M2.2.2.2.2 mc ms).locals ≤ R.locals := by
  constructor
  · show M2.2.2.2.2 + 1 ≤ _
    omega
  · show 8 + (M2.2.2.1 + 11) + 37 * M2.2.2.2.2 ≤ _
    omega
/-- a virtual call of the receiver's own method -/
def xCV (own : String) (idx c : Nat) (M2 : xM) : Prop := ∃ q : vw_C, vwCl[c]? = some q ∧ M2.1.cls = q.1 ∧ Cond.methodLink own idx M2.1 ∈ xtbl ∧ Cond.instanceMethod M2.1 ∈ xtbl ∧ Cond.selects q.1 M2.1 M2.1 ∈ xtbl
theorem XW.callV {idx a c n : Nat} {As : List Value} (hd : xd M.2.1 pc (.invokevirtual idx) 3 nx) (hok : xOk M2 n) (hcv : xCV M.1.cls idx c M2) (hs : stk = As.reverse ++ .ref a :: st) (ha : gO G a c) (hY : XW l C M2 0 (xent M2 (.ref a :: As)) [] G I r1 G1 I1) (hnum : xNum M M2 (.ref a :: As) st G G1 G' (n + 1)) (kk : XW l C M nx ls (r1.toList ++ st) G1 I1 r G' I') : XW l C M pc ls stk G I r G' I' := by
  obtain ⟨hd, rfl⟩ := hd
  subst hs
  obtain ⟨q, hc, hcl, hl1, hl2, hl3⟩ := hcv
  obtain ⟨u1, u2, u3, u4, u5, u6, u7, u8, u9⟩ := hnum
  intro p e s m args below meth cd R n0 s0 H locs la K hH hls hB
  obtain ⟨b1, b2, b3, b4, b5⟩ := hB
  have hts := K.2.2.2.2.2.1
  have ha0 : a ≠ 0 := by have := ha.1; omega
  have hmet := hY.met hok u4 u3
  have hG : GoodIn xtbl (wsV M.1.cls idx q.1 M2.1 (xws M2)) := by
    intro w hw
    rcases List.mem_append.mp hw with hw | hw
    · have : w ∈ xtbl := by
        rcases List.mem_cons.mp hw with rfl | hw
        · exact hl1
        rcases List.mem_cons.mp hw with rfl | hw
        · exact hl2
        rcases List.mem_cons.mp hw with rfl | hw
        · exact hl3
        rw [List.mem_singleton.mp hw, ← hcl]
        exact hok.2.1
      exact ⟨this, xGood w this⟩
    · exact xGoodIn hok w hw
  have cw := cwV (R := R) (rm := xrm M2.2.2.2.2 (gN G1 - gN G) (gS G1 - gS G)) n hts hG rfl rfl rfl ⟨hcl, hok.2.2.1⟩ (xroomOk u1 K.2.2.2.2.2.2.2.2.1 K.2.2.2.2.2.2.2.2.2 hok.2.2.2.2 _ _)
  have hrun := va_runV (C := q.1) (b := xad C a) (As := As.map (xv C)) (rest := st.map (xv C)) (g := F0 m pc la ((As.reverse ++ .ref a :: st).map (xv C))) (H := H) (locs := locs) (cells := gN G - n0) (slots := gS G - s0) (meth := meth) (below := below) (e := e)
    ⟨K.1, K.2.1, K.2.2.2.1, K.2.2.2.2.1, hts⟩ hmet cw
    ⟨xPc_blind C _ G I, hH.recv ha hc, fun U hU hW => ⟨by rw [List.map_cons, xv_ref ha0], by rw [hU]; exact hH.moved hW⟩⟩
    rfl (by rw [List.length_map]; simpa using u2) hls.1.1 (by simp [xv_ref ha0]) (by show 2 * 0 + _ ≤ 8; rw [xsum]; omega) hd ⟨by omega, by omega⟩
  have h9 : xQc C r1 G1 I1 ((Value.ref (xad C a) :: As.map (xv C)).toArray) = xQc C r1 G1 I1 ((Value.ref (xad C a) :: As.map (xv C)).toArray) := rfl
  refine xcallW hrun hH ⟨rfl, rfl⟩ ⟨u6, u7⟩ ⟨b1, b2, b5⟩ (fun H1 locs1 hx hl => ?_)
  rw [xtoList]
  exact kk p e s m args below meth cd R n0 s0 H1 locs1 la K hx hls ⟨by omega, by omega, b3, b4, hl⟩
/-- a virtual call that may come to a method of a class below: x as named, M2 as chosen -/
def xCO (own : String) (idx c : Nat) (x : MethodName) (M2 : xM) : Prop := ∃ q : vw_C, vwCl[c]? = some q ∧ Cond.methodLink own idx x ∈ xtbl ∧ Cond.sameMethod x.cls x.cls x.name x.desc ∈ xtbl ∧ Cond.instanceMethod x ∈ xtbl ∧ Cond.selects q.1 x M2.1 ∈ xtbl ∧ Cond.instanceMethod M2.1 ∈ xtbl ∧ (∃ b m r, Cond.code x b m r ∈ xtbl) ∧ (x.cls ≠ "java/lang/invoke/MethodHandle" ∧ x.cls ≠ "java/lang/invoke/VarHandle") ∧ x.desc = M2.1.desc
theorem XW.callO {idx a c n : Nat} {x : MethodName} {As : List Value} (hd : xd M.2.1 pc (.invokevirtual idx) 3 nx) (hok : xOk M2 n) (hcv : xCO M.1.cls idx c x M2) (hs : stk = As.reverse ++ .ref a :: st) (ha : gO G a c) (hY : XW l C M2 0 (xent M2 (.ref a :: As)) [] G I r1 G1 I1) (hnum : xNum M M2 (.ref a :: As) st G G1 G' (n + 1)) (kk : XW l C M nx ls (r1.toList ++ st) G1 I1 r G' I') : XW l C M pc ls stk G I r G' I' := by
  obtain ⟨hd, rfl⟩ := hd
  subst hs
  obtain ⟨q, hc, hl1, hl2, hl3, hl4, hl5, ⟨cb, cm, cr, hl6⟩, hx1, hx2⟩ := hcv
  obtain ⟨u1, u2, u3, u4, u5, u6, u7, u8, u9⟩ := hnum
  intro p e s m args below meth cd R n0 s0 H locs la K hH hls hB
  obtain ⟨b1, b2, b3, b4, b5⟩ := hB
  have hts := K.2.2.2.2.2.1
  have ha0 : a ≠ 0 := by have := ha.1; omega
  have hmet := hY.met hok u4 u3
  have hG : GoodIn xtbl (va_wsO M.1.cls idx q.1 x.cls x M2.1 (xws M2)) := by
    intro w hw
    rcases List.mem_append.mp hw with hw | hw
    · have : w ∈ xtbl := by
        rcases List.mem_cons.mp hw with rfl | hw
        · exact hl1
        rcases List.mem_cons.mp hw with rfl | hw
        · exact hl2
        rcases List.mem_cons.mp hw with rfl | hw
        · exact hl3
        rcases List.mem_cons.mp hw with rfl | hw
        · exact hl4
        rcases List.mem_cons.mp hw with rfl | hw
        · exact hl5
        rw [List.mem_singleton.mp hw]
        exact hok.2.1
      exact ⟨this, xGood w this⟩
    · exact xGoodIn hok w hw
  have cw := va_cwO (R := R) (rm := xrm M2.2.2.2.2 (gN G1 - gN G) (gS G1 - gS G)) n hts hG rfl rfl rfl (h0 := hl6) ⟨hx1.1, hx1.2, by rw [hx2]; exact hok.2.2.1.2.2⟩ (xroomOk u1 K.2.2.2.2.2.2.2.2.1 K.2.2.2.2.2.2.2.2.2 hok.2.2.2.2 _ _)
  have hrun := va_runU (C := q.1) (b := xad C a) (As := As.map (xv C)) (rest := st.map (xv C)) (g := F0 m pc la ((As.reverse ++ .ref a :: st).map (xv C))) (H := H) (locs := locs) (cells := gN G - n0) (slots := gS G - s0) (meth := meth) (below := below) (e := e)
    ⟨K.1, K.2.1, K.2.2.2.1, K.2.2.2.2.1, hts⟩ hmet cw
    ⟨xPc_blind C _ G I, hH.recv ha hc, fun U hU hW => ⟨by rw [List.map_cons, xv_ref ha0], by rw [hU]; exact hH.moved hW⟩⟩
    rfl (by rw [List.length_map]; simpa using u2) hls.1.1 (by simp [xv_ref ha0]) (by show 2 * 0 + _ ≤ 8; rw [xsum]; omega) hd ⟨by omega, by omega⟩
  refine xcallW hrun hH ⟨rfl, rfl⟩ ⟨u6, u7⟩ ⟨b1, b2, b5⟩ (fun H1 locs1 hx hl => ?_)
  rw [xtoList]
  exact kk p e s m args below meth cd R n0 s0 H1 locs1 la K hx hls ⟨by omega, by omega, b3, b4, hl⟩
/-- a static call -/
def xCS (own : String) (idx : Nat) (M2 : xM) : Prop := Cond.methodLink own idx M2.1 ∈ xtbl ∧ Cond.static M2.1 ∈ xtbl
theorem XW.callS {idx n : Nat} {As : List Value} (hd : xd M.2.1 pc (.invokestatic idx) 3 nx) (hok : xOk M2 n) (hcv : xCS M.1.cls idx M2) (hs : stk = As.reverse ++ st) (hY : XW l C M2 0 (xent M2 As) [] G I r1 G1 I1) (hnum : xNum M M2 As st G G1 G' n) (kk : XW l C M nx ls (r1.toList ++ st) G1 I1 r G' I') : XW l C M pc ls stk G I r G' I' := by
  obtain ⟨hd, rfl⟩ := hd
  subst hs
  obtain ⟨hl1, hl2⟩ := hcv
  obtain ⟨u1, u2, u3, u4, u5, u6, u7, u8, u9⟩ := hnum
  intro p e s m args below meth cd R n0 s0 H locs la K hH hls hB
  obtain ⟨b1, b2, b3, b4, b5⟩ := hB
  have hts := K.2.2.2.2.2.1
  have hmet := hY.met hok u4 u3
  have cw := callB_of (R := R) (rm := xrm M2.2.2.2.2 (gN G1 - gN G) (gS G1 - gS G)) (own := M.1.cls) (index := idx) n hts (xGoodIn hok) rfl rfl rfl (hts _ hok.2.1) (hts _ hl1) hok.2.2.1 (xroomOk u1 K.2.2.2.2.2.2.2.2.1 K.2.2.2.2.2.2.2.2.2 hok.2.2.2.2 _ _)
  have hrun := va_runS (As := As.map (xv C)) (rest := st.map (xv C)) (g := F0 m pc la ((As.reverse ++ st).map (xv C))) (H := H) (locs := locs) (cells := gN G - n0) (slots := gS G - s0) (meth := meth) (below := below) (e := e)
    ⟨K.1, K.2.1, K.2.2.2.1, K.2.2.2.2.1, hts⟩ hmet ⟨cw, hts _ hl2⟩
    ⟨xPc_blind C _ G I, fun U hU hW => ⟨rfl, by rw [hU]; exact hH.moved hW⟩⟩
    rfl (by rw [List.length_map]; exact u2) hls.1.1 (by simp) (by show 2 * 0 + _ ≤ 8; rw [xsum]; omega) hd ⟨by omega, by omega⟩
  refine xcallW hrun hH ⟨rfl, rfl⟩ ⟨u6, u7⟩ ⟨b1, b2, b5⟩ (fun H1 locs1 hx hl => ?_)
  rw [xtoList]
  exact kk p e s m args below meth cd R n0 s0 H1 locs1 la K hx hls ⟨by omega, by omega, b3, b4, hl⟩
/-- a static call to a nest mate's private method -/
theorem XW.callSN {idx n : Nat} {host : String} {As : List Value} (hd : xd M.2.1 pc (.invokestatic idx) 3 nx) (hok : xOk M2 n) (hcv : (M.1.cls, idx, M2.1, host) ∈ xNest ∧ Cond.static M2.1 ∈ xtbl) (hs : stk = As.reverse ++ st) (hY : XW l C M2 0 (xent M2 As) [] G I r1 G1 I1) (hnum : xNum M M2 As st G G1 G' n) (kk : XW l C M nx ls (r1.toList ++ st) G1 I1 r G' I') : XW l C M pc ls stk G I r G' I' := by
  obtain ⟨hd, rfl⟩ := hd
  subst hs
  obtain ⟨hl1, hl2⟩ := hcv
  obtain ⟨u1, u2, u3, u4, u5, u6, u7, u8, u9⟩ := hnum
  intro p e s m args below meth cd R n0 s0 H locs la K hH hls hB
  obtain ⟨b1, b2, b3, b4, b5⟩ := hB
  have hts := K.2.2.2.2.2.1
  have hmet := hY.met hok u4 u3
  have cw := va_cnB (R := R) (rm := xrm M2.2.2.2.2 (gN G1 - gN G) (gS G1 - gS G)) (own := M.1.cls) (index := idx) (host := host) n hts (xGoodIn hok) rfl rfl rfl (hH.1.2.2.2.2.2 _ hl1) (hts _ hok.2.1) hok.2.2.1 (xroomOk u1 K.2.2.2.2.2.2.2.2.1 K.2.2.2.2.2.2.2.2.2 hok.2.2.2.2 _ _)
  have hrun := va_runSN (As := As.map (xv C)) (rest := st.map (xv C)) (g := F0 m pc la ((As.reverse ++ st).map (xv C))) (H := H) (locs := locs) (cells := gN G - n0) (slots := gS G - s0) (meth := meth) (below := below) (e := e)
    ⟨K.1, K.2.1, K.2.2.2.1, K.2.2.2.2.1, hts⟩ hmet ⟨cw, hts _ hl2, trivial⟩
    ⟨xPc_blind C _ G I, fun U hU hW => ⟨rfl, by rw [hU]; exact hH.moved hW⟩⟩
    rfl (by rw [List.length_map]; exact u2) hls.1.1 (by simp) (by show 2 * 0 + _ ≤ 8; rw [xsum]; omega) hd ⟨by omega, by omega⟩
  refine xcallW hrun hH ⟨rfl, rfl⟩ ⟨u6, u7⟩ ⟨b1, b2, b5⟩ (fun H1 locs1 hx hl => ?_)
  rw [xtoList]
  exact kk p e s m args below meth cd R n0 s0 H1 locs1 la K hx hls ⟨by omega, by omega, b3, b4, hl⟩
/-- a constructor -/
def xCI (own : String) (idx : Nat) (M2 : xM) : Prop := Cond.methodLink own idx M2.1 ∈ xtbl ∧ Cond.instanceMethod M2.1 ∈ xtbl ∧ M2.1.name = "<init>" ∧ M2.2.2.2.1 = none
theorem XW.callI {idx a n : Nat} {As : List Value} (hd : xd M.2.1 pc (.invokespecial idx) 3 nx) (hok : xOk M2 n) (hcv : xCI M.1.cls idx M2) (hs : stk = As.reverse ++ .ref a :: st) (ha0 : a ≠ 0) (hY : XW l C M2 0 (xent M2 (.ref a :: As)) [] G I r1 G1 I1) (hnum : xNum M M2 (.ref a :: As) st G G1 G' (n + 1)) (kk : XW l C M nx ls (r1.toList ++ st) G1 I1 r G' I') : XW l C M pc ls stk G I r G' I' := by
  obtain ⟨hd, rfl⟩ := hd
  subst hs
  obtain ⟨hl1, hl2, hl3, hl4⟩ := hcv
  obtain ⟨u1, u2, u3, u4, u5, u6, u7, u8, u9⟩ := hnum
  intro p e s m args below meth cd R n0 s0 H locs la K hH hls hB
  obtain ⟨b1, b2, b3, b4, b5⟩ := hB
  have hts := K.2.2.2.2.2.1
  have hmet := hY.met hok u4 u3
  have cw := callB_of (R := R) (rm := xrm M2.2.2.2.2 (gN G1 - gN G) (gS G1 - gS G)) (own := M.1.cls) (index := idx) n hts (xGoodIn hok) rfl rfl rfl (hts _ hok.2.1) (hts _ hl1) hok.2.2.1 (xroomOk u1 K.2.2.2.2.2.2.2.2.1 K.2.2.2.2.2.2.2.2.2 hok.2.2.2.2 _ _)
  rw [hl4] at cw
  have hrun := va_runI (b := xad C a) (As := As.map (xv C)) (rest := st.map (xv C)) (g := F0 m pc la ((As.reverse ++ .ref a :: st).map (xv C))) (H := H) (locs := locs) (cells := gN G - n0) (slots := gS G - s0) (meth := meth) (below := below) (e := e)
    ⟨K.1, K.2.1, K.2.2.2.1, K.2.2.2.2.1, hts⟩ hmet ⟨cw, hl3, hts _ hl2⟩
    ⟨xPc_blind C _ G I, fun U hU hW => ⟨by rw [List.map_cons, xv_ref ha0], by rw [hU]; exact hH.moved hW⟩⟩
    rfl (by rw [List.length_map]; simpa using u2) hls.1.1 (by simp [xv_ref ha0]) (by show 2 * 0 + _ ≤ 8; rw [xsum]; omega) hd ⟨by omega, by omega⟩
  refine xcallW hrun hH ⟨rfl, rfl⟩ ⟨u6, u7⟩ ⟨b1, b2, b5⟩ (fun H1 locs1 hx hl => ?_)
  rw [xtoList]
  exact kk p e s m args below meth cd R n0 s0 H1 locs1 la K hx hls ⟨by omega, by omega, b3, b4, hl⟩
theorem XW.callIN {idx a n : Nat} {host : String} {As : List Value} (hd : xd M.2.1 pc (.invokespecial idx) 3 nx) (hok : xOk M2 n) (hcv : (M.1.cls, idx, M2.1, host) ∈ xNest ∧ Cond.instanceMethod M2.1 ∈ xtbl ∧ M2.1.name = "<init>" ∧ M2.2.2.2.1 = none) (hs : stk = As.reverse ++ .ref a :: st) (ha0 : a ≠ 0) (hY : XW l C M2 0 (xent M2 (.ref a :: As)) [] G I r1 G1 I1) (hnum : xNum M M2 (.ref a :: As) st G G1 G' (n + 1)) (kk : XW l C M nx ls (r1.toList ++ st) G1 I1 r G' I') : XW l C M pc ls stk G I r G' I' := by
  obtain ⟨hd, rfl⟩ := hd
  subst hs
  obtain ⟨hl1, hl2, hl3, hl4⟩ := hcv
  obtain ⟨u1, u2, u3, u4, u5, u6, u7, u8, u9⟩ := hnum
  intro p e s m args below meth cd R n0 s0 H locs la K hH hls hB
  obtain ⟨b1, b2, b3, b4, b5⟩ := hB
  have hts := K.2.2.2.2.2.1
  have hmet := hY.met hok u4 u3
  have cw := va_cnB (R := R) (rm := xrm M2.2.2.2.2 (gN G1 - gN G) (gS G1 - gS G)) (own := M.1.cls) (index := idx) (host := host) n hts (xGoodIn hok) rfl rfl rfl (hH.1.2.2.2.2.2 _ hl1) (hts _ hok.2.1) hok.2.2.1 (xroomOk u1 K.2.2.2.2.2.2.2.2.1 K.2.2.2.2.2.2.2.2.2 hok.2.2.2.2 _ _)
  rw [hl4] at cw
  have hrun := va_runIN (b := xad C a) (As := As.map (xv C)) (rest := st.map (xv C)) (g := F0 m pc la ((As.reverse ++ .ref a :: st).map (xv C))) (H := H) (locs := locs) (cells := gN G - n0) (slots := gS G - s0) (meth := meth) (below := below) (e := e)
    ⟨K.1, K.2.1, K.2.2.2.1, K.2.2.2.2.1, hts⟩ hmet ⟨cw, hl3, hts _ hl2⟩
    ⟨xPc_blind C _ G I, fun U hU hW => ⟨by rw [List.map_cons, xv_ref ha0], by rw [hU]; exact hH.moved hW⟩⟩
    rfl (by rw [List.length_map]; simpa using u2) hls.1.1 (by simp [xv_ref ha0]) (by show 2 * 0 + _ ≤ 8; rw [xsum]; omega) hd ⟨by omega, by omega⟩
  refine xcallW hrun hH ⟨rfl, rfl⟩ ⟨u6, u7⟩ ⟨b1, b2, b5⟩ (fun H1 locs1 hx hl => ?_)
  rw [xtoList]
  exact kk p e s m args below meth cd R n0 s0 H1 locs1 la K hx hls ⟨by omega, by omega, b3, b4, hl⟩
/-! Object.<init>, Math.max -/
theorem xw_oi : Cond.instanceMethod Lib.objectInit ∈ xtbl := by decide +kernel
theorem xw_oc : Cond.code Lib.objectInit ⟨#[0xb1]⟩ 1 none ∈ xtbl := by decide +kernel
theorem XW.objInit {idx a : Nat} (hd : xd M.2.1 pc (.invokespecial idx) 3 nx) (hl : Cond.methodLink M.1.cls idx Lib.objectInit ∈ xtbl) (ha0 : a ≠ 0) (hst : (st.map fun v => v.category).sum ≤ 8) (hrk : 1 ≤ M.2.2.2.2) (kk : XW l C M nx ls st G I r G' I') : XW l C M pc ls (.ref a :: st) G I r G' I' := by
  obtain ⟨hd, rfl⟩ := hd
  intro p e s m args below meth cd R n0 s0 H locs la K hH hls hB
  have hts := K.2.2.2.2.2.1
  have k1 := K.2.2.2.2.2.2.2.2.1
  have k2 := K.2.2.2.2.2.2.2.2.2
  refine W.objInit K.1 K.2.1 K.2.2.2.2.1 (hts _ hl) (hts _ xw_oi) (hts _ xw_oc) rfl (a := xad C a) (rest := st.map (xv C)) ?_ ?_ hd (by omega) ?_ (kk p e s m args below meth cd R n0 s0 H locs la K hH hls hB)
  · rw [K.2.2.2.1]; exact hls.1.1
  · show xv C (.ref a) :: _ = _
    rw [xv_ref ha0]
  · show 2 * 0 + _ + 12 ≤ _
    rw [xsum]; omega
theorem xw_ms : Cond.static Lib.Math.max.name ∈ xtbl := by decide +kernel
theorem xw_mi : Cond.initialized "java/lang/Math" ∈ xtbl := by decide +kernel
theorem xw_mc : Cond.code Lib.Math.max.name Lib.Math.max.code 2 (some .int) ∈ xtbl := by decide +kernel
theorem XW.mmax {idx : Nat} {x y : Int32} (hd : xd M.2.1 pc (.invokestatic idx) 3 nx) (hl : Cond.methodLink M.1.cls idx Lib.Math.max.name ∈ xtbl) (hst : (st.map fun v => v.category).sum ≤ 8) (hrk : 1 ≤ M.2.2.2.2) (hG : gN G ≤ gN G' ∧ gS G ≤ gS G') (kk : XW l C M nx ls (.int (if x < y then y else x) :: st) G I r G' I') : XW l C M pc ls (.int y :: .int x :: st) G I r G' I' := by
  obtain ⟨hd, rfl⟩ := hd
  intro p e s m args below meth cd R n0 s0 H locs la K hH hls hB
  have hts := K.2.2.2.2.2.1
  have k1 := K.2.2.2.2.2.2.2.2.1
  have k2 := K.2.2.2.2.2.2.2.2.2
  refine va_mmax (rest := st.map (xv C)) K.1 K.2.1 (by rw [K.2.2.2.1]; exact hls.1.1.symm) K.2.2.2.2.1 (hts _ hl) (hts _ xw_ms) (hts _ xw_mi) (hts _ xw_mc) (by omega) ?_ (by omega) (by omega) hd (kk p e s m args below meth cd R n0 s0 H locs la K hH hls hB)
  rw [xsum]; omega
end XMET
