/-! System.arraycopy over ints; the law's run as the claim wants it -/
def wA (I : xI) (a : Nat) (f : Nat → Int32) : xI := fun b => if b = a then f else I b
theorem wA_same (I : xI) (a : Nat) (f : Nat → Int32) : wA I a f a = f := by simp [wA]
theorem wA_ne (I : xI) {a b : Nat} (f : Nat → Int32) (h : b ≠ a) : wA I a f b = I b := by simp [wA, h]
theorem xw_cn : Cond.native arraycopyName ∈ xtbl := by decide +kernel
theorem xw_cs : Cond.static arraycopyName ∈ xtbl := by decide +kernel
theorem xw_ci : Cond.initialized "java/lang/System" ∈ xtbl := by decide +kernel
theorem xw_words : nativeFrameWords "java/lang/System" "arraycopy" 5 + 11 + 8 ≤ 37 := by decide +kernel
section XCOPY
variable {l : Launch} {C : xC} {M : xM} {pc nx : Nat} {ls ls' : List (Option Value)} {st : List Value} {G G' : xG} {I I' : xI} {r : Option Value}
theorem XW.acopy {idx a0 a m0 m1 : Nat} {sp dp n : Int32} (hd : xd M.2.1 pc (.invokestatic idx) 3 nx) (hl : Cond.methodLink M.1.cls idx arraycopyName ∈ xtbl) (ha0 : gA G a0 100 m0) (ha1 : gA G a 100 m1) (h1 : ¬ sp < 0) (h2 : ¬ dp < 0) (h3 : ¬ n < 0) (h4 : sp.toNatClampNeg + n.toNatClampNeg ≤ m0) (h5 : dp.toNatClampNeg + n.toNatClampNeg ≤ m1) (hst : (st.map fun v => v.category).sum ≤ 8) (hrk : 1 ≤ M.2.2.2.2)
    (kk : XW l C M nx ls st G (wA I a (va_cpy (I a0) (I a) sp.toNatClampNeg dp.toNatClampNeg n.toNatClampNeg)) r G' I') : XW l C M pc ls (.int n :: .int dp :: .ref a :: .int sp :: .ref a0 :: st) G I r G' I' := by
  obtain ⟨hd, rfl⟩ := hd
  intro p e s m args below meth cd R n0 s0 H locs la K hH hls hB
  have hts := K.2.2.2.2.2.1
  have k1 := K.2.2.2.2.2.2.2.2.1
  have k2 := K.2.2.2.2.2.2.2.2.2
  have hw := xw_words
  have z0 : a0 ≠ 0 := by have := ha0.1; omega
  have z1 : a ≠ 0 := by have := ha1.1; omega
  have hA := hH.1.2.1 100 .int rfl
  have ev : ∀ b mm, gA G b 100 mm → xev C G I b = fun j => .int (I b j) := by
    intro b mm hb
    funext j
    rw [xev, hb.2.2.1]; rfl
  have nn : ∀ z : Int32, ¬ z < 0 → z.toInt = (z.toNatClampNeg : Int) := by
    intro z hz
    have hz0 : (0 : Int) ≤ z.toInt := by
      have := Int32.not_lt.mp hz
      simpa using Int32.le_iff_toInt_le.mp this
    show z.toInt = ((z.toInt.toNat : Nat) : Int)
    omega
  have hc0 : H[xad C a0]? = some (vp_cell (C.2.2.2.2.2 100) (m0, .inl (I a0))) := by rw [hH.arr ha0 (by omega), ev _ _ ha0]; rfl
  have hc1 : H[xad C a]? = some (vp_cell (C.2.2.2.2.2 100) (m1, .inl (I a))) := by rw [hH.arr ha1 (by omega), ev _ _ ha1]; rfl
  have hstk : (F0 m pc la ((.int n :: .int dp :: .ref a :: .int sp :: .ref a0 :: st).map (xv C))).stack = .int n :: .int dp :: .ref (xad C a) :: .int sp :: .ref (xad C a0) :: st.map (xv C) := by
    show xv C (.int n) :: xv C (.int dp) :: xv C (.ref a) :: xv C (.int sp) :: xv C (.ref a0) :: _ = _
    rw [xv_ref z0, xv_ref z1]; rfl
  intro T hT X
  obtain ⟨-, kk0, hk0, cm0, hkk0⟩ := hA.1 m0 (fun j => .int (I a0 j))
  obtain ⟨-, kk1, hk1, cm1, hkk1⟩ := hA.1 m1 (fun j => .int (I a j))
  obtain ⟨vm', X', step⟩ := X.arraycopy K.1 K.2.2.2.2.1 (hts _ hl) (hts _ xw_cn) (hts _ xw_cs) (hts _ xw_ci) (src := xad C a0) (dst := xad C a) (cs := vp_cell (C.2.2.2.2.2 100) (m0, .inl (I a0))) (cd := vp_cell (C.2.2.2.2.2 100) (m1, .inl (I a))) (srcPos := sp) (destPos := dp) (n := n) (by rw [hT]; exact hc0) (by rw [hT]; exact hc1)
    (fun _ h => by cases h) (fun _ h => by cases h) (fun h => by cases h) (fun h => by cases h) hk0 hk1 hkk0 hkk1 (by simp [refKind]) h1 h2 h3
    (by rw [nn sp h1, nn n h3]; show ¬ _ > ((arrV _ m0 (fun j => .int (I a0 j))).slots.size : Int); rw [arrV_size]; omega)
    (by rw [nn dp h2, nn n h3]; show ¬ _ > ((arrV _ m1 (fun j => .int (I a j))).slots.size : Int); rw [arrV_size]; omega)
    (fun vm₁ _ i hi => by
      have e : (vp_cell (C.2.2.2.2.2 100) (m0, .inl (I a0))).slots.getD (sp.toNatClampNeg + i) .null = .int (I a0 (sp.toNatClampNeg + i)) := by
        show (arrV _ m0 (fun j => .int (I a0 j))).slots.getD _ _ = _
        rw [Array.getD_eq_getD_getElem?, arrV_read _ _ (by omega)]
        rfl
      refine ⟨?_, ?_⟩
      · rw [e]; rfl
      · rw [e]
        exact trivial)
    (g := F0 m pc la ((.int n :: .int dp :: .ref a :: .int sp :: .ref a0 :: st).map (xv C))) rfl (by rw [K.2.2.2.1]; exact hls.1.1) (rest := st.map (xv C)) hstk (by rw [K.2.1]; exact hd) (by omega) (by show 2 * 0 + _ + _ ≤ _; rw [xsum]; omega)
  have e1 : copied (vp_cell (C.2.2.2.2.2 100) (m0, .inl (I a0))) (vp_cell (C.2.2.2.2.2 100) (m1, .inl (I a))) sp dp n = vp_cell (C.2.2.2.2.2 100) (m1, .inl (va_cpy (I a0) (I a) sp.toNatClampNeg dp.toNatClampNeg n.toNatClampNeg)) := va_copied (fun z => .int z) _ _ (I a0) (I a) h4
  rw [e1] at X' step
  have hlt : xad C a < H.size := (Array.getElem?_eq_some_iff.mp hc1).1
  generalize hnew : va_cpy (I a0) (I a) sp.toNatClampNeg dp.toNatClampNeg n.toNatClampNeg = fn at X' step kk
  have hheap : ((T.setVm vm').setCell (xad C a) (vp_cell (C.2.2.2.2.2 100) (m1, .inl fn))).heap = H.setIfInBounds (xad C a) (vp_cell (C.2.2.2.2.2 100) (m1, .inl fn)) := by rw [← hT]; rfl
  have oq : ∀ q : Nat, q ≠ xad C a → (H.setIfInBounds (xad C a) (vp_cell (C.2.2.2.2.2 100) (m1, .inl fn)))[q]? = H[q]? := fun q hq => by simp [Array.getElem?_setIfInBounds, Ne.symm hq]
  have hX : xH C s G (wA I a fn) (H.setIfInBounds (xad C a) (vp_cell (C.2.2.2.2.2 100) (m1, .inl fn))) := by
    refine hH.put ha1.1 (by simp) oq rfl (fun _ => rfl) (fun _ => rfl) (fun _ _ => rfl) (fun b hb => wA_ne I fn hb) ⟨fun q hq => ?_, fun _ => ?_⟩
    · rw [ha1.2.2.1] at hq
      have := xcl_lt hq
      omega
    · rw [ha1.2.2.1, ha1.2.2.2]
      have e3 : xev C G (wA I a fn) a = fun j => .int (fn j) := by
        funext j
        rw [xev, ha1.2.2.1, wA_same]; rfl
      rw [e3]
      simp [Array.getElem?_setIfInBounds, hlt]
      rfl
  obtain ⟨t, a1, b1⟩ := kk p e s m args below meth cd R n0 s0 _ _ la K hX hls ⟨hB.1, hB.2.1, hB.2.2.1, hB.2.2.2.1, fun q hq => by
      rcases List.mem_append.mp hq with h | h
      · exact hB.2.2.2.2 q h
      · obtain ⟨z, -, hz⟩ := List.mem_map.mp h
        rw [← hz]
        show C.1 ≤ xad C a
        rw [xad_of ha1.1]; omega⟩ _ hheap X'
  exact ⟨t, step t a1, b1⟩
end XCOPY
/-! ===== the top ===== -/
def mL_law : xM := (yL_law, cL_law, 4, some .boolean, 9)
def xG0 : xG := (2, 0, fun _ => 0, fun _ => 0, fun _ _ => 0)
def xI0 : xI := fun _ _ => 0
def R_law : String := "LetterStoreLaw"
def lw_P (b : Addr) (xs : List Int32) (args : Array Value) (s : State) : Prop := args = #[.ref b] ∧ s.IntsAt b xs ∧ xs.length ≤ 3072 ∧ (Jvm.Cond.and given_1 narrow_1).before args s = true
def lw_Q (_ : Array Value) (s : State) (o : Outcome) (t : State) : Prop := o = .returned (some (.int 1)) ∧ Framed s o t [] 600000 7302250
def lw_Z (below : List Frame) (a : Array Value) (s : State) : State → Prop := fun t => ∃ o, t.status = .running ∧ Ended t below o ∧ lw_Q a s o t
def lw_At (p : Program) (s : State) (m : MethodId) (meth : Method) (c : Code) (b L : Nat) (xs : Nat → Int32) : Prop :=
  p.tables.exec = Jvm.exec ∧ c.code = code ∧ meth.sig.returnType = ret ∧ c.maxLocals = 4 ∧ s.vm.findClass R_law = some m.cls ∧ (∀ w ∈ lw_tbl, w.before #[Value.ref b] s = true) ∧ va_X b L xs s s.heap ∧ b < s.heap.size ∧ meth.locks = false ∧ (Jvm.Cond.and given_1 narrow_1).before #[Value.ref b] s = true
theorem W.mono {p : Program} {l : Launch} {e : Env} {R : Room} {s : State} {m : MethodId} {args : Array Value} {below : List Frame} {meth : Method} {c : Code} {H : Heap} {locs : List Loc} {cells slots : Nat} {Q Q2 : State → Prop} {g : JFrame} (h : ∀ t, Q t → Q2 t) (k : W p l e R s m args below meth c H locs cells slots Q g) : W p l e R s m args below meth c H locs cells slots Q2 g := by
  intro T hT X
  obtain ⟨t, a, b⟩ := k T hT X
  exact ⟨t, a, h t b⟩
theorem xarrI {args : Array Value} {s : State} {ty : FieldType} (h : (Cond.arrayClass ty).before args s = true) : ∃ cA : ClassId, ArrOfT s cA ty ∧ s.vm.findClass ("[" ++ ty.toString) = some cA := by
  obtain ⟨cA, kA, comp, hfind, hk, hkind⟩ := Cond.arrayClass_spec h
  exact ⟨cA, fun n z => ⟨fun k h => (by cases h), kA, hk, comp, hkind⟩, hfind⟩
theorem xarrO {args : Array Value} {s : State} {nm : String} (h : (Cond.arrayOver (.object nm)).before args s = true) : ∃ cA : ClassId, ArrOfT s cA (.object nm) ∧ va_RA s cA (.object nm) := by
  obtain ⟨comp, c, k, h1, h2, h3, h4, h5⟩ := Cond.arrayOver_spec h
  exact ⟨c, fun n z => ⟨fun k h => (by cases h), k, h3, comp, h4⟩, k, comp, h3, h4, h1, h5⟩
theorem xno_1 : (Cond.not (.castable "LetterStore$Line" "LetterStore$Sure")) ∈ flatC (Jvm.Cond.and given_1 narrow_1) := by decide +kernel
theorem xno_2 : (Cond.not (.castable "LetterStore$Line" "LetterStore$Held")) ∈ flatC (Jvm.Cond.and given_1 narrow_1) := by decide +kernel
theorem xno_3 : (Cond.not (.castable "LetterStore$Sure" "LetterStore$Held")) ∈ flatC (Jvm.Cond.and given_1 narrow_1) := by decide +kernel
theorem xye : ∀ q ∈ xYes, Cond.castable q.1 q.2 ∈ lw_tbl := by decide +kernel
theorem xov : ∀ n ∈ xOv, Cond.arrayOver (.object n) ∈ lw_tbl := by decide +kernel
theorem xne : ∀ q ∈ xNest, Cond.methodLinkNest q.1 q.2.1 q.2.2.1 q.2.2.2 ∈ lw_tbl := by decide +kernel
theorem xins : ∀ (c : Nat) (q : vw_C), vwCl[c]? = some q → Cond.instantiable q.1 q.2.2 ∈ lw_tbl :=
  xcl_cases (by decide +kernel) (by decide +kernel) (by decide +kernel) (by decide +kernel) (by decide +kernel) (by decide +kernel) (by decide +kernel) (by decide +kernel) (by decide +kernel) (by decide +kernel) (by decide +kernel)
theorem xtbl_sub : ∀ w ∈ xtbl, w ∈ lw_tbl := fun w h => (List.mem_filter.mp h).1
theorem xGC_of {s : State} {args : Array Value} (hts : ∀ w ∈ lw_tbl, w.before args s = true) (hgv : (Jvm.Cond.and given_1 narrow_1).before args s = true) : ∃ (D : va_G) (ar : Nat → ClassId), ∀ (n b L : Nat) (xs : Nat → Int32), xGC (n, b, L, xs, D, ar) s := by
  have hD : ∀ c : Nat, ∃ (cC : ClassId) (iS : Nat → Nat), ∀ q : vw_C, vwCl[c]? = some q → u_Kn s q.1 q.2.1 q.2.2 cC iS := by
    intro c
    cases hq : vwCl[c]? with
    | none => exact ⟨0, fun _ => 0, fun q h => by cases h⟩
    | some q =>
      obtain ⟨cC, iS, h⟩ := u_known (C := q.1) (T := q.2.1) (N := q.2.2) hts (fun w hw => xtbl_sub w (xIn_ok c q hq w hw)) (hts _ (xins c q hq))
      exact ⟨cC, iS, fun q' h' => by cases h'; exact h⟩
  have hAr : ∀ t : Nat, ∃ cA : ClassId, ∀ ty, xAr t = some ty → ArrOfT s cA ty ∧ va_RA s cA ty := by
    intro t
    by_cases h0 : t = 100
    · subst h0
      obtain ⟨cA, h1, h2⟩ := xarrI (hts _ (xtbl_sub _ xarr_int))
      exact ⟨cA, fun ty hty => by cases hty; exact ⟨h1, h2⟩⟩
    by_cases h0 : t = 101
    · subst h0
      obtain ⟨cA, h1, h2⟩ := xarrI (hts _ (xtbl_sub _ xarr_bool))
      exact ⟨cA, fun ty hty => by cases hty; exact ⟨h1, h2⟩⟩
    by_cases h0 : t = 102
    · subst h0
      obtain ⟨cA, h1⟩ := xarrO (hts _ (xov "LetterStore$Line" (by decide)))
      exact ⟨cA, fun ty hty => by cases hty; exact h1⟩
    by_cases h0 : t = 103
    · subst h0
      obtain ⟨cA, h1⟩ := xarrO (hts _ (xov "LetterStore$Row" (by decide)))
      exact ⟨cA, fun ty hty => by cases hty; exact h1⟩
    by_cases h0 : t = 104
    · subst h0
      obtain ⟨cA, h1⟩ := xarrO (hts _ (xov "LetterStore$Sheet" (by decide)))
      exact ⟨cA, fun ty hty => by cases hty; exact h1⟩
    by_cases h0 : t = 105
    · subst h0
      obtain ⟨cA, h1⟩ := xarrO (hts _ (xov "LetterStore$Queue" (by decide)))
      exact ⟨cA, fun ty hty => by cases hty; exact h1⟩
    · refine ⟨0, fun ty hty => ?_⟩
      unfold xAr at hty
      split at hty <;> first | contradiction | omega
  have hf := flat_of_before _ hgv
  refine ⟨(fun c => (hD c).choose, fun c => (hD c).choose_spec.choose), fun t => (hAr t).choose, fun n b L xs => ⟨fun c q hq => (hD c).choose_spec.choose_spec q hq, fun t ty hty => (hAr t).choose_spec ty hty, fun q hq => ?_, fun q hq => va_Nw.of rfl (hts _ (xye q hq)), fun n hn => va_AO.of (hts _ (xov n hn)), fun q hq => va_Nw.of rfl (hts _ (xne q hq))⟩⟩
  unfold xNo at hq
  rcases List.mem_cons.mp hq with rfl | hq
  · exact va_Nc.of (hf _ xno_1)
  rcases List.mem_cons.mp hq with rfl | hq
  · exact va_Nc.of (hf _ xno_2)
  rw [List.mem_singleton.mp hq]
  exact va_Nc.of (hf _ xno_3)
theorem xtop {p : Program} {e : Env} {s : State} {m : MethodId} {below : List Frame} {meth : Method} {c : Code} (l : Launch) {b L : Nat} {xs : Nat → Int32} (C0 : lw_At p s m meth c b L xs)
    (hrun : ∀ C : xC, C.2.2.1 = L → ∃ G1 I1, gN G1 ≤ 600002 ∧ gS G1 ≤ 7302250 ∧ XW l C mL_law 0 (xent mL_law [.ref 1]) [] xG0 xI0 (some (.int 1)) G1 I1) :
    W p l e room_1 s m #[Value.ref b] below meth c s.heap [] 0 0 (lw_Z below #[Value.ref b] s) (entryFrame m ([Value.ref b] : List Value).toArray 4) := by
  obtain ⟨hx, hb, hr, hml, hown, hts, hX, hbl, hlocks, hgv⟩ := C0
  obtain ⟨D, ar, hGC⟩ := xGC_of hts hgv
  obtain ⟨G1, I1, g1, g2, hXW⟩ := hrun (s.heap.size, b, L, xs, D, ar) rfl
  have K : xK mL_law p s m #[Value.ref b] meth c room_1 := ⟨hx, hb, hr, hml, hown, fun w hw => hts w (xtbl_sub w hw), hlocks, fun h => absurd h (by decide), by decide, by decide⟩
  have hH : xH (s.heap.size, b, L, xs, D, ar) s xG0 xI0 s.heap := ⟨hGC _ _ _ _, hX, hbl, by decide, rfl, fun a h1 h2 => by have : a < 2 := h2; omega⟩
  have e0 : ([Value.ref b] : List Value) = ([Value.ref 1] : List Value).map (xv (s.heap.size, b, L, xs, D, ar)) := by
    show _ = [xv _ (Value.ref 1)]
    rw [xv_ref (by omega)]; rfl
  have hls := xls_entry (C := (s.heap.size, b, L, xs, D, ar)) (M := mL_law) (As := [.ref 1]) (by intro v hv; rw [List.mem_singleton.mp hv]; rfl) (by decide)
  have h1 := hXW p e s m #[Value.ref b] below meth c room_1 2 0 s.heap [] _ K hH hls ⟨by decide, by decide, by show _ ≤ 600000; omega, by show _ ≤ 7302250; omega, fun q hq => by cases hq⟩
  rw [e0, lg_entry_eq]
  refine W.mono ?_ h1
  rintro t ⟨o, b1, b2, ⟨b3, -⟩, Lc, ⟨f1, f2, f3⟩, b5⟩
  refine ⟨o, b1, b2, b3, f1, f2, ?_⟩
  obtain ⟨q1, q2, q3, q4, q5, q6⟩ := f3
  refine ⟨q1, q2, q3, q4, q5, fun a cl hc => ?_⟩
  obtain ⟨c', w1, w2, w3, w4⟩ := q6 a cl hc
  refine ⟨c', w1, w2, w3, fun i _ => w4 i (fun hmem => ?_)⟩
  have : s.heap.size ≤ a := b5 _ hmem
  have h9 := (Array.getElem?_eq_some_iff.mp hc).1
  omega
