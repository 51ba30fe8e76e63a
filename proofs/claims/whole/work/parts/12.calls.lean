/-! rows: making cells, references into arrays, classes of objects, returns, calls -/
section XMAKE
variable {l : Launch} {C : xC} {M : xM} {pc nx : Nat} {ls ls' : List (Option Value)} {st : List Value} {G G' : xG} {I I' : xI} {r : Option Value}
theorem aO_N (G : xG) (c n : Nat) : gN (aO G c n) = gN G + 1 := rfl
theorem aO_S (G : xG) (c n : Nat) : gS (aO G c n) = gS G + n := rfl
theorem aA_N (G : xG) (c n : Nat) : gN (aA G c n) = gN G + 1 := rfl
theorem aA_S (G : xG) (c n : Nat) : gS (aA G c n) = gS G + n := rfl
theorem aO_T (G : xG) (c n : Nat) : gT (aO G c n) (gN G) = c := by simp [gT, aO]
theorem aA_T (G : xG) (c n : Nat) : gT (aA G c n) (gN G) = c := by simp [gT, aA]
theorem aA_L (G : xG) (c n : Nat) : gL (aA G c n) (gN G) = n := by simp [gL, aA]
theorem aO_Tn (G : xG) (c n : Nat) {b : Nat} (h : b ≠ gN G) : gT (aO G c n) b = gT G b := by simp [gT, aO, h]
theorem aO_Ln (G : xG) (c n : Nat) (b : Nat) : gL (aO G c n) b = gL G b := rfl
theorem aA_Tn (G : xG) (c n : Nat) {b : Nat} (h : b ≠ gN G) : gT (aA G c n) b = gT G b := by simp [gT, aA, h]
theorem aA_Ln (G : xG) (c n : Nat) {b : Nat} (h : b ≠ gN G) : gL (aA G c n) b = gL G b := by simp [gL, aA, h]
theorem aO_R (G : xG) (c n : Nat) : gR (aO G c n) (gN G) = fun _ => 0 := by funext k; simp [gR, aO]
theorem aA_R (G : xG) (c n : Nat) : gR (aA G c n) (gN G) = fun _ => 0 := by funext k; simp [gR, aA]
theorem aO_Rn (G : xG) (c n : Nat) {b : Nat} (h : b ≠ gN G) : gR (aO G c n) b = gR G b := by funext k; simp [gR, aO, h]
theorem aA_Rn (G : xG) (c n : Nat) {b : Nat} (h : b ≠ gN G) : gR (aA G c n) b = gR G b := by funext k; simp [gR, aA, h]
theorem wN_same (I : xI) (a : Nat) : wN I a a = fun _ => 0 := by simp [wN]
theorem wN_ne (I : xI) {a b : Nat} (h : b ≠ a) : wN I a b = I b := by simp [wN, h]
/-- class c, as 'new' at own's entry idx makes it -/
def xNw (own : String) (idx c n : Nat) : Prop := ∃ q : vw_C, vwCl[c]? = some q ∧ q.2.2 = n ∧ Cond.classLink own idx q.1 ∈ xtbl ∧ Cond.instantiable q.1 n ∈ xtbl ∧ Cond.initialized q.1 ∈ xtbl
theorem XW.new {idx c n : Nat} (hd : xd M.2.1 pc (.new idx) 3 nx) (hN : xNw M.1.cls idx c n) (hroom : gN G + 1 ≤ gN G' ∧ gS G + n ≤ gS G') (kk : XW l C M nx ls (.ref (gN G) :: st) (aO G c n) (wN I (gN G)) r G' I') : XW l C M pc ls st G I r G' I' := by
  obtain ⟨hd, rfl⟩ := hd
  obtain ⟨q, hc, rfl, hl1, hl2, hl3⟩ := hN
  intro p e s m args below meth cd R n0 s0 H locs la K hH hls hB
  obtain ⟨b1, b2, b3, b4, b5⟩ := hB
  have hts := K.2.2.2.2.2.1
  have hKn := hH.1.1 c q hc
  refine W.newcK K.1 K.2.1 K.2.2.2.2.1 (hts _ hl1) (hts _ hl2) (hts _ hl3) rfl hd (by omega) (by omega) hKn.2.1 rfl (fun H1 kC hkC e1 z1 o1 => ?_)
  have hob := u_born (xTy c) hts (xIn_ok c q hc) hKn hkC e1 (xTy_ok c q hc)
  have hX : xH C s (aO G c q.2.2) (wN I (gN G)) H1 := by
    refine hH.grow z1 o1 rfl (fun b hb => aO_Tn G _ _ hb) (fun b _ => rfl) (fun b hb => aO_Rn G _ _ hb) (fun b hb => wN_ne I hb) ⟨fun q' hq' => ?_, fun hq' => ?_⟩
    · rw [aO_T] at hq' ⊢
      cases hc.symm.trans hq'
      rw [hH.end]
      refine hob.to (fun k hk => ?_)
      rw [xDf_ok c q hc k hk, xfv, aO_T, aO_R, wN_same, xr_null]
    · rw [aO_T] at hq'
      have := xcl_lt hc
      omega
  have hk := kk p e s m args below meth cd R n0 s0 H1 locs la K hX hls ⟨by rw [aO_N]; omega, by rw [aO_S]; omega, b3, b4, b5⟩
  refine W.cs (cells' := gN (aO G c q.2.2) - n0) (slots' := gS (aO G c q.2.2) - s0) (by rw [aO_N]; omega) (by rw [aO_S]; omega) ?_
  rw [List.map_cons, xv_ref (by have := hH.2.2.2.1; omega), hH.end] at hk
  exact hk
theorem XW.newarr {a : ArrayType} {ty : FieldType} {t : Nat} {n : Int32} {N : Nat} (hd : xd M.2.1 pc (.newarray a) 2 nx) (hty : newarray.typeOf a = ty) (ht : xAr t = some ty) (hp : t < 102 ∧ 100 ≤ t) (hl : Cond.arrayClass ty ∈ xtbl) (hdf : defaultValue ty = .int 0 ∧ componentBytes ty ≤ 4) (hra : ∀ (U : State) (cA : ClassId), va_RA U cA ty = (U.vm.findClass ("[" ++ ty.toString) = some cA))
    (hn : ¬ n < 0) (hN : n.toNatClampNeg = N) (hbig : N ≤ 100000000) (hroom : gN G + 1 ≤ gN G' ∧ gS G + N ≤ gS G') (kk : XW l C M nx ls (.ref (gN G) :: st) (aA G t N) (wN I (gN G)) r G' I') : XW l C M pc ls (.int n :: st) G I r G' I' := by
  obtain ⟨hd, rfl⟩ := hd
  subst hty
  intro p e s m args below meth cd R n0 s0 H locs la K hH hls hB
  obtain ⟨b1, b2, b3, b4, b5⟩ := hB
  have hts := K.2.2.2.2.2.1
  have hA := hH.1.2.1 t _ ht
  have hby : N * componentBytes (newarray.typeOf a) ≤ 536870912 := Nat.le_trans (Nat.mul_le_mul hbig hdf.2) (by omega)
  refine va_newaK K.1 K.2.1 (hts _ hl) rfl hd (n := n) (N := N) (rest := st.map (xv C)) rfl hn hN hby (by omega) (by omega) rfl (fun H1 cA e1 z1 o1 _ hf => ?_)
  have hcA : C.2.2.2.2.2 t = cA := by
    have h9 := hA.2
    rw [hra] at h9
    exact Option.some.inj (h9.symm.trans hf)
  have hX : xH C s (aA G t N) (wN I (gN G)) H1 := by
    refine hH.grow z1 o1 rfl (fun b hb => aA_Tn G _ _ hb) (fun b hb => aA_Ln G _ _ hb) (fun b hb => aA_Rn G _ _ hb) (fun b hb => wN_ne I hb) ⟨fun q' hq' => ?_, fun hq' => ?_⟩
    · rw [aA_T] at hq'
      have := xcl_lt hq'
      omega
    · rw [aA_T, aA_L, hH.end, e1, hcA]
      congr 2
      funext j
      rw [xev, aA_T, if_pos hp.1, wN_same, hdf.1]
  have hk := kk p e s m args below meth cd R n0 s0 H1 locs la K hX hls ⟨by rw [aA_N]; omega, by rw [aA_S]; omega, b3, b4, b5⟩
  refine W.cs (cells' := gN (aA G t N) - n0) (slots' := gS (aA G t N) - s0) (by rw [aA_N]; omega) (by rw [aA_S]; omega) ?_
  rw [List.map_cons, xv_ref (by have := hH.2.2.2.1; omega), hH.end] at hk
  exact hk
theorem xarr_int : Cond.arrayClass .int ∈ xtbl := by decide +kernel
theorem xarr_bool : Cond.arrayClass .boolean ∈ xtbl := by decide +kernel
theorem XW.newI {n : Int32} {N : Nat} (hd : xd M.2.1 pc (.newarray .int) 2 nx) (hn : ¬ n < 0) (hN : n.toNatClampNeg = N) (hbig : N ≤ 100000000) (hroom : gN G + 1 ≤ gN G' ∧ gS G + N ≤ gS G') (kk : XW l C M nx ls (.ref (gN G) :: st) (aA G 100 N) (wN I (gN G)) r G' I') : XW l C M pc ls (.int n :: st) G I r G' I' :=
  XW.newarr (t := 100) (ty := .int) hd rfl rfl (by omega) xarr_int ⟨rfl, by decide⟩ (fun _ _ => rfl) hn hN hbig hroom kk
theorem XW.newZ {n : Int32} {N : Nat} (hd : xd M.2.1 pc (.newarray .boolean) 2 nx) (hn : ¬ n < 0) (hN : n.toNatClampNeg = N) (hbig : N ≤ 100000000) (hroom : gN G + 1 ≤ gN G' ∧ gS G + N ≤ gS G') (kk : XW l C M nx ls (.ref (gN G) :: st) (aA G 101 N) (wN I (gN G)) r G' I') : XW l C M pc ls (.int n :: st) G I r G' I' :=
  XW.newarr (t := 101) (ty := .boolean) hd rfl rfl (by omega) xarr_bool ⟨rfl, by decide⟩ (fun _ _ => rfl) hn hN hbig hroom kk
/-- an array of references, as 'anewarray' at own's entry idx makes it -/
theorem XW.anew {idx t : Nat} {nm : String} {n : Int32} {N : Nat} (hd : xd M.2.1 pc (.anewarray idx) 3 nx) (ht : xAr t = some (.object nm)) (hp : 102 ≤ t) (ho : nm ∈ xOv) (hl : Cond.classLink M.1.cls idx nm ∈ xtbl) (hn : ¬ n < 0) (hN : n.toNatClampNeg = N) (hbig : N ≤ 100000000) (hroom : gN G + 1 ≤ gN G' ∧ gS G + N ≤ gS G') (kk : XW l C M nx ls (.ref (gN G) :: st) (aA G t N) (wN I (gN G)) r G' I') : XW l C M pc ls (.int n :: st) G I r G' I' := by
  obtain ⟨hd, rfl⟩ := hd
  subst hN
  intro p e s m args below meth cd R n0 s0 H locs la K hH hls hB
  obtain ⟨b1, b2, b3, b4, b5⟩ := hB
  have hts := K.2.2.2.2.2.1
  have hA := hH.1.2.1 t _ ht
  refine W.anew K.1 K.2.1 K.2.2.2.2.1 (hts _ hl) (va_AO.use (hH.1.2.2.2.2.1 nm ho)) rfl hd (n := n) (rest := st.map (xv C)) rfl hn (by omega) (by omega) (by omega) (fun cA kA comp f1 f2 f3 f4 => ?_)
  generalize hH1 : H.push ({ cls := cA, slots := Array.replicate n.toNatClampNeg .null, vm := .none } : Cell) = H1
  have z1 : H1.size = H.size + 1 := by rw [← hH1, Array.size_push]
  have e1 : H1[H.size]? = some (arrV cA n.toNatClampNeg (fun _ => .null)) := by rw [← hH1, Array.getElem?_push_size, ← arrV_new]
  have o1 : ∀ q : Nat, q < H.size → H1[q]? = H[q]? := fun q hq => by rw [← hH1, Array.getElem?_push, if_neg (Nat.ne_of_lt hq)]
  have hcA : C.2.2.2.2.2 t = cA := by
    obtain ⟨_, _, _, _, _, h9⟩ := hA.2
    exact Option.some.inj (h9.symm.trans f1)
  have hX : xH C s (aA G t n.toNatClampNeg) (wN I (gN G)) H1 := by
    refine hH.grow z1 o1 rfl (fun b hb => aA_Tn G _ _ hb) (fun b hb => aA_Ln G _ _ hb) (fun b hb => aA_Rn G _ _ hb) (fun b hb => wN_ne I hb) ⟨fun q' hq' => ?_, fun hq' => ?_⟩
    · rw [aA_T] at hq'
      have := xcl_lt hq'
      omega
    · rw [aA_T, aA_L, hH.end, e1, hcA]
      congr 2
      funext j
      rw [xev, aA_T, if_neg (by omega), aA_R, xr_null]
  have hk := kk p e s m args below meth cd R n0 s0 H1 locs la K hX hls ⟨by rw [aA_N]; omega, by rw [aA_S]; omega, b3, b4, b5⟩
  refine W.cs (cells' := gN (aA G t n.toNatClampNeg) - n0) (slots' := gS (aA G t n.toNatClampNeg) - s0) (by rw [aA_N]; omega) (by rw [aA_S]; omega) ?_
  rw [List.map_cons, xv_ref (by have := hH.2.2.2.1; omega), hH.end] at hk
  exact hk
/-! references into arrays -/
theorem wR_ev {a t n j b : Nat} (ha : gA G a t n) (ht : 102 ≤ t) : xev C (wR G a j b) I a = updV (xev C G I a) j (xr C b) := by
  funext k
  have e1 : gT (wR G a j b) a = gT G a := rfl
  have hT : ¬ gT G a < 102 := by rw [ha.2.2.1]; omega
  unfold xev updV
  rw [e1, if_neg hT]
  by_cases h : k = j
  · subst h
    simp [gR, wR]
  · simp [gR, wR, h, hT]
theorem XW.aastore0 {a t n : Nat} {nm : String} {i : Int32} (hd : xd M.2.1 pc .aastore 1 nx) (ha : gA G a t n) (ht : xAr t = some (.object nm)) (hp : 102 ≤ t) (hi : vp_in i n) (kk : XW l C M nx ls st (wR G a i.toNatClampNeg 0) I r G' I') : XW l C M pc ls (.ref 0 :: .int i :: .ref a :: st) G I r G' I' := by
  obtain ⟨hd, rfl⟩ := hd
  intro p e s m args below meth cd R n0 s0 H locs la K hH hls hB
  have hc := hH.arr ha (by omega)
  have ha0 : a ≠ 0 := by have := ha.1; omega
  have hA := hH.1.2.1 t _ ht
  refine va_WaastN (C := nm) (j := i) K.1 K.2.1 hc (hA.1 _ _) (fun h => by cases h) (by rw [arrV_size]; exact hi) rfl (rest := st.map (xv C)) ?_ hd (fun H1 e1 z oq => kk p e s m args below meth cd R n0 s0 H1 _ la K (hH.store (G1 := wR G a i.toNatClampNeg 0) (I1 := I) ha (by omega) e1 z oq rfl (fun _ => rfl) (fun _ => rfl) (fun b hb => ?_) (fun b hb => rfl) ?_) hls ⟨hB.1, hB.2.1, hB.2.2.1, hB.2.2.2.1, xlocs hB.2.2.2.2 ha.1⟩)
  · show xv C (.ref 0) :: xv C (.int i) :: xv C (.ref a) :: _ = _
    rw [xv_ref ha0, xv_null]; rfl
  · funext k; simp [gR, wR, hb]
  · rw [wR_ev ha hp, xr_null]
theorem XW.aastore {a t n b c : Nat} {q : vw_C} {nm : String} {i : Int32} (hd : xd M.2.1 pc .aastore 1 nx) (ha : gA G a t n) (ht : xAr t = some (.object nm)) (hp : 102 ≤ t) (hi : vp_in i n) (hb : gO G b c) (hc : vwCl[c]? = some q) (hy : q.1 = nm ∨ (q.1, nm) ∈ xYes) (kk : XW l C M nx ls st (wR G a i.toNatClampNeg b) I r G' I') : XW l C M pc ls (.ref b :: .int i :: .ref a :: st) G I r G' I' := by
  obtain ⟨hd, rfl⟩ := hd
  intro p e s m args below meth cd R n0 s0 H locs la K hH hls hB
  have hcA := hH.arr ha (by omega)
  have ha0 : a ≠ 0 := by have := ha.1; omega
  have hb0 : b ≠ 0 := by have := hb.1; omega
  have hA := hH.1.2.1 t _ ht
  obtain ⟨kA, comp, k1, k2, k3, -⟩ := hA.2
  obtain ⟨cell, q1, q2, q3, q4⟩ := hH.obj hb hc
  have hcls := (hH.1.1 c q hc).2
  obtain ⟨kC, hkC, -⟩ := hcls.2
  obtain ⟨kComp, hkComp, -⟩ := Vm.findClass_spec k3
  have hasg : s.vm.assignable (C.2.2.2.2.1.1 c) comp = true := by
    rcases hy with rfl | hy
    · have : comp = C.2.2.2.2.1.1 c := Option.some.inj (k3.symm.trans hcls.1)
      rw [this]; exact va_assign hcls
    · exact vb_asgC (hH.1.2.2.2.1 (q.1, nm) hy) comp _ k3 hcls.1
  refine W.aast K.1 K.2.1 (j := i) (v := xad C b) hcA (fun q h => by cases h) (fun h => by cases h) k1 k2 rfl hkComp ⟨fun z => hi (Or.inl z), by rw [arrV_size]; exact xin_lt hi⟩ q1 (fun q h => by rw [q3] at h; cases h) (by rw [q2]; exact hkC) (by rw [q2]; exact hasg) rfl (rest := st.map (xv C)) ?_ hd (fun H1 e1 z oq => kk p e s m args below meth cd R n0 s0 H1 _ la K (hH.store (G1 := wR G a i.toNatClampNeg b) (I1 := I) ha (by omega) e1 z oq rfl (fun _ => rfl) (fun _ => rfl) (fun b hb => ?_) (fun b hb => rfl) ?_) hls ⟨hB.1, hB.2.1, hB.2.2.1, hB.2.2.2.1, xlocs hB.2.2.2.2 ha.1⟩)
  · show xv C (.ref b) :: xv C (.int i) :: xv C (.ref a) :: _ = _
    rw [xv_ref ha0, xv_ref hb0]; rfl
  · funext k; simp [gR, wR, hb]
  · rw [wR_ev ha hp, xr_ref hb0]
/-! classes of objects -/
theorem xH.recv {s : State} {H : Heap} (h : xH C s G I H) {a c : Nat} {q : vw_C} (ha : gO G a c) (hc : vwCl[c]? = some q) : ∃ cell : Cell, H[xad C a]? = some cell ∧ cell.vm.isStatics = false ∧ s.vm.findClass q.1 = some cell.cls := by
  obtain ⟨cell, q1, q2, q3, q4⟩ := h.obj ha hc
  exact ⟨cell, q1, by rw [q3]; rfl, by rw [q2]; exact (h.1.1 c q hc).2.1⟩
theorem XW.instY {a c idx : Nat} {q : vw_C} {nm : String} (hd : xd M.2.1 pc (.instanceof idx) 3 nx) (ha : gO G a c) (hc : vwCl[c]? = some q) (hl : Cond.classLink M.1.cls idx nm ∈ xtbl) (hy : q.1 = nm ∨ (q.1, nm) ∈ xYes) (kk : XW l C M nx ls (.int 1 :: st) G I r G' I') : XW l C M pc ls (.ref a :: st) G I r G' I' := by
  obtain ⟨hd, rfl⟩ := hd
  intro p e s m args below meth cd R n0 s0 H locs la K hH hls hB
  have ha0 : a ≠ 0 := by have := ha.1; omega
  have hk := kk p e s m args below meth cd R n0 s0 H locs la K hH hls hB
  rw [List.map_cons, xv_ref ha0]
  rcases hy with rfl | hy
  · exact va_instS K.1 K.2.1 K.2.2.2.2.1 (K.2.2.2.2.2.1 _ hl) (hH.1.1 c q hc).2 (hH.recv ha hc) hd hk
  · exact va_instY K.1 K.2.1 K.2.2.2.2.1 (K.2.2.2.2.2.1 _ hl) (hH.1.2.2.2.1 _ hy) (hH.recv ha hc) hd hk
theorem XW.instN {a c idx : Nat} {q : vw_C} {nm : String} (hd : xd M.2.1 pc (.instanceof idx) 3 nx) (ha : gO G a c) (hc : vwCl[c]? = some q) (hl : Cond.classLink M.1.cls idx nm ∈ xtbl) (hy : (q.1, nm) ∈ xNo) (kk : XW l C M nx ls (.int 0 :: st) G I r G' I') : XW l C M pc ls (.ref a :: st) G I r G' I' := by
  obtain ⟨hd, rfl⟩ := hd
  intro p e s m args below meth cd R n0 s0 H locs la K hH hls hB
  have ha0 : a ≠ 0 := by have := ha.1; omega
  have hk := kk p e s m args below meth cd R n0 s0 H locs la K hH hls hB
  rw [List.map_cons, xv_ref ha0]
  exact va_instNo K.1 K.2.1 K.2.2.2.2.1 (K.2.2.2.2.2.1 _ hl) (hH.1.2.2.1 _ hy) (hH.recv ha hc) hd hk
theorem XW.cast {a c idx : Nat} {q : vw_C} {nm : String} (hd : xd M.2.1 pc (.checkcast idx) 3 nx) (ha : gO G a c) (hc : vwCl[c]? = some q) (hl : Cond.classLink M.1.cls idx nm ∈ xtbl) (hy : q.1 = nm ∨ (q.1, nm) ∈ xYes) (kk : XW l C M nx ls (.ref a :: st) G I r G' I') : XW l C M pc ls (.ref a :: st) G I r G' I' := by
  obtain ⟨hd, rfl⟩ := hd
  intro p e s m args below meth cd R n0 s0 H locs la K hH hls hB
  have ha0 : a ≠ 0 := by have := ha.1; omega
  have hk := kk p e s m args below meth cd R n0 s0 H locs la K hH hls hB
  rw [List.map_cons, xv_ref ha0] at hk ⊢
  rcases hy with rfl | hy
  · exact va_castS K.1 K.2.1 K.2.2.2.2.1 (K.2.2.2.2.2.1 _ hl) (hH.1.1 c q hc).2 (hH.recv ha hc) hd hk
  · exact va_castY K.1 K.2.1 K.2.2.2.2.1 (K.2.2.2.2.2.1 _ hl) (hH.1.2.2.2.1 _ hy) (hH.recv ha hc) hd hk
/-! the script: address 1 -/
theorem XW.sload {i : Int32} (hd : xd M.2.1 pc .iaload 1 nx) (hi : vp_in i C.2.2.1) (kk : XW l C M nx ls (.int (C.2.2.2.1 i.toNatClampNeg) :: st) G I r G' I') : XW l C M pc ls (.int i :: .ref 1 :: st) G I r G' I' := by
  obtain ⟨hd, rfl⟩ := hd
  intro p e s m args below meth cd R n0 s0 H locs la K hH hls hB
  obtain ⟨scr, g1, g2, g3, g4, g5⟩ := hH.2.1
  refine W.iald K.1 K.2.1 (a := C.2.1) (j := i) g1 g2 g3 (by rw [g4]; exact hi) (g5 _ (xin_lt hi)) rfl (rest := st.map (xv C)) ?_ hd (kk p e s m args below meth cd R n0 s0 H locs la K hH hls hB)
  show xv C (.int i) :: xv C (.ref 1) :: _ = _
  rw [xv_ref (by omega)]; rfl
theorem XW.slen {v : Int32} (hd : xd M.2.1 pc .arraylength 1 nx) (hv : Int32.ofNat C.2.2.1 = v) (kk : XW l C M nx ls (.int v :: st) G I r G' I') : XW l C M pc ls (.ref 1 :: st) G I r G' I' := by
  obtain ⟨hd, rfl⟩ := hd
  intro p e s m args below meth cd R n0 s0 H locs la K hH hls hB
  obtain ⟨scr, g1, g2, g3, g4, g5⟩ := hH.2.1
  refine W.alen K.1 K.2.1 (a := C.2.1) g1 g2 (n := v) (by rw [g4]; exact hv) rfl (rest := st.map (xv C)) ?_ hd (kk p e s m args below meth cd R n0 s0 H locs la K hH hls hB)
  show xv C (.ref 1) :: _ = _
  rw [xv_ref (by omega)]; rfl
/-! returns -/
theorem XW.iret {v : Int32} {ty : FieldType} (hd : xd M.2.1 pc .ireturn 1 nx) (hr : M.2.2.2.1 = some ty) (hn : narrow ty (.int v) = .int v) (e1 : r = some (.int v)) (e2 : G' = G) (e3 : I' = I) : XW l C M pc ls [.int v] G I r G' I' := by
  subst e1; subst e2; subst e3
  intro p e s m args below meth cd R n0 s0 H locs la K hH hls hB
  obtain ⟨b1, b2, b3, b4, b5⟩ := hB
  have hlk := K.2.2.2.2.2.2.1
  refine W.widen (k := R.cells) (n := R.slots) b3 b4 ?_
  exact W.zret (ty := ty) K.1 K.2.1 (K.2.2.1.trans hr) hn (fun t ht hW => ⟨rfl, by rw [ht]; exact hH.moved hW⟩) b5 hd.1
theorem XW.vret (hd : xd M.2.1 pc .return_ 1 nx) (hr : M.2.2.2.1 = none) (e1 : r = none) (e2 : G' = G) (e3 : I' = I) : XW l C M pc ls [] G I r G' I' := by
  subst e1; subst e2; subst e3
  intro p e s m args below meth cd R n0 s0 H locs la K hH hls hB
  obtain ⟨b1, b2, b3, b4, b5⟩ := hB
  have hlk := K.2.2.2.2.2.2.1
  refine W.widen (k := R.cells) (n := R.slots) b3 b4 ?_
  exact W.vret K.1 K.2.1 (K.2.2.1.trans hr) (fun t ht hW => ⟨rfl, by rw [ht]; exact hH.moved hW⟩) b5 hd.1
theorem XW.aret {a : Nat} {ty : FieldType} (hd : xd M.2.1 pc .areturn 1 nx) (hr : M.2.2.2.1 = some ty) (hn : (∃ n, ty = .object n) ∨ ∃ t, ty = .array t) (e1 : r = some (.ref a)) (e2 : G' = G) (e3 : I' = I) : XW l C M pc ls [.ref a] G I r G' I' := by
  subst e1; subst e2; subst e3
  intro p e s m args below meth cd R n0 s0 H locs la K hH hls hB
  obtain ⟨b1, b2, b3, b4, b5⟩ := hB
  have hlk := K.2.2.2.2.2.2.1
  refine W.widen (k := R.cells) (n := R.slots) b3 b4 ?_
  refine W.aret (v := xv C (.ref a)) K.1 K.2.1 (K.2.2.1.trans hr) hn ?_ (fun t ht hW => ⟨rfl, by rw [ht]; exact hH.moved hW⟩) b5 hd.1
  by_cases h : a = 0
  · subst h; exact Or.inl xv_null
  · exact Or.inr ⟨_, xv_ref h⟩
end XMAKE
