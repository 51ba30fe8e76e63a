/-! rows of the heap -/
/-- field k of class c, as the instruction at own's entry idx names it -/
def xF (own : String) (idx c k : Nat) : Prop := ∃ q : vw_C, vwCl[c]? = some q ∧ k < q.2.2 ∧ Cond.fieldLink own idx (q.2.1 k).1 (q.2.1 k).2.1 (q.2.1 k).2.2.1 ∈ xtbl
section XHEAP
variable {l : Launch} {C : xC} {M : xM} {pc nx : Nat} {ls ls' : List (Option Value)} {st : List Value} {G G' : xG} {I I' : xI} {r : Option Value}
theorem XW.getV {a idx c k : Nat} {v : Value} (hd : xd M.2.1 pc (.getfield idx) 3 nx) (hF : xF M.1.cls idx c k) (ha : gO G a c) (hv : xfv C G I a k = xv C v) (kk : XW l C M nx ls (v :: st) G I r G' I') : XW l C M pc ls (.ref a :: st) G I r G' I' := by
  obtain ⟨hd, rfl⟩ := hd
  obtain ⟨q, hc, hk, hl⟩ := hF
  intro p e s m args below meth cd R n0 s0 H locs la K hH hls hB
  obtain ⟨cell, q1, q2, q3, q4⟩ := hH.obj ha hc
  obtain ⟨hS, hfc, kC, hkC, hkind⟩ := hH.1.1 c q hc
  obtain ⟨cf, kf, fi, f, hi, hsl⟩ := hS k hk
  have ha0 : a ≠ 0 := by have := ha.1; omega
  refine W.getf K.1 K.2.1 K.2.2.2.2.1 (K.2.2.2.2.2.1 _ hl) hi (u_facts hfc hkC (u_lays K.2.2.2.2.2.1 (xIn_ok c q hc) hk) hi).1 q1 (by rw [q3]; exact fun h => by cases h) (v := xv C v) ?_ rfl (rest := st.map (xv C)) ?_ hd (kk p e s m args below meth cd R n0 s0 H locs la K hH hls hB)
  · rw [hsl, q4 k hk, hv]
  · show xv C (.ref a) :: _ = _
    rw [xv_ref ha0]
theorem XW.getI {a idx c k : Nat} (hd : xd M.2.1 pc (.getfield idx) 3 nx) (hF : xF M.1.cls idx c k) (hr : xrf c k = false) (ha : gO G a c) (kk : XW l C M nx ls (.int (I a k) :: st) G I r G' I') : XW l C M pc ls (.ref a :: st) G I r G' I' :=
  XW.getV hd hF ha (by rw [xfv, ha.2.2, if_neg (by rw [hr]; decide)]; rfl) kk
theorem XW.getR {a b idx c k : Nat} (hd : xd M.2.1 pc (.getfield idx) 3 nx) (hF : xF M.1.cls idx c k) (hr : xrf c k = true) (ha : gO G a c) (hb : gR G a k = b) (kk : XW l C M nx ls (.ref b :: st) G I r G' I') : XW l C M pc ls (.ref a :: st) G I r G' I' :=
  XW.getV hd hF ha (by rw [xfv, ha.2.2, if_pos hr, hb]; rfl) kk
/-- a put: of a plain field anywhere, of a final one in a constructor of its own class -/
theorem XW.putV {a idx c k : Nat} {v : Value} {G1 : xG} {I1 : xI} (hd : xd M.2.1 pc (.putfield idx) 3 nx) (hF : xF M.1.cls idx c k)
    (hf : ∀ q : vw_C, vwCl[c]? = some q → (q.2.1 k).2.2.2 = false ∨ ((q.2.1 k).2.2.2 = true ∧ M.1.name = "<init>" ∧ (q.2.1 k).1 = M.1.cls)) (hn : narrow (xTy c k) (xv C v) = xv C v) (hfit : fits (xTy c k) (xv C v) = true) (ha : gO G a c)
    (hN : gN G1 = gN G) (hS1 : gS G1 = gS G) (hT : ∀ b, gT G1 b = gT G b) (hL : ∀ b, gL G1 b = gL G b) (hR : ∀ b, b ≠ a → gR G1 b = gR G b) (hI : ∀ b, b ≠ a → I1 b = I b) (hv : xfv C G1 I1 a k = xv C v) (hv2 : ∀ j, j ≠ k → xfv C G1 I1 a j = xfv C G I a j)
    (kk : XW l C M nx ls st G1 I1 r G' I') : XW l C M pc ls (v :: .ref a :: st) G I r G' I' := by
  obtain ⟨hd, rfl⟩ := hd
  obtain ⟨q, hc, hk, hl⟩ := hF
  intro p e s m args below meth cd R n0 s0 H locs la K hH hls hB
  obtain ⟨cell, q1, q2, q3, q4⟩ := hH.obj ha hc
  obtain ⟨hS, hfc, kC, hkC, hkind⟩ := hH.1.1 c q hc
  have hts := K.2.2.2.2.2.1
  have hin := xIn_ok c q hc
  have hap : ∀ x y, x < q.2.2 → y < q.2.2 → x ≠ y → (C.2.2.2.2.1.2 c) x ≠ (C.2.2.2.2.1.2 c) y := by
    intro x y hx hy hne
    obtain ⟨_, _, _, fa, hia, ea⟩ := hS x hx
    obtain ⟨_, _, _, fb, hib, eb⟩ := hS y hy
    rw [← ea, ← eb]
    refine u_apart (u_lays hts hin hx) (u_lays hts hin hy) hia hib ?_
    rw [(State.fieldFound?_type hia (xTy_ok c q hc x hx)).1, (State.fieldFound?_type hib (xTy_ok c q hc y hy)).1]
    exact xNm_ok c q hc x hx y hy hne
  obtain ⟨cf, kf, fi, f, hi, hsl⟩ := hS k hk
  have hst := (u_facts hfc hkC (u_lays hts hin hk) hi).1
  have ha0 : a ≠ 0 := by have := ha.1; omega
  have hstk : (F0 m pc la ((v :: .ref a :: st).map (xv C))).stack = xv C v :: .ref (xad C a) :: st.map (xv C) := by
    show xv C v :: xv C (.ref a) :: _ = _
    rw [xv_ref ha0]
  have hlay := hts _ (hin _ (u_in_lay hk))
  unfold u_lay at hlay
  have hlt : f.slot < cell.slots.size := by rw [hsl]; exact k2_hasslot (q4 k hk)
  have hnext : ∀ H' : Heap, H'[xad C a]? = some (cell.setSlot f.slot (xv C v)) → H'.size = H.size → (∀ x, x ≠ xad C a → H'[x]? = H[x]?) → W p l e R s m args below meth cd H' (locs ++ [⟨xad C a, f.slot⟩]) (gN G - n0) (gS G - s0) (MQ below (xQc C r G' I') args s R.cells R.slots (fun q => C.1 ≤ q)) (F0 m (pc + 3) la (st.map (xv C))) := by
    intro H' e1 e2 e3
    rw [← hN, ← hS1]
    refine kk p e s m args below meth cd R n0 s0 H' _ la K (hH.put ha.1 e2 e3 hN hT hL hR hI ⟨fun q' hq' => ?_, fun hq' => ?_⟩) hls ⟨by rw [hN]; exact hB.1, by rw [hS1]; exact hB.2.1, hB.2.2.1, hB.2.2.2.1, fun x hx => ?_⟩
    · rw [hT a, ha.2.2] at hq' ⊢
      cases hc.symm.trans hq'
      rw [hsl] at e1
      refine t_OB.to (V := updV (xfv C G I a) k (xv C v)) ⟨_, e1, q2, q3, t_set q4 hap hk _⟩ (fun j _ => ?_)
      unfold updV
      split
      · next h => rw [h, hv]
      · next h => rw [hv2 j h]
    · rw [hT a, ha.2.2] at hq'
      have := xcl_lt hc
      omega
    · rcases List.mem_append.mp hx with h | h
      · exact hB.2.2.2.2 x h
      · rw [List.mem_singleton.mp h]
        show C.1 ≤ xad C a
        rw [xad_of ha.1]; omega
  rcases hf q hc with hfin | ⟨hfin, hin2, hdecl⟩
  · rw [if_neg (by rw [hfin]; decide)] at hlay
    have h6 := u_store hfc hkC hkind hlay hi (xTy_ok c q hc k hk) hn hfit
    exact W.putK K.1 K.2.1 (f := f) ⟨K.2.2.2.2.1, hts _ hl, ⟨_, _, _, hi⟩, hst⟩ (by rw [q2]; exact h6) q1 q3 hlt rfl hstk hd hnext
  · rw [if_pos hfin] at hlay
    have hcf : m.cls = cf := by
      obtain ⟨_, _, c', _, _, _, -, -, hf', -, -, -, hown2, -⟩ := Cond.laysFinal_spec hlay
      have e1 : c' = cf := by have := hi.symm.trans hf'; simp at this; exact this.1.symm
      rw [hdecl] at hown2
      rw [← e1]; exact Option.some.inj (K.2.2.2.2.1.symm.trans hown2)
    have h6 := u_fits hfc hkC hkind (Or.inr hlay) hi (xTy_ok c q hc k hk) hn hfit
    exact W.putFinK K.1 K.2.1 K.2.2.2.2.1 (hts _ hl) hi hst hcf (K.2.2.2.2.2.2.2.1 hin2) (by rw [q2]; exact h6) q1 q3 hlt rfl hstk hd hnext
/-- plain: the field isn't final; or it is, and this is its class's constructor -/
def xP (M : xM) (c k : Nat) : Prop := ∀ q : vw_C, vwCl[c]? = some q → (q.2.1 k).2.2.2 = false ∨ ((q.2.1 k).2.2.2 = true ∧ M.1.name = "<init>" ∧ (q.2.1 k).1 = M.1.cls)
theorem XW.putI {a idx c k : Nat} {x : Int32} (hd : xd M.2.1 pc (.putfield idx) 3 nx) (hF : xF M.1.cls idx c k) (hf : xP M c k) (hr : xrf c k = false) (hn : narrow (xTy c k) (.int x) = .int x ∧ fits (xTy c k) (.int x) = true) (ha : gO G a c)
    (kk : XW l C M nx ls st G (wI I a k x) r G' I') : XW l C M pc ls (.int x :: .ref a :: st) G I r G' I' := by
  refine XW.putV (G1 := G) (I1 := wI I a k x) hd hF hf hn.1 hn.2 ha rfl rfl (fun _ => rfl) (fun _ => rfl) (fun _ _ => rfl) (fun b hb => wI_ne _ _ _ hb) ?_ (fun j hj => ?_) kk
  · rw [xfv, ha.2.2, if_neg (by rw [hr]; decide), wI_same]
    simp [upd, xv]
  · unfold xfv
    rw [wI_same]
    simp [upd, hj]
theorem XW.putR {a b idx c k : Nat} (hd : xd M.2.1 pc (.putfield idx) 3 nx) (hF : xF M.1.cls idx c k) (hf : xP M c k) (hr : xrf c k = true) (ha : gO G a c)
    (kk : XW l C M nx ls st (wR G a k b) I r G' I') : XW l C M pc ls (.ref b :: .ref a :: st) G I r G' I' := by
  obtain ⟨q, hc, hk, hl⟩ := id hF
  have hv : xv C (.ref b) = .null ∨ ∃ a, xv C (.ref b) = .ref a := by
    by_cases hb : b = 0
    · subst hb; exact Or.inl xv_null
    · exact Or.inr ⟨_, xv_ref hb⟩
  have hfi := xRef_fit (xRf_ok c q hc k hk hr) hv
  refine XW.putV (G1 := wR G a k b) (I1 := I) hd hF hf hfi.1 hfi.2 ha rfl rfl (fun _ => rfl) (fun _ => rfl) (fun x hx => ?_) (fun _ _ => rfl) ?_ (fun j hj => ?_) kk
  · show (if x = a then _ else _) = _
    rw [if_neg hx]
  · have e1 : gT (wR G a k b) a = c := ha.2.2
    have e2 : gR (wR G a k b) a k = b := by simp [gR, wR]
    rw [xfv, e1, if_pos hr, e2]; rfl
  · have e1 : gT (wR G a k b) a = gT G a := rfl
    have e2 : gR (wR G a k b) a j = gR G a j := by simp [gR, wR, hj]
    unfold xfv
    rw [e1, e2]
/-! arrays -/
theorem xin_lt {i : Int32} {n : Nat} (h : vp_in i n) : i.toNatClampNeg < n := Nat.not_le.mp fun q => h (Or.inr q)
theorem XW.iaload {a n : Nat} {i : Int32} (hd : xd M.2.1 pc .iaload 1 nx) (ha : gA G a 100 n) (hi : vp_in i n) (kk : XW l C M nx ls (.int (I a i.toNatClampNeg) :: st) G I r G' I') : XW l C M pc ls (.int i :: .ref a :: st) G I r G' I' := by
  obtain ⟨hd, rfl⟩ := hd
  intro p e s m args below meth cd R n0 s0 H locs la K hH hls hB
  have hc := hH.arr ha (by omega)
  have ha0 : a ≠ 0 := by have := ha.1; omega
  have hA := hH.1.2.1 100 .int rfl
  refine W.iald K.1 K.2.1 hc (hA.1 _ _) (fun h => by cases h) (by rw [arrV_size]; exact hi) (v := .int (I a i.toNatClampNeg)) ?_ rfl (rest := st.map (xv C)) ?_ hd (kk p e s m args below meth cd R n0 s0 H locs la K hH hls hB)
  · rw [arrV_read _ _ (xin_lt hi), xev, ha.2.2.1]; rfl
  · show xv C (.int i) :: xv C (.ref a) :: _ = _
    rw [xv_ref ha0]; rfl
theorem XW.baload {a n : Nat} {i : Int32} (hd : xd M.2.1 pc .baload 1 nx) (ha : gA G a 101 n) (hi : vp_in i n) (kk : XW l C M nx ls (.int (I a i.toNatClampNeg) :: st) G I r G' I') : XW l C M pc ls (.int i :: .ref a :: st) G I r G' I' := by
  obtain ⟨hd, rfl⟩ := hd
  intro p e s m args below meth cd R n0 s0 H locs la K hH hls hB
  have hc := hH.arr ha (by omega)
  have ha0 : a ≠ 0 := by have := ha.1; omega
  have hA := hH.1.2.1 101 .boolean rfl
  refine W.zald K.1 K.2.1 hc (hA.1 _ _) (fun h => by cases h) (by rw [arrV_size]; exact hi) (v := .int (I a i.toNatClampNeg)) ?_ rfl (rest := st.map (xv C)) ?_ hd (kk p e s m args below meth cd R n0 s0 H locs la K hH hls hB)
  · rw [arrV_read _ _ (xin_lt hi), xev, ha.2.2.1]; rfl
  · show xv C (.int i) :: xv C (.ref a) :: _ = _
    rw [xv_ref ha0]; rfl
theorem XW.aaload {a b t n : Nat} {i : Int32} (hd : xd M.2.1 pc .aaload 1 nx) (ha : gA G a t n) (ht : 102 ≤ t ∧ (xAr t).isSome = true) (hi : vp_in i n) (hb : gR G a i.toNatClampNeg = b) (kk : XW l C M nx ls (.ref b :: st) G I r G' I') : XW l C M pc ls (.int i :: .ref a :: st) G I r G' I' := by
  obtain ⟨hd, rfl⟩ := hd
  intro p e s m args below meth cd R n0 s0 H locs la K hH hls hB
  have hc := hH.arr ha (by omega)
  have ha0 : a ≠ 0 := by have := ha.1; omega
  obtain ⟨ty, hty⟩ := Option.isSome_iff_exists.mp ht.2
  have hA := hH.1.2.1 t ty hty
  have hrt : ty.isReference = true := by
    unfold xAr at hty
    split at hty <;> first | (cases hty; rfl) | omega | (cases hty)
  refine W.aald K.1 K.2.1 hc (hA.1 _ _) hrt (fun h => by cases h) (by rw [arrV_size]; exact hi) (v := xv C (.ref b)) ?_ rfl (rest := st.map (xv C)) ?_ hd (kk p e s m args below meth cd R n0 s0 H locs la K hH hls hB)
  · rw [arrV_read _ _ (xin_lt hi), xev, ha.2.2.1, if_neg (by omega), hb]; rfl
  · show xv C (.int i) :: xv C (.ref a) :: _ = _
    rw [xv_ref ha0]; rfl
theorem XW.alen {a t n : Nat} {v : Int32} (hd : xd M.2.1 pc .arraylength 1 nx) (ha : gA G a t n) (ht : 100 ≤ t ∧ (xAr t).isSome = true) (hv : Int32.ofNat n = v) (kk : XW l C M nx ls (.int v :: st) G I r G' I') : XW l C M pc ls (.ref a :: st) G I r G' I' := by
  obtain ⟨hd, rfl⟩ := hd
  intro p e s m args below meth cd R n0 s0 H locs la K hH hls hB
  have hc := hH.arr ha ht.1
  have ha0 : a ≠ 0 := by have := ha.1; omega
  obtain ⟨ty, hty⟩ := Option.isSome_iff_exists.mp ht.2
  have hA := hH.1.2.1 t ty hty
  refine W.alen K.1 K.2.1 hc (hA.1 _ _) (n := v) (by rw [arrV_size]; exact hv) rfl (rest := st.map (xv C)) ?_ hd (kk p e s m args below meth cd R n0 s0 H locs la K hH hls hB)
  show xv C (.ref a) :: _ = _
  rw [xv_ref ha0]
/-- what a store of one place does to the picture -/
theorem xH.store {s : State} {H H1 : Heap} {a t n j : Nat} {x : Value} {G1 : xG} {I1 : xI} (h : xH C s G I H) (ha : gA G a t n) (ht : 100 ≤ t) (e1 : H1[xad C a]? = some ((arrV (C.2.2.2.2.2 t) n (xev C G I a)).setSlot j x)) (z : H1.size = H.size) (oq : ∀ q : Nat, q ≠ xad C a → H1[q]? = H[q]?)
    (hN : gN G1 = gN G) (hT : ∀ b, gT G1 b = gT G b) (hL : ∀ b, gL G1 b = gL G b) (hR : ∀ b, b ≠ a → gR G1 b = gR G b) (hI : ∀ b, b ≠ a → I1 b = I b) (hv : xev C G1 I1 a = updV (xev C G I a) j x) : xH C s G1 I1 H1 := by
  refine h.put ha.1 z oq hN hT hL hR hI ⟨fun q hq => ?_, fun _ => ?_⟩
  · rw [hT, ha.2.2.1] at hq
    have := xcl_lt hq
    omega
  · rw [hT, ha.2.2.1, hL, ha.2.2.2, hv, e1, arrV_store]
theorem xlocs {locs : List Loc} {a j : Nat} (h : ∀ q ∈ locs, C.1 ≤ q.base) (ha : 2 ≤ a) : ∀ q ∈ locs ++ [⟨xad C a, j⟩], C.1 ≤ q.base := by
  intro x hx
  rcases List.mem_append.mp hx with h' | h'
  · exact h x h'
  · rw [List.mem_singleton.mp h']
    show C.1 ≤ xad C a
    rw [xad_of ha]; omega
theorem XW.iastore {a n : Nat} {i x : Int32} (hd : xd M.2.1 pc .iastore 1 nx) (ha : gA G a 100 n) (hi : vp_in i n) (kk : XW l C M nx ls st G (wI I a i.toNatClampNeg x) r G' I') : XW l C M pc ls (.int x :: .int i :: .ref a :: st) G I r G' I' := by
  obtain ⟨hd, rfl⟩ := hd
  intro p e s m args below meth cd R n0 s0 H locs la K hH hls hB
  have hc := hH.arr ha (by omega)
  have ha0 : a ≠ 0 := by have := ha.1; omega
  have hA := hH.1.2.1 100 .int rfl
  refine W.iast (j := i) (x := x) K.1 K.2.1 hc (hA.1 _ _) (fun h => by cases h) (by rw [arrV_size]; exact hi) rfl (rest := st.map (xv C)) ?_ hd (fun H1 e1 z oq => kk p e s m args below meth cd R n0 s0 H1 _ la K (hH.store (G1 := G) (I1 := wI I a i.toNatClampNeg x) ha (by omega) e1 z oq rfl (fun _ => rfl) (fun _ => rfl) (fun _ _ => rfl) (fun b hb => wI_ne _ _ _ hb) ?_) hls ⟨hB.1, hB.2.1, hB.2.2.1, hB.2.2.2.1, xlocs hB.2.2.2.2 ha.1⟩)
  · show xv C (.int x) :: xv C (.int i) :: xv C (.ref a) :: _ = _
    rw [xv_ref ha0]; rfl
  · funext j
    have hT : gT G a < 102 := by rw [ha.2.2.1]; omega
    unfold xev updV
    rw [if_pos hT, wI_same]
    unfold upd
    split
    · rfl
    · rfl
theorem XW.bastore {a n : Nat} {i x : Int32} (hd : xd M.2.1 pc .bastore 1 nx) (ha : gA G a 101 n) (hi : vp_in i n) (hx : narrow .boolean (.int x) = .int x) (kk : XW l C M nx ls st G (wI I a i.toNatClampNeg x) r G' I') : XW l C M pc ls (.int x :: .int i :: .ref a :: st) G I r G' I' := by
  obtain ⟨hd, rfl⟩ := hd
  intro p e s m args below meth cd R n0 s0 H locs la K hH hls hB
  have hc := hH.arr ha (by omega)
  have ha0 : a ≠ 0 := by have := ha.1; omega
  have hA := hH.1.2.1 101 .boolean rfl
  refine W.zast (j := i) (x := x) K.1 K.2.1 hc (hA.1 _ _) (fun h => by cases h) (by rw [arrV_size]; exact hi) rfl (rest := st.map (xv C)) ?_ hd (fun H1 e1 z oq => kk p e s m args below meth cd R n0 s0 H1 _ la K (hH.store (G1 := G) (I1 := wI I a i.toNatClampNeg x) (x := .int x) ha (by omega) (by rw [← hx]; exact e1) z oq rfl (fun _ => rfl) (fun _ => rfl) (fun _ _ => rfl) (fun b hb => wI_ne _ _ _ hb) ?_) hls ⟨hB.1, hB.2.1, hB.2.2.1, hB.2.2.2.1, xlocs hB.2.2.2.2 ha.1⟩)
  · show xv C (.int x) :: xv C (.int i) :: xv C (.ref a) :: _ = _
    rw [xv_ref ha0]; rfl
  · funext j
    have hT : gT G a < 102 := by rw [ha.2.2.1]; omega
    unfold xev updV
    rw [if_pos hT, wI_same]
    unfold upd
    split
    · rfl
    · rfl
end XHEAP
