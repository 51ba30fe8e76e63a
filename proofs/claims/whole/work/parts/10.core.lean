/-! THE LIGHT MACHINE: a method's run over a small heap of numbers (I) and a shape (G), tied to the machine by W. -/
abbrev xG : Type := Nat × Nat × (Nat → Nat) × (Nat → Nat) × (Nat → Nat → Nat)
abbrev xI : Type := Nat → Nat → Int32
abbrev xM : Type := MethodName × ByteArray × Nat × Option FieldType × Nat
abbrev xC : Type := Nat × Nat × Nat × (Nat → Int32) × va_G × (Nat → ClassId)
def gN (G : xG) : Nat := G.1
def gS (G : xG) : Nat := G.2.1
def gT (G : xG) (a : Nat) : Nat := G.2.2.1 a
def gL (G : xG) (a : Nat) : Nat := G.2.2.2.1 a
def gR (G : xG) (a k : Nat) : Nat := G.2.2.2.2 a k
def xad (C : xC) (a : Nat) : Nat := if a = 1 then C.2.1 else C.1 + (a - 2)
def xr (C : xC) (a : Nat) : Value := if a = 0 then .null else .ref (xad C a)
def xv (C : xC) (v : Value) : Value := match v with
  | .ref a => xr C a
  | w => w
theorem xv_ref {C : xC} {a : Nat} (h : a ≠ 0) : xv C (.ref a) = .ref (xad C a) := by simp [xv, xr, h]
theorem xv_null {C : xC} : xv C (.ref 0) = .null := by simp [xv, xr]
theorem xr_ref {C : xC} {a : Nat} (h : a ≠ 0) : xr C a = .ref (xad C a) := by simp [xr, h]
theorem xr_null {C : xC} : xr C 0 = .null := by simp [xr]
theorem xad_of {C : xC} {a : Nat} (h : 2 ≤ a) : xad C a = C.1 + (a - 2) := by
  have h1 : a ≠ 1 := by omega
  simp [xad, h1]
theorem xv_cat (C : xC) (v : Value) : (xv C v).category = v.category := by
  cases v with
  | ref a =>
    show (xr C a).category = _
    unfold xr
    split <;> rfl
  | _ => rfl
-- which fields hold references
def xrf (c k : Nat) : Bool := match c with
  | 0 => true
  | 3 => k == 0
  | 4 => decide (k < 2)
  | 5 => decide (k < 10)
  | 6 => k == 0
  | 7 => k == 1
  | 9 => decide (k < 6)
  | 10 => decide (2 ≤ k ∧ k < 9) || decide (10 ≤ k ∧ k < 18) || decide (23 ≤ k ∧ k < 34) || decide (37 ≤ k ∧ k < 44)
  | _ => false
def xTy (c : Nat) : Nat → FieldType := match c with
  | 0 => tyX0
  | 1 => tyX1
  | 2 => tyX2
  | 3 => tyX3
  | 4 => tyX4
  | 5 => tyX5
  | 6 => tyX6
  | 7 => tyX7
  | 8 => tyX8
  | 9 => tyX9
  | _ => tyX10
-- arrays: 100 int, 101 boolean, then of references
def xAr (t : Nat) : Option FieldType := match t with
  | 100 => some .int
  | 101 => some .boolean
  | 102 => some (.object "LetterStore$Line")
  | 103 => some (.object "LetterStore$Row")
  | 104 => some (.object "LetterStore$Sheet")
  | 105 => some (.object "LetterStore$Queue")
  | _ => none
theorem xcl_cases {P : Nat → vw_C → Prop} (h0 : P 0 (RX0, TX0, 5)) (h1 : P 1 (RX1, TX1, 6)) (h2 : P 2 (RX2, TX2, 2)) (h3 : P 3 (RX3, TX3, 3)) (h4 : P 4 (RX4, TX4, 4)) (h5 : P 5 (RX5, TX5, 19)) (h6 : P 6 (RX6, TX6, 4)) (h7 : P 7 (RX7, TX7, 4)) (h8 : P 8 (RX8, TX8, 3)) (h9 : P 9 (RX9, TX9, 8)) (h10 : P 10 (RX10, TX10, 45)) : ∀ (c : Nat) (q : vw_C), vwCl[c]? = some q → P c q := by
  intro c q h
  match c, h with
  | 0, h => cases h; exact h0
  | 1, h => cases h; exact h1
  | 2, h => cases h; exact h2
  | 3, h => cases h; exact h3
  | 4, h => cases h; exact h4
  | 5, h => cases h; exact h5
  | 6, h => cases h; exact h6
  | 7, h => cases h; exact h7
  | 8, h => cases h; exact h8
  | 9, h => cases h; exact h9
  | 10, h => cases h; exact h10
  | n + 11, h => simp [vwCl] at h
theorem xcl_lt {c : Nat} {q : vw_C} (h : vwCl[c]? = some q) : c < 100 := by
  have := (List.getElem?_eq_some_iff.mp h).1
  have h2 : vwCl.length = 11 := rfl
  omega
theorem xTy_ok : ∀ (c : Nat) (q : vw_C), vwCl[c]? = some q → ∀ k, k < q.2.2 → parseFieldDescriptor (q.2.1 k).2.2.1 = some (xTy c k) :=
  xcl_cases tyX0_ok tyX1_ok tyX2_ok tyX3_ok tyX4_ok tyX5_ok tyX6_ok tyX7_ok tyX8_ok tyX9_ok tyX10_ok
theorem xNm_ok : ∀ (c : Nat) (q : vw_C), vwCl[c]? = some q → ∀ a, a < q.2.2 → ∀ b, b < q.2.2 → a ≠ b → (q.2.1 a).2.1 ≠ (q.2.1 b).2.1 :=
  xcl_cases nmX0 nmX1 nmX2 nmX3 nmX4 nmX5 nmX6 nmX7 nmX8 nmX9 nmX10
/-- the words of the tables that every call keeps -/
def xtbl : List Cond := lw_tbl.filter goodWord
theorem xIn_0 : ∀ w ∈ u_ws RX0 TX0 5, w ∈ xtbl := by decide +kernel
theorem xIn_1 : ∀ w ∈ u_ws RX1 TX1 6, w ∈ xtbl := by decide +kernel
theorem xIn_2 : ∀ w ∈ u_ws RX2 TX2 2, w ∈ xtbl := by decide +kernel
theorem xIn_3 : ∀ w ∈ u_ws RX3 TX3 3, w ∈ xtbl := by decide +kernel
theorem xIn_4 : ∀ w ∈ u_ws RX4 TX4 4, w ∈ xtbl := by decide +kernel
theorem xIn_5 : ∀ w ∈ u_ws RX5 TX5 19, w ∈ xtbl := by decide +kernel
theorem xIn_6 : ∀ w ∈ u_ws RX6 TX6 4, w ∈ xtbl := by decide +kernel
theorem xIn_7 : ∀ w ∈ u_ws RX7 TX7 4, w ∈ xtbl := by decide +kernel
theorem xIn_8 : ∀ w ∈ u_ws RX8 TX8 3, w ∈ xtbl := by decide +kernel
theorem xIn_9 : ∀ w ∈ u_ws RX9 TX9 8, w ∈ xtbl := by decide +kernel
theorem xIn_10 : ∀ w ∈ u_ws RX10 TX10 45, w ∈ xtbl := by decide +kernel
theorem xIn_ok : ∀ (c : Nat) (q : vw_C), vwCl[c]? = some q → ∀ w ∈ u_ws q.1 q.2.1 q.2.2, w ∈ xtbl :=
  xcl_cases xIn_0 xIn_1 xIn_2 xIn_3 xIn_4 xIn_5 xIn_6 xIn_7 xIn_8 xIn_9 xIn_10
theorem xDf_ok : ∀ (c : Nat) (q : vw_C), vwCl[c]? = some q → ∀ k, k < q.2.2 → defaultValue (xTy c k) = if xrf c k = true then .null else .int 0 :=
  xcl_cases (by decide) (by decide) (by decide) (by decide) (by decide) (by decide) (by decide) (by decide) (by decide) (by decide) (by decide)
def xRefTy (t : FieldType) : Bool := match t with
  | .object _ => true
  | .array _ => true
  | _ => false
theorem xRf_ok : ∀ (c : Nat) (q : vw_C), vwCl[c]? = some q → ∀ k, k < q.2.2 → xrf c k = true → xRefTy (xTy c k) = true :=
  xcl_cases (by decide) (by decide) (by decide) (by decide) (by decide) (by decide) (by decide) (by decide) (by decide) (by decide) (by decide)
theorem xRef_fit {t : FieldType} (h : xRefTy t = true) {v : Value} (hv : v = .null ∨ ∃ a, v = .ref a) : narrow t v = v ∧ fits t v = true := by
  cases t <;> first | (simp [xRefTy] at h; done) | (rcases hv with rfl | ⟨a, rfl⟩ <;> exact ⟨rfl, rfl⟩)
theorem xGood : ∀ w ∈ xtbl, (w.onTables && w.keeps) = true ∨ ∃ ty, w = .arrayClass ty := fun w h => good_of_word (List.mem_filter.mp h).2
/-! ===== the heap ===== -/
def xfv (C : xC) (G : xG) (I : xI) (a k : Nat) : Value := if xrf (gT G a) k = true then xr C (gR G a k) else .int (I a k)
def xev (C : xC) (G : xG) (I : xI) (a j : Nat) : Value := if gT G a < 102 then .int (I a j) else xr C (gR G a j)
def xcell (C : xC) (G : xG) (I : xI) (H : Heap) (a : Nat) : Prop :=
  (∀ q : vw_C, vwCl[gT G a]? = some q → t_OB (xad C a) (C.2.2.2.2.1.1 (gT G a)) q.2.2 (C.2.2.2.2.1.2 (gT G a)) H (xfv C G I a)) ∧
  (100 ≤ gT G a → H[xad C a]? = some (arrV (C.2.2.2.2.2 (gT G a)) (gL G a) (xev C G I a)))
def xNo : List (String × String) := [("LetterStore$Line", "LetterStore$Sure"), ("LetterStore$Line", "LetterStore$Held"), ("LetterStore$Sure", "LetterStore$Held")]
def xYes : List (String × String) := [("LetterStore$Held", "LetterStore$Line"), ("LetterStore$Held", "LetterStore$Sure"), ("LetterStore$Sure", "LetterStore$Line")]
def xOv : List String := ["LetterStore$Line", "LetterStore$Row", "LetterStore$Sheet", "LetterStore$Queue"]
def xNest : List (String × Nat × MethodName × String) := [("LetterStore", 51, ⟨"LetterStore$Row", "<init>", "()V"⟩, "LetterStore"), ("LetterStore", 52, ⟨"LetterStore$Sheet", "<init>", "()V"⟩, "LetterStore"), ("LetterStore$Run", 46, ⟨"LetterStore$Queue", "<init>", "()V"⟩, "LetterStore"), ("LetterStore$Setting", 30, ⟨"LetterStore", "isWithin", "(III)Z"⟩, "LetterStore")]
def xGC (C : xC) (s : State) : Prop :=
  (∀ (c : Nat) (q : vw_C), vwCl[c]? = some q → u_Kn s q.1 q.2.1 q.2.2 (C.2.2.2.2.1.1 c) (C.2.2.2.2.1.2 c)) ∧
  (∀ (t : Nat) (ty : FieldType), xAr t = some ty → ArrOfT s (C.2.2.2.2.2 t) ty ∧ va_RA s (C.2.2.2.2.2 t) ty) ∧
  (∀ q ∈ xNo, va_Nc q.1 q.2 s) ∧ (∀ q ∈ xYes, va_Nw (.castable q.1 q.2) s) ∧ (∀ n ∈ xOv, va_AO n s) ∧ (∀ q ∈ xNest, va_Nw (.methodLinkNest q.1 q.2.1 q.2.2.1 q.2.2.2) s)
theorem xGC.moved {C : xC} {s t : State} (hW : s.WarmedH t.vm) (h : xGC C s) : xGC C t :=
  ⟨fun c q hq => u_Kn_moved hW.alike (h.1 c q hq), fun k ty hk => ⟨arrOfT_moved hW.alike (h.2.1 k ty hk).1, (h.2.1 k ty hk).2.moved hW.alike⟩, fun q hq => (h.2.2.1 q hq).moved hW.alike, fun q hq => (h.2.2.2.1 q hq).warmC hW, fun n hn => (h.2.2.2.2.1 n hn).moved hW.alike, fun q hq => (h.2.2.2.2.2 q hq).warmM hW⟩
theorem xGC.same {C : xC} {s t : State} (hW : s.vm = t.vm) (h : xGC C s) : xGC C t :=
  have ha : s.vm.Alike t.vm := hW ▸ Vm.Alike.refl s.vm
  ⟨fun c q hq => u_Kn_moved ha (h.1 c q hq), fun k ty hk => ⟨arrOfT_moved ha (h.2.1 k ty hk).1, (h.2.1 k ty hk).2.moved ha⟩, fun q hq => (h.2.2.1 q hq).moved ha, fun q hq => (h.2.2.2.1 q hq).same rfl hW, fun n hn => (h.2.2.2.2.1 n hn).moved ha, fun q hq => (h.2.2.2.2.2 q hq).same rfl hW⟩
def xH (C : xC) (s : State) (G : xG) (I : xI) (H : Heap) : Prop :=
  xGC C s ∧ va_X C.2.1 C.2.2.1 C.2.2.2.1 s H ∧ C.2.1 < C.1 ∧ 2 ≤ gN G ∧ H.size + 2 = C.1 + gN G ∧ ∀ a, 2 ≤ a → a < gN G → xcell C G I H a
theorem xH.moved {C : xC} {s t : State} {G : xG} {I : xI} {H : Heap} (hW : s.WarmedH t.vm) (h : xH C s G I H) : xH C t G I H :=
  ⟨h.1.moved hW, h.2.1.moved hW.alike, h.2.2⟩
theorem xH.same {C : xC} {s t : State} {G : xG} {I : xI} {H : Heap} (hW : s.vm = t.vm) (h : xH C s G I H) : xH C t G I H :=
  ⟨h.1.same hW, h.2.1.moved (hW ▸ Vm.Alike.refl s.vm), h.2.2⟩
/-- an object of class c at a; an array of kind t and n places at a -/
def gO (G : xG) (a c : Nat) : Prop := 2 ≤ a ∧ a < gN G ∧ gT G a = c
def gA (G : xG) (a t n : Nat) : Prop := 2 ≤ a ∧ a < gN G ∧ gT G a = t ∧ gL G a = n
theorem xH.obj {C : xC} {s : State} {G : xG} {I : xI} {H : Heap} (h : xH C s G I H) {a c : Nat} (ha : gO G a c) {q : vw_C} (hc : vwCl[c]? = some q) : t_OB (xad C a) (C.2.2.2.2.1.1 c) q.2.2 (C.2.2.2.2.1.2 c) H (xfv C G I a) := by
  obtain ⟨h1, h2, rfl⟩ := ha
  exact (h.2.2.2.2.2 a h1 h2).1 q hc
theorem xH.arr {C : xC} {s : State} {G : xG} {I : xI} {H : Heap} (h : xH C s G I H) {a t n : Nat} (ha : gA G a t n) (ht : 100 ≤ t) : H[xad C a]? = some (arrV (C.2.2.2.2.2 t) n (xev C G I a)) := by
  obtain ⟨h1, h2, rfl, rfl⟩ := ha
  exact (h.2.2.2.2.2 a h1 h2).2 ht
/-! ===== writes ===== -/
def wI (I : xI) (a k : Nat) (v : Int32) : xI := fun b => if b = a then upd (I a) k v else I b
def wR (G : xG) (a k b : Nat) : xG := (G.1, G.2.1, G.2.2.1, G.2.2.2.1, fun x => if x = a then (fun j => if j = k then b else gR G a j) else gR G x)
def aO (G : xG) (c n : Nat) : xG := (gN G + 1, gS G + n, (fun x => if x = gN G then c else gT G x), gL G, fun x => if x = gN G then (fun _ => 0) else gR G x)
def aA (G : xG) (t n : Nat) : xG := (gN G + 1, gS G + n, (fun x => if x = gN G then t else gT G x), (fun x => if x = gN G then n else gL G x), fun x => if x = gN G then (fun _ => 0) else gR G x)
def wN (I : xI) (a : Nat) : xI := fun b => if b = a then (fun _ => 0) else I b
theorem wI_same (I : xI) (a k : Nat) (v : Int32) : wI I a k v a = upd (I a) k v := by simp [wI]
theorem wI_ne (I : xI) {a b : Nat} (k : Nat) (v : Int32) (h : b ≠ a) : wI I a k v b = I b := by simp [wI, h]
theorem xad_inj {C : xC} {a b : Nat} (ha : 2 ≤ a) (hb : 2 ≤ b) (h : xad C a = xad C b) : a = b := by
  rw [xad_of ha, xad_of hb] at h
  omega
/-- one cell at a has changed, all others stand -/
theorem xH.put {C : xC} {s : State} {G G1 : xG} {I I1 : xI} {H H1 : Heap} (h : xH C s G I H) {a : Nat} (ha : 2 ≤ a) (z : H1.size = H.size) (oq : ∀ q : Nat, q ≠ xad C a → H1[q]? = H[q]?) (hn : gN G1 = gN G) (hT : ∀ b, gT G1 b = gT G b) (hL : ∀ b, gL G1 b = gL G b) (hR : ∀ b, b ≠ a → gR G1 b = gR G b) (hI : ∀ b, b ≠ a → I1 b = I b) (hc : xcell C G1 I1 H1 a) : xH C s G1 I1 H1 := by
  obtain ⟨h1, h2, h3, h4, h5, h6⟩ := h
  refine ⟨h1, h2.kept (oq _ ?_), h3, by rw [hn]; exact h4, by rw [z, hn]; exact h5, fun b hb hb2 => ?_⟩
  · rw [xad_of ha]; omega
  · rw [hn] at hb2
    by_cases hba : b = a
    · subst hba; exact hc
    · have hne : xad C b ≠ xad C a := fun e => hba (xad_inj hb ha e)
      obtain ⟨g1, g2⟩ := h6 b hb hb2
      have ef : xfv C G1 I1 b = xfv C G I b := by funext k; simp [xfv, hT, hR b hba, hI b hba]
      have ee : xev C G1 I1 b = xev C G I b := by funext k; simp [xev, hT, hR b hba, hI b hba]
      refine ⟨fun q hq => ?_, fun hq => ?_⟩
      · rw [hT] at hq ⊢
        rw [ef]
        exact (g1 q hq).kept (oq _ hne)
      · rw [hT] at hq ⊢
        rw [ee, hL, oq _ hne]
        exact g2 hq
/-- a new cell stands at the end -/
theorem xH.grow {C : xC} {s : State} {G G1 : xG} {I I1 : xI} {H H1 : Heap} (h : xH C s G I H) (z : H1.size = H.size + 1) (oq : ∀ q : Nat, q < H.size → H1[q]? = H[q]?) (hn : gN G1 = gN G + 1) (hT : ∀ b, b ≠ gN G → gT G1 b = gT G b) (hL : ∀ b, b ≠ gN G → gL G1 b = gL G b) (hR : ∀ b, b ≠ gN G → gR G1 b = gR G b) (hI : ∀ b, b ≠ gN G → I1 b = I b) (hc : xcell C G1 I1 H1 (gN G)) : xH C s G1 I1 H1 := by
  obtain ⟨h1, h2, h3, h4, h5, h6⟩ := h
  refine ⟨h1, h2.kept (oq _ ?_), h3, by omega, by omega, fun b hb hb2 => ?_⟩
  · omega
  · by_cases hba : b = gN G
    · subst hba; exact hc
    · obtain ⟨g1, g2⟩ := h6 b hb (by omega)
      have hlt : xad C b < H.size := by rw [xad_of hb]; omega
      have ef : xfv C G1 I1 b = xfv C G I b := by funext k; simp [xfv, hT b hba, hR b hba, hI b hba]
      have ee : xev C G1 I1 b = xev C G I b := by funext k; simp [xev, hT b hba, hR b hba, hI b hba]
      refine ⟨fun q hq => ?_, fun hq => ?_⟩
      · rw [hT b hba] at hq ⊢
        rw [ef]
        exact (g1 q hq).kept (oq _ hlt)
      · rw [hT b hba] at hq ⊢
        rw [ee, hL b hba, oq _ hlt]
        exact g2 hq
theorem xH.end {C : xC} {s : State} {G : xG} {I : xI} {H : Heap} (h : xH C s G I H) : xad C (gN G) = H.size := by
  obtain ⟨h1, h2, h3, h4, h5, h6⟩ := h
  rw [xad_of h4]; omega
/-! ===== locals ===== -/
def xlv (C : xC) (ls : List (Option Value)) : List (Nat × Value) := (List.range ls.length).filterMap fun k => (ls.getD k none).map fun v => (k, xv C v)
def xls (C : xC) (n : Nat) (ls : List (Option Value)) (la : Array Slot) : Prop := lv_has la n (xlv C ls) ∧ ls.length = n ∧ ∀ v, some v ∈ ls → v.category = 1
theorem xlv_mem {C : xC} {ls : List (Option Value)} {k : Nat} {v : Value} (h : ls[k]? = some (some v)) : (k, xv C v) ∈ xlv C ls := by
  have hk := (List.getElem?_eq_some_iff.mp h).1
  refine List.mem_filterMap.mpr ⟨k, List.mem_range.mpr hk, ?_⟩
  simp [List.getD, h]
theorem xlv_of {C : xC} {ls : List (Option Value)} {q : Nat × Value} (h : q ∈ xlv C ls) : ∃ v, ls[q.1]? = some (some v) ∧ q.2 = xv C v := by
  obtain ⟨k, hk, hq⟩ := List.mem_filterMap.mp h
  have hk := List.mem_range.mp hk
  cases hv : ls[k]? with
  | none => simp [List.getD, hv] at hq
  | some o =>
    cases o with
    | none => simp [List.getD, hv] at hq
    | some v =>
      simp [List.getD, hv] at hq
      subst hq
      exact ⟨v, hv, rfl⟩
theorem xls.at {C : xC} {n : Nat} {ls : List (Option Value)} {la : Array Slot} (h : xls C n ls la) {k : Nat} {v : Value} (hk : ls[k]? = some (some v)) : la[k]? = some (.val (xv C v)) := h.1.2.2 _ (xlv_mem hk)
theorem xls.set {C : xC} {n : Nat} {ls : List (Option Value)} {la la' : Array Slot} (h : xls C n ls la) {i : Nat} {v : Value} (hc : v.category = 1) (h' : lv_has la' n ((i, xv C v) :: (xlv C ls).filter (fun q => !(q.1 == i) && !(q.1 + 1 == i && q.2.category == 2)))) : xls C n (ls.set i (some v)) la' := by
  obtain ⟨h1, h2, h3⟩ := h
  refine ⟨⟨h'.1, h'.2.1, fun q hq => ?_⟩, by simp [h2], fun w hw => ?_⟩
  · obtain ⟨w, hw, e⟩ := xlv_of hq
    by_cases hi : q.1 = i
    · have hlt : i < ls.length := by
        have := (List.getElem?_eq_some_iff.mp hw).1
        simp at this; omega
      rw [hi, List.getElem?_set_self hlt] at hw
      cases hw
      have := h'.2.2 (i, xv C v) List.mem_cons_self
      rw [hi, e]; exact this
    · rw [List.getElem?_set_ne (fun z => hi z.symm)] at hw
      refine h'.2.2 q (List.mem_cons_of_mem _ (List.mem_filter.mpr ⟨?_, ?_⟩))
      · have := xlv_mem (C := C) hw
        rw [← e] at this; exact this
      · have hcat : q.2.category = 1 := by rw [e, xv_cat]; exact h3 w (List.mem_of_getElem? hw)
        simp [hi, hcat]
  · rcases List.mem_or_eq_of_mem_set hw with z | z
    · exact h3 w z
    · cases z; exact hc
/-- fewer locals known -/
theorem xls.less {C : xC} {n : Nat} {ls ls2 : List (Option Value)} {la : Array Slot} (h : xls C n ls la) (hl : ls2.length = ls.length) (hs : ∀ (k : Nat) (v : Value), ls2[k]? = some (some v) → ls[k]? = some (some v)) : xls C n ls2 la := by
  obtain ⟨h1, h2, h3⟩ := h
  refine ⟨⟨h1.1, h1.2.1, fun q hq => ?_⟩, by omega, fun v hv => ?_⟩
  · obtain ⟨w, hw, e⟩ := xlv_of hq
    have := h1.2.2 _ (xlv_mem (C := C) (hs _ _ hw))
    rw [e]; exact this
  · obtain ⟨k, hk⟩ := List.getElem?_of_mem hv
    exact h3 v (List.mem_of_getElem? (hs k v hk))
/-! ===== the judgement ===== -/
def xK (M : xM) (p : Program) (s : State) (m : MethodId) (args : Array Value) (meth : Method) (c : Code) (R : Room) : Prop :=
  p.tables.exec = Jvm.exec ∧ c.code = M.2.1 ∧ meth.sig.returnType = M.2.2.2.1 ∧ c.maxLocals = M.2.2.1 ∧ s.vm.findClass M.1.cls = some m.cls ∧ (∀ w ∈ xtbl, w.before args s = true) ∧ meth.locks = false ∧ (M.1.name = "<init>" → meth.name = "<init>") ∧ M.2.2.2.2 ≤ R.frames ∧ 37 * M.2.2.2.2 ≤ R.locals
def xQc (C : xC) (r : Option Value) (G' : xG) (I' : xI) : Array Value → State → Outcome → State → Prop := fun _ _ o t => o = .returned (r.map (xv C)) ∧ xH C t G' I' t.heap
def XW (l : Launch) (C : xC) (M : xM) (pc : Nat) (ls : List (Option Value)) (st : List Value) (G : xG) (I : xI) (r : Option Value) (G' : xG) (I' : xI) : Prop :=
  ∀ (p : Program) (e : Env) (s : State) (m : MethodId) (args : Array Value) (below : List Frame) (meth : Method) (c : Code) (R : Room) (n0 s0 : Nat) (H : Heap) (locs : List Loc) (la : Array Slot),
    xK M p s m args meth c R → xH C s G I H → xls C M.2.2.1 ls la → (n0 ≤ gN G ∧ s0 ≤ gS G ∧ gN G' - n0 ≤ R.cells ∧ gS G' - s0 ≤ R.slots ∧ ∀ q ∈ locs, C.1 ≤ q.base) →
    W p l e R s m args below meth c H locs (gN G - n0) (gS G - s0) (MQ below (xQc C r G' I') args s R.cells R.slots (fun q => C.1 ≤ q)) (F0 m pc la (st.map (xv C)))
def xd (c : ByteArray) (pc : Nat) (i : Instr) (n nx : Nat) : Prop := decode c pc = .ok (i, n) ∧ pc + n = nx
def xj (c : ByteArray) (pc : Nat) (i : Instr) (n nx : Nat) (off : Int) (tgt : Nat) : Prop := decode c pc = .ok (i, n) ∧ pc + n = nx ∧ (pc : Int) + off = (tgt : Int)
section XROWS
variable {l : Launch} {C : xC} {M : xM} {pc nx : Nat} {ls ls' : List (Option Value)} {st : List Value} {G G' : xG} {I I' : xI} {r : Option Value}
theorem XW.less {ls2 : List (Option Value)} (kk : XW l C M pc ls2 st G I r G' I') (hl : ls2.length = ls.length) (hs : ∀ (k : Nat) (v : Value), ls2[k]? = some (some v) → ls[k]? = some (some v)) : XW l C M pc ls st G I r G' I' :=
  fun p e s m args below meth c R n0 s0 H locs la K hH hls hB => kk p e s m args below meth c R n0 s0 H locs la K hH (hls.less hl hs) hB
theorem XW.iadd {x y : Int32} (hd : xd M.2.1 pc .iadd 1 nx) (kk : XW l C M nx ls (.int (x + y) :: st) G I r G' I') : XW l C M pc ls (.int y :: .int x :: st) G I r G' I' := by
  obtain ⟨hd, rfl⟩ := hd
  intro p e s m args below meth c R n0 s0 H locs la K hH hls hB
  exact lv_iadd K.1 K.2.1 hd (kk p e s m args below meth c R n0 s0 H locs la K hH hls hB)
theorem XW.isub {x y : Int32} (hd : xd M.2.1 pc .isub 1 nx) (kk : XW l C M nx ls (.int (x - y) :: st) G I r G' I') : XW l C M pc ls (.int y :: .int x :: st) G I r G' I' := by
  obtain ⟨hd, rfl⟩ := hd
  intro p e s m args below meth c R n0 s0 H locs la K hH hls hB
  exact lv_isub K.1 K.2.1 hd (kk p e s m args below meth c R n0 s0 H locs la K hH hls hB)
theorem XW.imul {x y : Int32} (hd : xd M.2.1 pc .imul 1 nx) (kk : XW l C M nx ls (.int (x * y) :: st) G I r G' I') : XW l C M pc ls (.int y :: .int x :: st) G I r G' I' := by
  obtain ⟨hd, rfl⟩ := hd
  intro p e s m args below meth c R n0 s0 H locs la K hH hls hB
  exact lv_imul K.1 K.2.1 hd (kk p e s m args below meth c R n0 s0 H locs la K hH hls hB)
theorem XW.iand {x y : Int32} (hd : xd M.2.1 pc .iand 1 nx) (kk : XW l C M nx ls (.int (x &&& y) :: st) G I r G' I') : XW l C M pc ls (.int y :: .int x :: st) G I r G' I' := by
  obtain ⟨hd, rfl⟩ := hd
  intro p e s m args below meth c R n0 s0 H locs la K hH hls hB
  exact lv_iand K.1 K.2.1 hd (kk p e s m args below meth c R n0 s0 H locs la K hH hls hB)
theorem XW.ior {x y : Int32} (hd : xd M.2.1 pc .ior 1 nx) (kk : XW l C M nx ls (.int (x ||| y) :: st) G I r G' I') : XW l C M pc ls (.int y :: .int x :: st) G I r G' I' := by
  obtain ⟨hd, rfl⟩ := hd
  intro p e s m args below meth c R n0 s0 H locs la K hH hls hB
  exact lv_ior K.1 K.2.1 hd (kk p e s m args below meth c R n0 s0 H locs la K hH hls hB)
theorem XW.ishl {x y : Int32} (hd : xd M.2.1 pc .ishl 1 nx) (kk : XW l C M nx ls (.int (x <<< (y &&& 31)) :: st) G I r G' I') : XW l C M pc ls (.int y :: .int x :: st) G I r G' I' := by
  obtain ⟨hd, rfl⟩ := hd
  intro p e s m args below meth c R n0 s0 H locs la K hH hls hB
  exact lv_ishl K.1 K.2.1 hd (kk p e s m args below meth c R n0 s0 H locs la K hH hls hB)
theorem XW.ishr {x y : Int32} (hd : xd M.2.1 pc .ishr 1 nx) (kk : XW l C M nx ls (.int (x >>> (y &&& 31)) :: st) G I r G' I') : XW l C M pc ls (.int y :: .int x :: st) G I r G' I' := by
  obtain ⟨hd, rfl⟩ := hd
  intro p e s m args below meth c R n0 s0 H locs la K hH hls hB
  exact lv_ishr K.1 K.2.1 hd (kk p e s m args below meth c R n0 s0 H locs la K hH hls hB)
theorem XW.idiv {x y : Int32} (hd : xd M.2.1 pc .idiv 1 nx) (hne : ¬ y = 0) (kk : XW l C M nx ls (.int (x / y) :: st) G I r G' I') : XW l C M pc ls (.int y :: .int x :: st) G I r G' I' := by
  obtain ⟨hd, rfl⟩ := hd
  intro p e s m args below meth c R n0 s0 H locs la K hH hls hB
  exact lv_idiv K.1 K.2.1 hd hne (kk p e s m args below meth c R n0 s0 H locs la K hH hls hB)
theorem XW.irem {x y : Int32} (hd : xd M.2.1 pc .irem 1 nx) (hne : ¬ y = 0) (kk : XW l C M nx ls (.int (x - x / y * y) :: st) G I r G' I') : XW l C M pc ls (.int y :: .int x :: st) G I r G' I' := by
  obtain ⟨hd, rfl⟩ := hd
  intro p e s m args below meth c R n0 s0 H locs la K hH hls hB
  exact lv_irem K.1 K.2.1 hd hne (kk p e s m args below meth c R n0 s0 H locs la K hH hls hB)
theorem XW.i2b {x : Int32} (hd : xd M.2.1 pc .i2b 1 nx) (kk : XW l C M nx ls (.int x.toInt8.toInt32 :: st) G I r G' I') : XW l C M pc ls (.int x :: st) G I r G' I' := by
  obtain ⟨hd, rfl⟩ := hd
  intro p e s m args below meth c R n0 s0 H locs la K hH hls hB
  exact lv_i2b K.1 K.2.1 hd rfl (kk p e s m args below meth c R n0 s0 H locs la K hH hls hB)
theorem XW.i2s {x : Int32} (hd : xd M.2.1 pc .i2s 1 nx) (kk : XW l C M nx ls (.int x.toInt16.toInt32 :: st) G I r G' I') : XW l C M pc ls (.int x :: st) G I r G' I' := by
  obtain ⟨hd, rfl⟩ := hd
  intro p e s m args below meth c R n0 s0 H locs la K hH hls hB
  exact lv_i2s K.1 K.2.1 hd rfl (kk p e s m args below meth c R n0 s0 H locs la K hH hls hB)
theorem XW.i2l {x : Int32} (hd : xd M.2.1 pc .i2l 1 nx) (kk : XW l C M nx ls (.long x.toInt64 :: st) G I r G' I') : XW l C M pc ls (.int x :: st) G I r G' I' := by
  obtain ⟨hd, rfl⟩ := hd
  intro p e s m args below meth c R n0 s0 H locs la K hH hls hB
  exact lv_i2l K.1 K.2.1 hd rfl (kk p e s m args below meth c R n0 s0 H locs la K hH hls hB)
theorem XW.ladd {x y : Int64} (hd : xd M.2.1 pc .ladd 1 nx) (kk : XW l C M nx ls (.long (x + y) :: st) G I r G' I') : XW l C M pc ls (.long y :: .long x :: st) G I r G' I' := by
  obtain ⟨hd, rfl⟩ := hd
  intro p e s m args below meth c R n0 s0 H locs la K hH hls hB
  exact lv_ladd K.1 K.2.1 hd (kk p e s m args below meth c R n0 s0 H locs la K hH hls hB)
theorem XW.lcmp {x y : Int64} (hd : xd M.2.1 pc .lcmp 1 nx) (kk : XW l C M nx ls (.int (lg_cmp x y) :: st) G I r G' I') : XW l C M pc ls (.long y :: .long x :: st) G I r G' I' := by
  obtain ⟨hd, rfl⟩ := hd
  intro p e s m args below meth c R n0 s0 H locs la K hH hls hB
  exact W.lcmp K.1 K.2.1 hd (kk p e s m args below meth c R n0 s0 H locs la K hH hls hB)
theorem XW.iconst {n : Int} {v : Int32} (hd : xd M.2.1 pc (.iconst n) 1 nx) (hv : Int32.ofInt n = v) (kk : XW l C M nx ls (.int v :: st) G I r G' I') : XW l C M pc ls (st) G I r G' I' := by
  obtain ⟨hd, rfl⟩ := hd
  intro p e s m args below meth c R n0 s0 H locs la K hH hls hB
  exact lv_iconst K.1 K.2.1 hd hv (kk p e s m args below meth c R n0 s0 H locs la K hH hls hB)
theorem XW.bipush {n : Int} {v : Int32} (hd : xd M.2.1 pc (.bipush n) 2 nx) (hv : (Int8.ofInt n).toInt32 = v) (kk : XW l C M nx ls (.int v :: st) G I r G' I') : XW l C M pc ls (st) G I r G' I' := by
  obtain ⟨hd, rfl⟩ := hd
  intro p e s m args below meth c R n0 s0 H locs la K hH hls hB
  exact lv_bipush K.1 K.2.1 hd hv (kk p e s m args below meth c R n0 s0 H locs la K hH hls hB)
theorem XW.sipush {n : Int} {v : Int32} (hd : xd M.2.1 pc (.sipush n) 3 nx) (hv : (Int16.ofInt n).toInt32 = v) (kk : XW l C M nx ls (.int v :: st) G I r G' I') : XW l C M pc ls (st) G I r G' I' := by
  obtain ⟨hd, rfl⟩ := hd
  intro p e s m args below meth c R n0 s0 H locs la K hH hls hB
  exact lv_sipush K.1 K.2.1 hd hv (kk p e s m args below meth c R n0 s0 H locs la K hH hls hB)
theorem XW.anull (hd : xd M.2.1 pc .aconst_null 1 nx) (kk : XW l C M nx ls (.ref 0 :: st) G I r G' I') : XW l C M pc ls st G I r G' I' := by
  obtain ⟨hd, rfl⟩ := hd
  intro p e s m args below meth c R n0 s0 H locs la K hH hls hB
  exact lv_null K.1 K.2.1 hd (kk p e s m args below meth c R n0 s0 H locs la K hH hls hB)
theorem XW.dup {v : Value} (hd : xd M.2.1 pc .dup 1 nx) (hv : v.category = 1) (kk : XW l C M nx ls (v :: v :: st) G I r G' I') : XW l C M pc ls (v :: st) G I r G' I' := by
  obtain ⟨hd, rfl⟩ := hd
  intro p e s m args below meth c R n0 s0 H locs la K hH hls hB
  exact lv_dup K.1 K.2.1 hd ((xv_cat C v).trans hv) (kk p e s m args below meth c R n0 s0 H locs la K hH hls hB)
theorem XW.dup2 {v w : Value} (hd : xd M.2.1 pc .dup2 1 nx) (hv : v.category = 1) (hw : w.category = 1) (kk : XW l C M nx ls (v :: w :: v :: w :: st) G I r G' I') : XW l C M pc ls (v :: w :: st) G I r G' I' := by
  obtain ⟨hd, rfl⟩ := hd
  intro p e s m args below meth c R n0 s0 H locs la K hH hls hB
  exact lv_dup2_11 K.1 K.2.1 hd ((xv_cat C v).trans hv) ((xv_cat C w).trans hw) (kk p e s m args below meth c R n0 s0 H locs la K hH hls hB)
theorem XW.iload_n {k : Fin 4} {x : Int32} (hd : xd M.2.1 pc (.iload_n k) 1 nx) (hv : ls[(k : Nat)]? = some (some (.int x))) (kk : XW l C M nx ls (.int x :: st) G I r G' I') : XW l C M pc ls st G I r G' I' := by
  obtain ⟨hd, rfl⟩ := hd
  intro p e s m args below meth c R n0 s0 H locs la K hH hls hB
  exact lv_iload_n K.1 K.2.1 hd rfl (hls.at hv) (kk p e s m args below meth c R n0 s0 H locs la K hH hls hB)
theorem XW.iload {k : Nat} {x : Int32} (hd : xd M.2.1 pc (.iload k) 2 nx) (hv : ls[k]? = some (some (.int x))) (kk : XW l C M nx ls (.int x :: st) G I r G' I') : XW l C M pc ls st G I r G' I' := by
  obtain ⟨hd, rfl⟩ := hd
  intro p e s m args below meth c R n0 s0 H locs la K hH hls hB
  exact lv_iload K.1 K.2.1 hd (hls.at hv) (kk p e s m args below meth c R n0 s0 H locs la K hH hls hB)
theorem XW.aload_n {k : Fin 4} {a : Nat} (hd : xd M.2.1 pc (.aload_n k) 1 nx) (hv : ls[(k : Nat)]? = some (some (.ref a))) (kk : XW l C M nx ls (.ref a :: st) G I r G' I') : XW l C M pc ls st G I r G' I' := by
  obtain ⟨hd, rfl⟩ := hd
  intro p e s m args below meth c R n0 s0 H locs la K hH hls hB
  have hk := kk p e s m args below meth c R n0 s0 H locs la K hH hls hB
  have hg := hls.at hv
  by_cases ha : a = 0
  · subst ha
    rw [List.map_cons, xv_null] at hk
    rw [xv_null] at hg
    exact lv_aload_nN K.1 K.2.1 hd rfl hg hk
  · rw [List.map_cons, xv_ref ha] at hk
    rw [xv_ref ha] at hg
    exact lv_aload_n K.1 K.2.1 hd rfl hg hk
theorem XW.aload {k : Nat} {a : Nat} (hd : xd M.2.1 pc (.aload k) 2 nx) (hv : ls[k]? = some (some (.ref a))) (kk : XW l C M nx ls (.ref a :: st) G I r G' I') : XW l C M pc ls st G I r G' I' := by
  obtain ⟨hd, rfl⟩ := hd
  intro p e s m args below meth c R n0 s0 H locs la K hH hls hB
  have hk := kk p e s m args below meth c R n0 s0 H locs la K hH hls hB
  have hg := hls.at hv
  by_cases ha : a = 0
  · subst ha
    rw [List.map_cons, xv_null] at hk
    rw [xv_null] at hg
    exact lv_aloadN K.1 K.2.1 hd hg hk
  · rw [List.map_cons, xv_ref ha] at hk
    rw [xv_ref ha] at hg
    exact lv_aload K.1 K.2.1 hd hg hk
theorem XW.istore_n {k : Fin 4} {x : Int32} (hd : xd M.2.1 pc (.istore_n k) 1 nx) (hk : (k : Nat) < ls.length) (hl : ls.set k (some (.int x)) = ls') (kk : XW l C M nx ls' st G I r G' I') : XW l C M pc ls (.int x :: st) G I r G' I' := by
  obtain ⟨hd, rfl⟩ := hd
  subst hl
  intro p e s m args below meth c R n0 s0 H locs la K hH hls hB
  exact lv_istore_n K.1 K.2.1 hd rfl hls.1 (by rw [← hls.2.1]; exact hk) rfl (fun la2 h2 => kk p e s m args below meth c R n0 s0 H locs la2 K hH (hls.set (v := .int x) rfl h2) hB)
theorem XW.istore {k : Nat} {x : Int32} (hd : xd M.2.1 pc (.istore k) 2 nx) (hk : k < ls.length) (hl : ls.set k (some (.int x)) = ls') (kk : XW l C M nx ls' st G I r G' I') : XW l C M pc ls (.int x :: st) G I r G' I' := by
  obtain ⟨hd, rfl⟩ := hd
  subst hl
  intro p e s m args below meth c R n0 s0 H locs la K hH hls hB
  exact lv_istore K.1 K.2.1 hd hls.1 (by rw [← hls.2.1]; exact hk) rfl (fun la2 h2 => kk p e s m args below meth c R n0 s0 H locs la2 K hH (hls.set (v := .int x) rfl h2) hB)
theorem XW.astore_n {k : Fin 4} {a : Nat} (hd : xd M.2.1 pc (.astore_n k) 1 nx) (hk : (k : Nat) < ls.length) (hl : ls.set k (some (.ref a)) = ls') (kk : XW l C M nx ls' st G I r G' I') : XW l C M pc ls (.ref a :: st) G I r G' I' := by
  obtain ⟨hd, rfl⟩ := hd
  subst hl
  intro p e s m args below meth c R n0 s0 H locs la K hH hls hB
  have hk2 : (k : Nat) < M.2.2.1 := by rw [← hls.2.1]; exact hk
  rw [List.map_cons]
  by_cases ha : a = 0
  · subst ha
    rw [xv_null]
    exact lv_astore_nN K.1 K.2.1 hd rfl hls.1 hk2 rfl (fun la2 h2 => kk p e s m args below meth c R n0 s0 H locs la2 K hH (hls.set (v := .ref 0) rfl (by rw [xv_null]; exact h2)) hB)
  · rw [xv_ref ha]
    exact lv_astore_n K.1 K.2.1 hd rfl hls.1 hk2 rfl (fun la2 h2 => kk p e s m args below meth c R n0 s0 H locs la2 K hH (hls.set (v := .ref a) rfl (by rw [xv_ref ha]; exact h2)) hB)
theorem XW.astore {k : Nat} {a : Nat} (hd : xd M.2.1 pc (.astore k) 2 nx) (hk : k < ls.length) (hl : ls.set k (some (.ref a)) = ls') (kk : XW l C M nx ls' st G I r G' I') : XW l C M pc ls (.ref a :: st) G I r G' I' := by
  obtain ⟨hd, rfl⟩ := hd
  subst hl
  intro p e s m args below meth c R n0 s0 H locs la K hH hls hB
  have hk2 : k < M.2.2.1 := by rw [← hls.2.1]; exact hk
  rw [List.map_cons]
  by_cases ha : a = 0
  · subst ha
    rw [xv_null]
    exact lv_astoreN K.1 K.2.1 hd hls.1 hk2 rfl (fun la2 h2 => kk p e s m args below meth c R n0 s0 H locs la2 K hH (hls.set (v := .ref 0) rfl (by rw [xv_null]; exact h2)) hB)
  · rw [xv_ref ha]
    exact lv_astore K.1 K.2.1 hd hls.1 hk2 rfl (fun la2 h2 => kk p e s m args below meth c R n0 s0 H locs la2 K hH (hls.set (v := .ref a) rfl (by rw [xv_ref ha]; exact h2)) hB)
theorem XW.iinc {k : Nat} {n : Int} {x y : Int32} (hd : xd M.2.1 pc (.iinc k n) 3 nx) (hv : ls[k]? = some (some (.int x))) (hy : x + Int32.ofInt n = y) (hl : ls.set k (some (.int y)) = ls') (kk : XW l C M nx ls' st G I r G' I') : XW l C M pc ls st G I r G' I' := by
  obtain ⟨hd, rfl⟩ := hd
  subst hl
  intro p e s m args below meth c R n0 s0 H locs la K hH hls hB
  have hk2 : k < M.2.2.1 := by rw [← hls.2.1]; exact (List.getElem?_eq_some_iff.mp hv).1
  obtain ⟨j, hj⟩ := List.getElem?_of_mem (xlv_mem (C := C) hv)
  exact lv_iinc K.1 K.2.1 hd hls.1 hj hy hk2 rfl (fun la2 h2 => kk p e s m args below meth c R n0 s0 H locs la2 K hH (hls.set (v := .int y) rfl h2) hB)
theorem XW.if_eq {x : Int32} {off : Int} {tgt : Nat} (hd : xj M.2.1 pc (.ifCond .eq off) 3 nx off tgt) (kt : x = 0 → XW l C M tgt ls st G I r G' I') (kf : ¬ x = 0 → XW l C M nx ls st G I r G' I') : XW l C M pc ls (.int x :: st) G I r G' I' := by
  obtain ⟨hd, rfl, ht⟩ := hd
  intro p e s m args below meth c R n0 s0 H locs la K hH hls hB
  exact lv_if_eq K.1 K.2.1 hd ht (fun z => kt z p e s m args below meth c R n0 s0 H locs la K hH hls hB) (fun z => kf z p e s m args below meth c R n0 s0 H locs la K hH hls hB)
theorem XW.if_ne {x : Int32} {off : Int} {tgt : Nat} (hd : xj M.2.1 pc (.ifCond .ne off) 3 nx off tgt) (kt : ¬ x = 0 → XW l C M tgt ls st G I r G' I') (kf : x = 0 → XW l C M nx ls st G I r G' I') : XW l C M pc ls (.int x :: st) G I r G' I' := by
  obtain ⟨hd, rfl, ht⟩ := hd
  intro p e s m args below meth c R n0 s0 H locs la K hH hls hB
  exact lv_if_ne K.1 K.2.1 hd ht (fun z => kt z p e s m args below meth c R n0 s0 H locs la K hH hls hB) (fun z => kf z p e s m args below meth c R n0 s0 H locs la K hH hls hB)
theorem XW.if_lt {x : Int32} {off : Int} {tgt : Nat} (hd : xj M.2.1 pc (.ifCond .lt off) 3 nx off tgt) (kt : x < 0 → XW l C M tgt ls st G I r G' I') (kf : ¬ x < 0 → XW l C M nx ls st G I r G' I') : XW l C M pc ls (.int x :: st) G I r G' I' := by
  obtain ⟨hd, rfl, ht⟩ := hd
  intro p e s m args below meth c R n0 s0 H locs la K hH hls hB
  exact lv_if_lt K.1 K.2.1 hd ht (fun z => kt z p e s m args below meth c R n0 s0 H locs la K hH hls hB) (fun z => kf z p e s m args below meth c R n0 s0 H locs la K hH hls hB)
theorem XW.if_ge {x : Int32} {off : Int} {tgt : Nat} (hd : xj M.2.1 pc (.ifCond .ge off) 3 nx off tgt) (kt : 0 ≤ x → XW l C M tgt ls st G I r G' I') (kf : ¬ 0 ≤ x → XW l C M nx ls st G I r G' I') : XW l C M pc ls (.int x :: st) G I r G' I' := by
  obtain ⟨hd, rfl, ht⟩ := hd
  intro p e s m args below meth c R n0 s0 H locs la K hH hls hB
  exact lv_if_ge K.1 K.2.1 hd ht (fun z => kt z p e s m args below meth c R n0 s0 H locs la K hH hls hB) (fun z => kf z p e s m args below meth c R n0 s0 H locs la K hH hls hB)
theorem XW.if_gt {x : Int32} {off : Int} {tgt : Nat} (hd : xj M.2.1 pc (.ifCond .gt off) 3 nx off tgt) (kt : 0 < x → XW l C M tgt ls st G I r G' I') (kf : ¬ 0 < x → XW l C M nx ls st G I r G' I') : XW l C M pc ls (.int x :: st) G I r G' I' := by
  obtain ⟨hd, rfl, ht⟩ := hd
  intro p e s m args below meth c R n0 s0 H locs la K hH hls hB
  exact lv_if_gt K.1 K.2.1 hd ht (fun z => kt z p e s m args below meth c R n0 s0 H locs la K hH hls hB) (fun z => kf z p e s m args below meth c R n0 s0 H locs la K hH hls hB)
theorem XW.if_le {x : Int32} {off : Int} {tgt : Nat} (hd : xj M.2.1 pc (.ifCond .le off) 3 nx off tgt) (kt : x ≤ 0 → XW l C M tgt ls st G I r G' I') (kf : ¬ x ≤ 0 → XW l C M nx ls st G I r G' I') : XW l C M pc ls (.int x :: st) G I r G' I' := by
  obtain ⟨hd, rfl, ht⟩ := hd
  intro p e s m args below meth c R n0 s0 H locs la K hH hls hB
  exact lv_if_le K.1 K.2.1 hd ht (fun z => kt z p e s m args below meth c R n0 s0 H locs la K hH hls hB) (fun z => kf z p e s m args below meth c R n0 s0 H locs la K hH hls hB)
theorem XW.icmp_eq {x y : Int32} {off : Int} {tgt : Nat} (hd : xj M.2.1 pc (.if_icmp .eq off) 3 nx off tgt) (kt : x = y → XW l C M tgt ls st G I r G' I') (kf : ¬ x = y → XW l C M nx ls st G I r G' I') : XW l C M pc ls (.int y :: .int x :: st) G I r G' I' := by
  obtain ⟨hd, rfl, ht⟩ := hd
  intro p e s m args below meth c R n0 s0 H locs la K hH hls hB
  exact lv_icmp_eq K.1 K.2.1 hd ht (fun z => kt z p e s m args below meth c R n0 s0 H locs la K hH hls hB) (fun z => kf z p e s m args below meth c R n0 s0 H locs la K hH hls hB)
theorem XW.icmp_ne {x y : Int32} {off : Int} {tgt : Nat} (hd : xj M.2.1 pc (.if_icmp .ne off) 3 nx off tgt) (kt : ¬ x = y → XW l C M tgt ls st G I r G' I') (kf : x = y → XW l C M nx ls st G I r G' I') : XW l C M pc ls (.int y :: .int x :: st) G I r G' I' := by
  obtain ⟨hd, rfl, ht⟩ := hd
  intro p e s m args below meth c R n0 s0 H locs la K hH hls hB
  exact lv_icmp_ne K.1 K.2.1 hd ht (fun z => kt z p e s m args below meth c R n0 s0 H locs la K hH hls hB) (fun z => kf z p e s m args below meth c R n0 s0 H locs la K hH hls hB)
theorem XW.icmp_lt {x y : Int32} {off : Int} {tgt : Nat} (hd : xj M.2.1 pc (.if_icmp .lt off) 3 nx off tgt) (kt : x < y → XW l C M tgt ls st G I r G' I') (kf : ¬ x < y → XW l C M nx ls st G I r G' I') : XW l C M pc ls (.int y :: .int x :: st) G I r G' I' := by
  obtain ⟨hd, rfl, ht⟩ := hd
  intro p e s m args below meth c R n0 s0 H locs la K hH hls hB
  exact lv_icmp_lt K.1 K.2.1 hd ht (fun z => kt z p e s m args below meth c R n0 s0 H locs la K hH hls hB) (fun z => kf z p e s m args below meth c R n0 s0 H locs la K hH hls hB)
theorem XW.icmp_ge {x y : Int32} {off : Int} {tgt : Nat} (hd : xj M.2.1 pc (.if_icmp .ge off) 3 nx off tgt) (kt : y ≤ x → XW l C M tgt ls st G I r G' I') (kf : ¬ y ≤ x → XW l C M nx ls st G I r G' I') : XW l C M pc ls (.int y :: .int x :: st) G I r G' I' := by
  obtain ⟨hd, rfl, ht⟩ := hd
  intro p e s m args below meth c R n0 s0 H locs la K hH hls hB
  exact lv_icmp_ge K.1 K.2.1 hd ht (fun z => kt z p e s m args below meth c R n0 s0 H locs la K hH hls hB) (fun z => kf z p e s m args below meth c R n0 s0 H locs la K hH hls hB)
theorem XW.icmp_gt {x y : Int32} {off : Int} {tgt : Nat} (hd : xj M.2.1 pc (.if_icmp .gt off) 3 nx off tgt) (kt : y < x → XW l C M tgt ls st G I r G' I') (kf : ¬ y < x → XW l C M nx ls st G I r G' I') : XW l C M pc ls (.int y :: .int x :: st) G I r G' I' := by
  obtain ⟨hd, rfl, ht⟩ := hd
  intro p e s m args below meth c R n0 s0 H locs la K hH hls hB
  exact lv_icmp_gt K.1 K.2.1 hd ht (fun z => kt z p e s m args below meth c R n0 s0 H locs la K hH hls hB) (fun z => kf z p e s m args below meth c R n0 s0 H locs la K hH hls hB)
theorem XW.icmp_le {x y : Int32} {off : Int} {tgt : Nat} (hd : xj M.2.1 pc (.if_icmp .le off) 3 nx off tgt) (kt : x ≤ y → XW l C M tgt ls st G I r G' I') (kf : ¬ x ≤ y → XW l C M nx ls st G I r G' I') : XW l C M pc ls (.int y :: .int x :: st) G I r G' I' := by
  obtain ⟨hd, rfl, ht⟩ := hd
  intro p e s m args below meth c R n0 s0 H locs la K hH hls hB
  exact lv_icmp_le K.1 K.2.1 hd ht (fun z => kt z p e s m args below meth c R n0 s0 H locs la K hH hls hB) (fun z => kf z p e s m args below meth c R n0 s0 H locs la K hH hls hB)
theorem XW.goto {off : Int} {tgt : Nat} (hd : xj M.2.1 pc (.goto off) 3 nx off tgt) (kk : XW l C M tgt ls st G I r G' I') : XW l C M pc ls st G I r G' I' := by
  obtain ⟨hd, rfl, ht⟩ := hd
  intro p e s m args below meth c R n0 s0 H locs la K hH hls hB
  exact lv_goto K.1 K.2.1 hd ht (kk p e s m args below meth c R n0 s0 H locs la K hH hls hB)
theorem XW.ifnull {a : Nat} {off : Int} {tgt : Nat} (hd : xj M.2.1 pc (.ifnull off) 3 nx off tgt) (kt : a = 0 → XW l C M tgt ls st G I r G' I') (kf : a ≠ 0 → XW l C M nx ls st G I r G' I') : XW l C M pc ls (.ref a :: st) G I r G' I' := by
  obtain ⟨hd, rfl, ht⟩ := hd
  intro p e s m args below meth c R n0 s0 H locs la K hH hls hB
  rw [List.map_cons]
  by_cases ha : a = 0
  · subst ha
    rw [xv_null]
    exact lv_ifnullN K.1 K.2.1 hd ht (kt rfl p e s m args below meth c R n0 s0 H locs la K hH hls hB)
  · rw [xv_ref ha]
    exact lv_ifnull K.1 K.2.1 hd (kf ha p e s m args below meth c R n0 s0 H locs la K hH hls hB)
theorem XW.ifnonnull {a : Nat} {off : Int} {tgt : Nat} (hd : xj M.2.1 pc (.ifnonnull off) 3 nx off tgt) (kt : a ≠ 0 → XW l C M tgt ls st G I r G' I') (kf : a = 0 → XW l C M nx ls st G I r G' I') : XW l C M pc ls (.ref a :: st) G I r G' I' := by
  obtain ⟨hd, rfl, ht⟩ := hd
  intro p e s m args below meth c R n0 s0 H locs la K hH hls hB
  rw [List.map_cons]
  by_cases ha : a = 0
  · subst ha
    rw [xv_null]
    exact lv_ifnonnullN K.1 K.2.1 hd (kf rfl p e s m args below meth c R n0 s0 H locs la K hH hls hB)
  · rw [xv_ref ha]
    exact lv_ifnonnull K.1 K.2.1 hd ht (kt ha p e s m args below meth c R n0 s0 H locs la K hH hls hB)
theorem XW.tabIn {dflt lo hi off : Int} {offs : Array Int} {n : Nat} {x : Int32} {tgt : Nat} (hd : decode M.2.1 pc = .ok (.tableswitch dflt lo hi offs, n)) (h1 : ¬ x.toInt < lo) (h2 : ¬ hi < x.toInt) (ho : offs[(x.toInt - lo).toNat]? = some off) (ht : (pc : Int) + off = (tgt : Int)) (kk : XW l C M tgt ls st G I r G' I') : XW l C M pc ls (.int x :: st) G I r G' I' := by
  intro p e s m args below meth c R n0 s0 H locs la K hH hls hB
  exact lv_tableIn K.1 K.2.1 hd h1 h2 ho ht (kk p e s m args below meth c R n0 s0 H locs la K hH hls hB)
theorem XW.tabOut {dflt lo hi : Int} {offs : Array Int} {n : Nat} {x : Int32} {tgt : Nat} (hd : decode M.2.1 pc = .ok (.tableswitch dflt lo hi offs, n)) (h : x.toInt < lo ∨ hi < x.toInt) (ht : (pc : Int) + dflt = (tgt : Int)) (kk : XW l C M tgt ls st G I r G' I') : XW l C M pc ls (.int x :: st) G I r G' I' := by
  intro p e s m args below meth c R n0 s0 H locs la K hH hls hB
  exact lv_tableOut K.1 K.2.1 hd h ht (kk p e s m args below meth c R n0 s0 H locs la K hH hls hB)
end XROWS
