/-! THE LIGHT MACHINE: a method's run over a small heap of numbers (I) and a shape (G), tied to the machine by W. -/
abbrev xG : Type := Nat × Nat × (Nat → Nat) × (Nat → Nat) × (Nat → Nat → Nat)
abbrev xI : Type := Nat → Nat → Int32
abbrev xM : Type := MethodName × ByteArray × Nat × Option FieldType × Nat
abbrev xC : Type := Nat × Nat × Nat × (Nat → Int32) × va_G × (Nat → ClassId)
def gN (G : xG) : Nat := G.1
def gS (G : xG) : Nat := G.2.1
def gT (G : xG) (a : Nat) : Nat := G.2.2.1 a
def gL (G : xG) (a : Nat) : Nat := G.2.2.2.1 a
def gR (G : xG) (a k : Nat) : Nat := G.2.2.2.2 a k
def xad (C : xC) (a : Nat) : Nat := if a = 1 then C.2.1 else C.1 + (a - 2)
def xr (C : xC) (a : Nat) : Value := if a = 0 then .null else .ref (xad C a)
def xv (C : xC) (v : Value) : Value := match v with
  | .ref a => xr C a
  | w => w
theorem xv_ref {C : xC} {a : Nat} (h : a ≠ 0) : xv C (.ref a) = .ref (xad C a) := by simp [xv, xr, h]
theorem xv_null {C : xC} : xv C (.ref 0) = .null := by simp [xv, xr]
theorem xad_of {C : xC} {a : Nat} (h : 2 ≤ a) : xad C a = C.1 + (a - 2) := by
  have h1 : a ≠ 1 := by omega
  simp [xad, h1]
theorem xv_cat (C : xC) (v : Value) : (xv C v).category = v.category := by
  cases v with
  | ref a =>
    show (xr C a).category = _
    unfold xr
    split <;> rfl
  | _ => rfl
-- which fields hold references
def xrf (c k : Nat) : Bool := match c with
  | 0 => true
  | 3 => k == 0
  | 4 => decide (k < 2)
  | 5 => decide (k < 10)
  | 6 => k == 0
  | 7 => k == 1
  | 9 => decide (k < 6)
  | 10 => decide (2 ≤ k ∧ k < 9) || decide (10 ≤ k ∧ k < 18) || decide (23 ≤ k ∧ k < 34) || decide (37 ≤ k ∧ k < 44)
  | _ => false
def xTy (c : Nat) : Nat → FieldType := match c with
  | 0 => tyX0
  | 1 => tyX1
  | 2 => tyX2
  | 3 => tyX3
  | 4 => tyX4
  | 5 => tyX5
  | 6 => tyX6
  | 7 => tyX7
  | 8 => tyX8
  | 9 => tyX9
  | _ => tyX10
-- arrays: 100 int, 101 boolean, then of references
def xAr (t : Nat) : Option FieldType := match t with
  | 100 => some .int
  | 101 => some .boolean
  | 102 => some (.object "LetterStore$Line")
  | 103 => some (.object "LetterStore$Row")
  | 104 => some (.object "LetterStore$Sheet")
  | 105 => some (.object "LetterStore$Queue")
  | _ => none
theorem xcl_cases {P : Nat → vw_C → Prop} (h0 : P 0 (RX0, TX0, 5)) (h1 : P 1 (RX1, TX1, 6)) (h2 : P 2 (RX2, TX2, 2)) (h3 : P 3 (RX3, TX3, 3)) (h4 : P 4 (RX4, TX4, 4)) (h5 : P 5 (RX5, TX5, 19)) (h6 : P 6 (RX6, TX6, 4)) (h7 : P 7 (RX7, TX7, 2)) (h8 : P 8 (RX8, TX8, 3)) (h9 : P 9 (RX9, TX9, 8)) (h10 : P 10 (RX10, TX10, 45)) : ∀ c q, vwCl[c]? = some q → P c q := by
  intro c q h
  match c, h with
  | 0, h => cases h; exact h0
  | 1, h => cases h; exact h1
  | 2, h => cases h; exact h2
  | 3, h => cases h; exact h3
  | 4, h => cases h; exact h4
  | 5, h => cases h; exact h5
  | 6, h => cases h; exact h6
  | 7, h => cases h; exact h7
  | 8, h => cases h; exact h8
  | 9, h => cases h; exact h9
  | 10, h => cases h; exact h10
  | n + 11, h => simp [vwCl] at h
theorem xcl_lt {c : Nat} {q : vw_C} (h : vwCl[c]? = some q) : c < 100 := by
  have := (List.getElem?_eq_some_iff.mp h).1
  have h2 : vwCl.length = 11 := rfl
  omega
theorem xTy_ok : ∀ c q, vwCl[c]? = some q → ∀ k, k < q.2.2 → parseFieldDescriptor (q.2.1 k).2.2.1 = some (xTy c k) :=
  xcl_cases tyX0_ok tyX1_ok tyX2_ok tyX3_ok tyX4_ok tyX5_ok tyX6_ok tyX7_ok tyX8_ok tyX9_ok tyX10_ok
theorem xNm_ok : ∀ c q, vwCl[c]? = some q → ∀ a, a < q.2.2 → ∀ b, b < q.2.2 → a ≠ b → (q.2.1 a).2.1 ≠ (q.2.1 b).2.1 :=
  xcl_cases nmX0 nmX1 nmX2 nmX3 nmX4 nmX5 nmX6 nmX7 nmX8 nmX9 nmX10
theorem xIn_0 : ∀ w ∈ u_ws RX0 TX0 5, w ∈ lw_tbl := by decide +kernel
theorem xIn_1 : ∀ w ∈ u_ws RX1 TX1 6, w ∈ lw_tbl := by decide +kernel
theorem xIn_2 : ∀ w ∈ u_ws RX2 TX2 2, w ∈ lw_tbl := by decide +kernel
theorem xIn_3 : ∀ w ∈ u_ws RX3 TX3 3, w ∈ lw_tbl := by decide +kernel
theorem xIn_4 : ∀ w ∈ u_ws RX4 TX4 4, w ∈ lw_tbl := by decide +kernel
theorem xIn_5 : ∀ w ∈ u_ws RX5 TX5 19, w ∈ lw_tbl := by decide +kernel
theorem xIn_6 : ∀ w ∈ u_ws RX6 TX6 4, w ∈ lw_tbl := by decide +kernel
theorem xIn_7 : ∀ w ∈ u_ws RX7 TX7 2, w ∈ lw_tbl := by decide +kernel
theorem xIn_8 : ∀ w ∈ u_ws RX8 TX8 3, w ∈ lw_tbl := by decide +kernel
theorem xIn_9 : ∀ w ∈ u_ws RX9 TX9 8, w ∈ lw_tbl := by decide +kernel
theorem xIn_10 : ∀ w ∈ u_ws RX10 TX10 45, w ∈ lw_tbl := by decide +kernel
theorem xIn_ok : ∀ c q, vwCl[c]? = some q → ∀ w ∈ u_ws q.1 q.2.1 q.2.2, w ∈ lw_tbl :=
  xcl_cases xIn_0 xIn_1 xIn_2 xIn_3 xIn_4 xIn_5 xIn_6 xIn_7 xIn_8 xIn_9 xIn_10
theorem xDf_ok : ∀ c q, vwCl[c]? = some q → ∀ k, k < q.2.2 → defaultValue (xTy c k) = if xrf c k = true then .null else .int 0 :=
  xcl_cases (by decide) (by decide) (by decide) (by decide) (by decide) (by decide) (by decide) (by decide) (by decide) (by decide) (by decide)
theorem xRf_ok : ∀ c q, vwCl[c]? = some q → ∀ k, k < q.2.2 → xrf c k = true → (∀ a : Nat, narrow (xTy c k) (.ref a) = .ref a ∧ fits (xTy c k) (.ref a) = true) ∧ narrow (xTy c k) .null = .null ∧ fits (xTy c k) .null = true := by
  refine xcl_cases ?_ ?_ ?_ ?_ ?_ ?_ ?_ ?_ ?_ ?_ ?_
  all_goals
    intro k hk hr
    first
      | (exfalso; revert hr; simp [xrf]; done)
      | (have : k < 46 := by omega
         revert k; decide)
      | sorry
/-- the words of the tables stay good -/
theorem xGood1 : lw_tbl.all goodWord = true := by decide +kernel
theorem xGood : ∀ w ∈ lw_tbl, (w.onTables && w.keeps) = true ∨ ∃ ty, w = .arrayClass ty := fun w h => good_of_word (List.all_eq_true.mp xGood1 w h)
