/-! truth values; the fixed part of the heap -/
def bI (p : Prop) [Decidable p] : Int32 := if p then 1 else 0
theorem bI_nar (p : Prop) [Decidable p] : narrow .boolean (.int (bI p)) = .int (bI p) := by unfold bI; split <;> rfl
theorem bI_fit (p : Prop) [Decidable p] : fits .boolean (.int (bI p)) = true := by unfold bI; split <;> rfl
theorem xP_of {M : xM} {c k : Nat} {q : vw_C} (hq : vwCl[c]? = some q) (h : (q.2.1 k).2.2.2 = false ∨ ((q.2.1 k).2.2.2 = true ∧ M.1.name = "<init>" ∧ (q.2.1 k).1 = M.1.cls)) : xP M c k := fun q' h' => by cases hq.symm.trans h'; exact h
section XB
variable {l : Launch} {C : xC} {M : xM} {pc nx : Nat} {ls : List (Option Value)} {st : List Value} {G G' : xG} {I I' : xI} {r : Option Value}
theorem XW.if_eqB {P : Prop} [Decidable P] {off : Int} {tgt : Nat} (hd : xj M.2.1 pc (.ifCond .eq off) 3 nx off tgt) (kt : ¬ P → XW l C M tgt ls st G I r G' I') (kf : P → XW l C M nx ls st G I r G' I') : XW l C M pc ls (.int (bI P) :: st) G I r G' I' := by
  by_cases h : P
  · rw [show bI P = 1 from if_pos h]
    exact XW.if_eq hd (fun z => absurd z (by decide)) (fun _ => kf h)
  · rw [show bI P = 0 from if_neg h]
    exact XW.if_eq hd (fun _ => kt h) (fun z => absurd rfl z)
theorem XW.if_neB {P : Prop} [Decidable P] {off : Int} {tgt : Nat} (hd : xj M.2.1 pc (.ifCond .ne off) 3 nx off tgt) (kt : P → XW l C M tgt ls st G I r G' I') (kf : ¬ P → XW l C M nx ls st G I r G' I') : XW l C M pc ls (.int (bI P) :: st) G I r G' I' := by
  by_cases h : P
  · rw [show bI P = 1 from if_pos h]
    exact XW.if_ne hd (fun _ => kt h) (fun z => absurd z (by decide))
  · rw [show bI P = 0 from if_neg h]
    exact XW.if_ne hd (fun z => absurd rfl z) (fun _ => kf h)
end XB
def shT (a : Nat) : Nat := ([0, 0, 9, 6, 102, 2, 103, 104, 5, 105, 100, 100, 100, 100, 100, 100, 100, 100, 3, 100, 3, 100, 3, 100, 3, 100, 5, 105, 100, 100, 100, 100, 100, 100, 100, 100, 3, 100, 3, 100, 3, 100, 3, 100, 0, 100, 100, 100, 100, 4, 100, 100, 4, 100, 100, 4, 100, 100, 4, 100, 100, 7, 100, 7, 100, 7, 100, 7, 100, 10, 100, 100, 100, 100, 100, 100, 100, 100, 100, 100, 100, 100, 100, 100, 101, 100, 100, 100, 100, 101, 101, 100, 100, 100, 100, 100, 100, 100, 100, 100, 100, 100, 100] : List Nat).getD a 0
def shL (a : Nat) : Nat := ([0, 0, 0, 0, 4, 0, 4, 4, 0, 4, 80, 80, 80, 80, 80, 4, 4, 4, 0, 12, 0, 12, 0, 12, 0, 12, 0, 4, 80, 80, 80, 80, 80, 4, 4, 4, 0, 12, 0, 12, 0, 12, 0, 12, 0, 80, 80, 4, 4, 0, 80, 80, 0, 80, 80, 0, 80, 80, 0, 80, 80, 0, 160, 0, 160, 0, 160, 0, 160, 0, 4, 4, 4, 4, 4, 4, 4, 4, 4, 640, 160, 4, 320, 320, 4, 320, 4, 4, 4, 4, 1600, 80, 80, 80, 5, 1600, 80, 80, 80, 80, 5, 28561, 28561] : List Nat).getD a 0
def shR (a k : Nat) : Nat := (([[], [], [3, 6, 7, 8, 26, 44], [4], [], [], [49, 52, 55, 58], [61, 63, 65, 67], [3, 9, 10, 11, 12, 13, 14, 15, 16, 17], [18, 20, 22, 24], [], [], [], [], [], [], [], [], [19], [], [21], [], [23], [], [25], [], [3, 27, 28, 29, 30, 31, 32, 33, 34, 35], [36, 38, 40, 42], [], [], [], [], [], [], [], [], [37], [], [39], [], [41], [], [43], [], [3, 45, 46, 47, 48], [], [], [], [], [50, 51], [], [], [53, 54], [], [], [56, 57], [], [], [59, 60], [], [], [0, 62], [], [0, 64], [], [0, 66], [], [0, 68], [], [0, 0, 70, 71, 72, 73, 74, 75, 76, 0, 77, 78, 79, 80, 81, 82, 83, 84, 0, 0, 0, 0, 0, 85, 86, 87, 88, 89, 90, 91, 92, 93, 94, 95, 0, 0, 0, 96, 97, 98, 99, 100, 101, 102], [], [], [], [], [], [], [], [], [], [], [], [], [], [], [], [], [], [], [], [], [], [], [], [], [], [], [], [], [], [], [], [], []] : List (List Nat)).getD a []).getD k 0
/-- the cells that are made first stand as they were made; only the lines move -/
def SH (G : xG) : Prop := 103 ≤ gN G ∧ ∀ a, a < 103 → gT G a = shT a ∧ gL G a = shL a ∧ (a ≠ 4 → ∀ k, gR G a k = shR a k)
section XSH
variable {G : xG}
theorem so_2 (h : SH G) : gO G 2 9 := ⟨by decide, Nat.lt_of_lt_of_le (by decide) h.1, (h.2 2 (by decide)).1⟩
theorem sr_2_0 (h : SH G) : gR G 2 0 = 3 := (h.2 2 (by decide)).2.2 (by decide) 0
theorem sr_2_1 (h : SH G) : gR G 2 1 = 6 := (h.2 2 (by decide)).2.2 (by decide) 1
theorem sr_2_2 (h : SH G) : gR G 2 2 = 7 := (h.2 2 (by decide)).2.2 (by decide) 2
theorem sr_2_3 (h : SH G) : gR G 2 3 = 8 := (h.2 2 (by decide)).2.2 (by decide) 3
theorem sr_2_4 (h : SH G) : gR G 2 4 = 26 := (h.2 2 (by decide)).2.2 (by decide) 4
theorem sr_2_5 (h : SH G) : gR G 2 5 = 44 := (h.2 2 (by decide)).2.2 (by decide) 5
theorem so_3 (h : SH G) : gO G 3 6 := ⟨by decide, Nat.lt_of_lt_of_le (by decide) h.1, (h.2 3 (by decide)).1⟩
theorem sr_3_0 (h : SH G) : gR G 3 0 = 4 := (h.2 3 (by decide)).2.2 (by decide) 0
theorem sa_4 (h : SH G) : gA G 4 102 4 := ⟨by decide, Nat.lt_of_lt_of_le (by decide) h.1, (h.2 4 (by decide)).1, (h.2 4 (by decide)).2.1⟩
theorem so_5 (h : SH G) : gO G 5 2 := ⟨by decide, Nat.lt_of_lt_of_le (by decide) h.1, (h.2 5 (by decide)).1⟩
theorem sa_6 (h : SH G) : gA G 6 103 4 := ⟨by decide, Nat.lt_of_lt_of_le (by decide) h.1, (h.2 6 (by decide)).1, (h.2 6 (by decide)).2.1⟩
theorem sr_6_0 (h : SH G) : gR G 6 0 = 49 := (h.2 6 (by decide)).2.2 (by decide) 0
theorem sr_6_1 (h : SH G) : gR G 6 1 = 52 := (h.2 6 (by decide)).2.2 (by decide) 1
theorem sr_6_2 (h : SH G) : gR G 6 2 = 55 := (h.2 6 (by decide)).2.2 (by decide) 2
theorem sr_6_3 (h : SH G) : gR G 6 3 = 58 := (h.2 6 (by decide)).2.2 (by decide) 3
theorem sa_7 (h : SH G) : gA G 7 104 4 := ⟨by decide, Nat.lt_of_lt_of_le (by decide) h.1, (h.2 7 (by decide)).1, (h.2 7 (by decide)).2.1⟩
theorem sr_7_0 (h : SH G) : gR G 7 0 = 61 := (h.2 7 (by decide)).2.2 (by decide) 0
theorem sr_7_1 (h : SH G) : gR G 7 1 = 63 := (h.2 7 (by decide)).2.2 (by decide) 1
theorem sr_7_2 (h : SH G) : gR G 7 2 = 65 := (h.2 7 (by decide)).2.2 (by decide) 2
theorem sr_7_3 (h : SH G) : gR G 7 3 = 67 := (h.2 7 (by decide)).2.2 (by decide) 3
theorem so_8 (h : SH G) : gO G 8 5 := ⟨by decide, Nat.lt_of_lt_of_le (by decide) h.1, (h.2 8 (by decide)).1⟩
theorem sr_8_0 (h : SH G) : gR G 8 0 = 3 := (h.2 8 (by decide)).2.2 (by decide) 0
theorem sr_8_1 (h : SH G) : gR G 8 1 = 9 := (h.2 8 (by decide)).2.2 (by decide) 1
theorem sr_8_2 (h : SH G) : gR G 8 2 = 10 := (h.2 8 (by decide)).2.2 (by decide) 2
theorem sr_8_3 (h : SH G) : gR G 8 3 = 11 := (h.2 8 (by decide)).2.2 (by decide) 3
theorem sr_8_4 (h : SH G) : gR G 8 4 = 12 := (h.2 8 (by decide)).2.2 (by decide) 4
theorem sr_8_5 (h : SH G) : gR G 8 5 = 13 := (h.2 8 (by decide)).2.2 (by decide) 5
theorem sr_8_6 (h : SH G) : gR G 8 6 = 14 := (h.2 8 (by decide)).2.2 (by decide) 6
theorem sr_8_7 (h : SH G) : gR G 8 7 = 15 := (h.2 8 (by decide)).2.2 (by decide) 7
theorem sr_8_8 (h : SH G) : gR G 8 8 = 16 := (h.2 8 (by decide)).2.2 (by decide) 8
theorem sr_8_9 (h : SH G) : gR G 8 9 = 17 := (h.2 8 (by decide)).2.2 (by decide) 9
theorem sa_9 (h : SH G) : gA G 9 105 4 := ⟨by decide, Nat.lt_of_lt_of_le (by decide) h.1, (h.2 9 (by decide)).1, (h.2 9 (by decide)).2.1⟩
theorem sr_9_0 (h : SH G) : gR G 9 0 = 18 := (h.2 9 (by decide)).2.2 (by decide) 0
theorem sr_9_1 (h : SH G) : gR G 9 1 = 20 := (h.2 9 (by decide)).2.2 (by decide) 1
theorem sr_9_2 (h : SH G) : gR G 9 2 = 22 := (h.2 9 (by decide)).2.2 (by decide) 2
theorem sr_9_3 (h : SH G) : gR G 9 3 = 24 := (h.2 9 (by decide)).2.2 (by decide) 3
theorem sa_10 (h : SH G) : gA G 10 100 80 := ⟨by decide, Nat.lt_of_lt_of_le (by decide) h.1, (h.2 10 (by decide)).1, (h.2 10 (by decide)).2.1⟩
theorem sa_11 (h : SH G) : gA G 11 100 80 := ⟨by decide, Nat.lt_of_lt_of_le (by decide) h.1, (h.2 11 (by decide)).1, (h.2 11 (by decide)).2.1⟩
theorem sa_12 (h : SH G) : gA G 12 100 80 := ⟨by decide, Nat.lt_of_lt_of_le (by decide) h.1, (h.2 12 (by decide)).1, (h.2 12 (by decide)).2.1⟩
theorem sa_13 (h : SH G) : gA G 13 100 80 := ⟨by decide, Nat.lt_of_lt_of_le (by decide) h.1, (h.2 13 (by decide)).1, (h.2 13 (by decide)).2.1⟩
theorem sa_14 (h : SH G) : gA G 14 100 80 := ⟨by decide, Nat.lt_of_lt_of_le (by decide) h.1, (h.2 14 (by decide)).1, (h.2 14 (by decide)).2.1⟩
theorem sa_15 (h : SH G) : gA G 15 100 4 := ⟨by decide, Nat.lt_of_lt_of_le (by decide) h.1, (h.2 15 (by decide)).1, (h.2 15 (by decide)).2.1⟩
theorem sa_16 (h : SH G) : gA G 16 100 4 := ⟨by decide, Nat.lt_of_lt_of_le (by decide) h.1, (h.2 16 (by decide)).1, (h.2 16 (by decide)).2.1⟩
theorem sa_17 (h : SH G) : gA G 17 100 4 := ⟨by decide, Nat.lt_of_lt_of_le (by decide) h.1, (h.2 17 (by decide)).1, (h.2 17 (by decide)).2.1⟩
theorem so_18 (h : SH G) : gO G 18 3 := ⟨by decide, Nat.lt_of_lt_of_le (by decide) h.1, (h.2 18 (by decide)).1⟩
theorem sr_18_0 (h : SH G) : gR G 18 0 = 19 := (h.2 18 (by decide)).2.2 (by decide) 0
theorem sa_19 (h : SH G) : gA G 19 100 12 := ⟨by decide, Nat.lt_of_lt_of_le (by decide) h.1, (h.2 19 (by decide)).1, (h.2 19 (by decide)).2.1⟩
theorem so_20 (h : SH G) : gO G 20 3 := ⟨by decide, Nat.lt_of_lt_of_le (by decide) h.1, (h.2 20 (by decide)).1⟩
theorem sr_20_0 (h : SH G) : gR G 20 0 = 21 := (h.2 20 (by decide)).2.2 (by decide) 0
theorem sa_21 (h : SH G) : gA G 21 100 12 := ⟨by decide, Nat.lt_of_lt_of_le (by decide) h.1, (h.2 21 (by decide)).1, (h.2 21 (by decide)).2.1⟩
theorem so_22 (h : SH G) : gO G 22 3 := ⟨by decide, Nat.lt_of_lt_of_le (by decide) h.1, (h.2 22 (by decide)).1⟩
theorem sr_22_0 (h : SH G) : gR G 22 0 = 23 := (h.2 22 (by decide)).2.2 (by decide) 0
theorem sa_23 (h : SH G) : gA G 23 100 12 := ⟨by decide, Nat.lt_of_lt_of_le (by decide) h.1, (h.2 23 (by decide)).1, (h.2 23 (by decide)).2.1⟩
theorem so_24 (h : SH G) : gO G 24 3 := ⟨by decide, Nat.lt_of_lt_of_le (by decide) h.1, (h.2 24 (by decide)).1⟩
theorem sr_24_0 (h : SH G) : gR G 24 0 = 25 := (h.2 24 (by decide)).2.2 (by decide) 0
theorem sa_25 (h : SH G) : gA G 25 100 12 := ⟨by decide, Nat.lt_of_lt_of_le (by decide) h.1, (h.2 25 (by decide)).1, (h.2 25 (by decide)).2.1⟩
theorem so_26 (h : SH G) : gO G 26 5 := ⟨by decide, Nat.lt_of_lt_of_le (by decide) h.1, (h.2 26 (by decide)).1⟩
theorem sr_26_0 (h : SH G) : gR G 26 0 = 3 := (h.2 26 (by decide)).2.2 (by decide) 0
theorem sr_26_1 (h : SH G) : gR G 26 1 = 27 := (h.2 26 (by decide)).2.2 (by decide) 1
theorem sr_26_2 (h : SH G) : gR G 26 2 = 28 := (h.2 26 (by decide)).2.2 (by decide) 2
theorem sr_26_3 (h : SH G) : gR G 26 3 = 29 := (h.2 26 (by decide)).2.2 (by decide) 3
theorem sr_26_4 (h : SH G) : gR G 26 4 = 30 := (h.2 26 (by decide)).2.2 (by decide) 4
theorem sr_26_5 (h : SH G) : gR G 26 5 = 31 := (h.2 26 (by decide)).2.2 (by decide) 5
theorem sr_26_6 (h : SH G) : gR G 26 6 = 32 := (h.2 26 (by decide)).2.2 (by decide) 6
theorem sr_26_7 (h : SH G) : gR G 26 7 = 33 := (h.2 26 (by decide)).2.2 (by decide) 7
theorem sr_26_8 (h : SH G) : gR G 26 8 = 34 := (h.2 26 (by decide)).2.2 (by decide) 8
theorem sr_26_9 (h : SH G) : gR G 26 9 = 35 := (h.2 26 (by decide)).2.2 (by decide) 9
theorem sa_27 (h : SH G) : gA G 27 105 4 := ⟨by decide, Nat.lt_of_lt_of_le (by decide) h.1, (h.2 27 (by decide)).1, (h.2 27 (by decide)).2.1⟩
theorem sr_27_0 (h : SH G) : gR G 27 0 = 36 := (h.2 27 (by decide)).2.2 (by decide) 0
theorem sr_27_1 (h : SH G) : gR G 27 1 = 38 := (h.2 27 (by decide)).2.2 (by decide) 1
theorem sr_27_2 (h : SH G) : gR G 27 2 = 40 := (h.2 27 (by decide)).2.2 (by decide) 2
theorem sr_27_3 (h : SH G) : gR G 27 3 = 42 := (h.2 27 (by decide)).2.2 (by decide) 3
theorem sa_28 (h : SH G) : gA G 28 100 80 := ⟨by decide, Nat.lt_of_lt_of_le (by decide) h.1, (h.2 28 (by decide)).1, (h.2 28 (by decide)).2.1⟩
theorem sa_29 (h : SH G) : gA G 29 100 80 := ⟨by decide, Nat.lt_of_lt_of_le (by decide) h.1, (h.2 29 (by decide)).1, (h.2 29 (by decide)).2.1⟩
theorem sa_30 (h : SH G) : gA G 30 100 80 := ⟨by decide, Nat.lt_of_lt_of_le (by decide) h.1, (h.2 30 (by decide)).1, (h.2 30 (by decide)).2.1⟩
theorem sa_31 (h : SH G) : gA G 31 100 80 := ⟨by decide, Nat.lt_of_lt_of_le (by decide) h.1, (h.2 31 (by decide)).1, (h.2 31 (by decide)).2.1⟩
theorem sa_32 (h : SH G) : gA G 32 100 80 := ⟨by decide, Nat.lt_of_lt_of_le (by decide) h.1, (h.2 32 (by decide)).1, (h.2 32 (by decide)).2.1⟩
theorem sa_33 (h : SH G) : gA G 33 100 4 := ⟨by decide, Nat.lt_of_lt_of_le (by decide) h.1, (h.2 33 (by decide)).1, (h.2 33 (by decide)).2.1⟩
theorem sa_34 (h : SH G) : gA G 34 100 4 := ⟨by decide, Nat.lt_of_lt_of_le (by decide) h.1, (h.2 34 (by decide)).1, (h.2 34 (by decide)).2.1⟩
theorem sa_35 (h : SH G) : gA G 35 100 4 := ⟨by decide, Nat.lt_of_lt_of_le (by decide) h.1, (h.2 35 (by decide)).1, (h.2 35 (by decide)).2.1⟩
theorem so_36 (h : SH G) : gO G 36 3 := ⟨by decide, Nat.lt_of_lt_of_le (by decide) h.1, (h.2 36 (by decide)).1⟩
theorem sr_36_0 (h : SH G) : gR G 36 0 = 37 := (h.2 36 (by decide)).2.2 (by decide) 0
theorem sa_37 (h : SH G) : gA G 37 100 12 := ⟨by decide, Nat.lt_of_lt_of_le (by decide) h.1, (h.2 37 (by decide)).1, (h.2 37 (by decide)).2.1⟩
theorem so_38 (h : SH G) : gO G 38 3 := ⟨by decide, Nat.lt_of_lt_of_le (by decide) h.1, (h.2 38 (by decide)).1⟩
theorem sr_38_0 (h : SH G) : gR G 38 0 = 39 := (h.2 38 (by decide)).2.2 (by decide) 0
theorem sa_39 (h : SH G) : gA G 39 100 12 := ⟨by decide, Nat.lt_of_lt_of_le (by decide) h.1, (h.2 39 (by decide)).1, (h.2 39 (by decide)).2.1⟩
theorem so_40 (h : SH G) : gO G 40 3 := ⟨by decide, Nat.lt_of_lt_of_le (by decide) h.1, (h.2 40 (by decide)).1⟩
theorem sr_40_0 (h : SH G) : gR G 40 0 = 41 := (h.2 40 (by decide)).2.2 (by decide) 0
theorem sa_41 (h : SH G) : gA G 41 100 12 := ⟨by decide, Nat.lt_of_lt_of_le (by decide) h.1, (h.2 41 (by decide)).1, (h.2 41 (by decide)).2.1⟩
theorem so_42 (h : SH G) : gO G 42 3 := ⟨by decide, Nat.lt_of_lt_of_le (by decide) h.1, (h.2 42 (by decide)).1⟩
theorem sr_42_0 (h : SH G) : gR G 42 0 = 43 := (h.2 42 (by decide)).2.2 (by decide) 0
theorem sa_43 (h : SH G) : gA G 43 100 12 := ⟨by decide, Nat.lt_of_lt_of_le (by decide) h.1, (h.2 43 (by decide)).1, (h.2 43 (by decide)).2.1⟩
theorem so_44 (h : SH G) : gO G 44 0 := ⟨by decide, Nat.lt_of_lt_of_le (by decide) h.1, (h.2 44 (by decide)).1⟩
theorem sr_44_0 (h : SH G) : gR G 44 0 = 3 := (h.2 44 (by decide)).2.2 (by decide) 0
theorem sr_44_1 (h : SH G) : gR G 44 1 = 45 := (h.2 44 (by decide)).2.2 (by decide) 1
theorem sr_44_2 (h : SH G) : gR G 44 2 = 46 := (h.2 44 (by decide)).2.2 (by decide) 2
theorem sr_44_3 (h : SH G) : gR G 44 3 = 47 := (h.2 44 (by decide)).2.2 (by decide) 3
theorem sr_44_4 (h : SH G) : gR G 44 4 = 48 := (h.2 44 (by decide)).2.2 (by decide) 4
theorem sa_45 (h : SH G) : gA G 45 100 80 := ⟨by decide, Nat.lt_of_lt_of_le (by decide) h.1, (h.2 45 (by decide)).1, (h.2 45 (by decide)).2.1⟩
theorem sa_46 (h : SH G) : gA G 46 100 80 := ⟨by decide, Nat.lt_of_lt_of_le (by decide) h.1, (h.2 46 (by decide)).1, (h.2 46 (by decide)).2.1⟩
theorem sa_47 (h : SH G) : gA G 47 100 4 := ⟨by decide, Nat.lt_of_lt_of_le (by decide) h.1, (h.2 47 (by decide)).1, (h.2 47 (by decide)).2.1⟩
theorem sa_48 (h : SH G) : gA G 48 100 4 := ⟨by decide, Nat.lt_of_lt_of_le (by decide) h.1, (h.2 48 (by decide)).1, (h.2 48 (by decide)).2.1⟩
theorem so_49 (h : SH G) : gO G 49 4 := ⟨by decide, Nat.lt_of_lt_of_le (by decide) h.1, (h.2 49 (by decide)).1⟩
theorem sr_49_0 (h : SH G) : gR G 49 0 = 50 := (h.2 49 (by decide)).2.2 (by decide) 0
theorem sr_49_1 (h : SH G) : gR G 49 1 = 51 := (h.2 49 (by decide)).2.2 (by decide) 1
theorem sa_50 (h : SH G) : gA G 50 100 80 := ⟨by decide, Nat.lt_of_lt_of_le (by decide) h.1, (h.2 50 (by decide)).1, (h.2 50 (by decide)).2.1⟩
theorem sa_51 (h : SH G) : gA G 51 100 80 := ⟨by decide, Nat.lt_of_lt_of_le (by decide) h.1, (h.2 51 (by decide)).1, (h.2 51 (by decide)).2.1⟩
theorem so_52 (h : SH G) : gO G 52 4 := ⟨by decide, Nat.lt_of_lt_of_le (by decide) h.1, (h.2 52 (by decide)).1⟩
theorem sr_52_0 (h : SH G) : gR G 52 0 = 53 := (h.2 52 (by decide)).2.2 (by decide) 0
theorem sr_52_1 (h : SH G) : gR G 52 1 = 54 := (h.2 52 (by decide)).2.2 (by decide) 1
theorem sa_53 (h : SH G) : gA G 53 100 80 := ⟨by decide, Nat.lt_of_lt_of_le (by decide) h.1, (h.2 53 (by decide)).1, (h.2 53 (by decide)).2.1⟩
theorem sa_54 (h : SH G) : gA G 54 100 80 := ⟨by decide, Nat.lt_of_lt_of_le (by decide) h.1, (h.2 54 (by decide)).1, (h.2 54 (by decide)).2.1⟩
theorem so_55 (h : SH G) : gO G 55 4 := ⟨by decide, Nat.lt_of_lt_of_le (by decide) h.1, (h.2 55 (by decide)).1⟩
theorem sr_55_0 (h : SH G) : gR G 55 0 = 56 := (h.2 55 (by decide)).2.2 (by decide) 0
theorem sr_55_1 (h : SH G) : gR G 55 1 = 57 := (h.2 55 (by decide)).2.2 (by decide) 1
theorem sa_56 (h : SH G) : gA G 56 100 80 := ⟨by decide, Nat.lt_of_lt_of_le (by decide) h.1, (h.2 56 (by decide)).1, (h.2 56 (by decide)).2.1⟩
theorem sa_57 (h : SH G) : gA G 57 100 80 := ⟨by decide, Nat.lt_of_lt_of_le (by decide) h.1, (h.2 57 (by decide)).1, (h.2 57 (by decide)).2.1⟩
theorem so_58 (h : SH G) : gO G 58 4 := ⟨by decide, Nat.lt_of_lt_of_le (by decide) h.1, (h.2 58 (by decide)).1⟩
theorem sr_58_0 (h : SH G) : gR G 58 0 = 59 := (h.2 58 (by decide)).2.2 (by decide) 0
theorem sr_58_1 (h : SH G) : gR G 58 1 = 60 := (h.2 58 (by decide)).2.2 (by decide) 1
theorem sa_59 (h : SH G) : gA G 59 100 80 := ⟨by decide, Nat.lt_of_lt_of_le (by decide) h.1, (h.2 59 (by decide)).1, (h.2 59 (by decide)).2.1⟩
theorem sa_60 (h : SH G) : gA G 60 100 80 := ⟨by decide, Nat.lt_of_lt_of_le (by decide) h.1, (h.2 60 (by decide)).1, (h.2 60 (by decide)).2.1⟩
theorem so_61 (h : SH G) : gO G 61 7 := ⟨by decide, Nat.lt_of_lt_of_le (by decide) h.1, (h.2 61 (by decide)).1⟩
theorem sr_61_1 (h : SH G) : gR G 61 1 = 62 := (h.2 61 (by decide)).2.2 (by decide) 1
theorem sa_62 (h : SH G) : gA G 62 100 160 := ⟨by decide, Nat.lt_of_lt_of_le (by decide) h.1, (h.2 62 (by decide)).1, (h.2 62 (by decide)).2.1⟩
theorem so_63 (h : SH G) : gO G 63 7 := ⟨by decide, Nat.lt_of_lt_of_le (by decide) h.1, (h.2 63 (by decide)).1⟩
theorem sr_63_1 (h : SH G) : gR G 63 1 = 64 := (h.2 63 (by decide)).2.2 (by decide) 1
theorem sa_64 (h : SH G) : gA G 64 100 160 := ⟨by decide, Nat.lt_of_lt_of_le (by decide) h.1, (h.2 64 (by decide)).1, (h.2 64 (by decide)).2.1⟩
theorem so_65 (h : SH G) : gO G 65 7 := ⟨by decide, Nat.lt_of_lt_of_le (by decide) h.1, (h.2 65 (by decide)).1⟩
theorem sr_65_1 (h : SH G) : gR G 65 1 = 66 := (h.2 65 (by decide)).2.2 (by decide) 1
theorem sa_66 (h : SH G) : gA G 66 100 160 := ⟨by decide, Nat.lt_of_lt_of_le (by decide) h.1, (h.2 66 (by decide)).1, (h.2 66 (by decide)).2.1⟩
theorem so_67 (h : SH G) : gO G 67 7 := ⟨by decide, Nat.lt_of_lt_of_le (by decide) h.1, (h.2 67 (by decide)).1⟩
theorem sr_67_1 (h : SH G) : gR G 67 1 = 68 := (h.2 67 (by decide)).2.2 (by decide) 1
theorem sa_68 (h : SH G) : gA G 68 100 160 := ⟨by decide, Nat.lt_of_lt_of_le (by decide) h.1, (h.2 68 (by decide)).1, (h.2 68 (by decide)).2.1⟩
theorem so_69 (h : SH G) : gO G 69 10 := ⟨by decide, Nat.lt_of_lt_of_le (by decide) h.1, (h.2 69 (by decide)).1⟩
theorem sr_69_2 (h : SH G) : gR G 69 2 = 70 := (h.2 69 (by decide)).2.2 (by decide) 2
theorem sr_69_3 (h : SH G) : gR G 69 3 = 71 := (h.2 69 (by decide)).2.2 (by decide) 3
theorem sr_69_4 (h : SH G) : gR G 69 4 = 72 := (h.2 69 (by decide)).2.2 (by decide) 4
theorem sr_69_5 (h : SH G) : gR G 69 5 = 73 := (h.2 69 (by decide)).2.2 (by decide) 5
theorem sr_69_6 (h : SH G) : gR G 69 6 = 74 := (h.2 69 (by decide)).2.2 (by decide) 6
theorem sr_69_7 (h : SH G) : gR G 69 7 = 75 := (h.2 69 (by decide)).2.2 (by decide) 7
theorem sr_69_8 (h : SH G) : gR G 69 8 = 76 := (h.2 69 (by decide)).2.2 (by decide) 8
theorem sr_69_10 (h : SH G) : gR G 69 10 = 77 := (h.2 69 (by decide)).2.2 (by decide) 10
theorem sr_69_11 (h : SH G) : gR G 69 11 = 78 := (h.2 69 (by decide)).2.2 (by decide) 11
theorem sr_69_12 (h : SH G) : gR G 69 12 = 79 := (h.2 69 (by decide)).2.2 (by decide) 12
theorem sr_69_13 (h : SH G) : gR G 69 13 = 80 := (h.2 69 (by decide)).2.2 (by decide) 13
theorem sr_69_14 (h : SH G) : gR G 69 14 = 81 := (h.2 69 (by decide)).2.2 (by decide) 14
theorem sr_69_15 (h : SH G) : gR G 69 15 = 82 := (h.2 69 (by decide)).2.2 (by decide) 15
theorem sr_69_16 (h : SH G) : gR G 69 16 = 83 := (h.2 69 (by decide)).2.2 (by decide) 16
theorem sr_69_17 (h : SH G) : gR G 69 17 = 84 := (h.2 69 (by decide)).2.2 (by decide) 17
theorem sr_69_23 (h : SH G) : gR G 69 23 = 85 := (h.2 69 (by decide)).2.2 (by decide) 23
theorem sr_69_24 (h : SH G) : gR G 69 24 = 86 := (h.2 69 (by decide)).2.2 (by decide) 24
theorem sr_69_25 (h : SH G) : gR G 69 25 = 87 := (h.2 69 (by decide)).2.2 (by decide) 25
theorem sr_69_26 (h : SH G) : gR G 69 26 = 88 := (h.2 69 (by decide)).2.2 (by decide) 26
theorem sr_69_27 (h : SH G) : gR G 69 27 = 89 := (h.2 69 (by decide)).2.2 (by decide) 27
theorem sr_69_28 (h : SH G) : gR G 69 28 = 90 := (h.2 69 (by decide)).2.2 (by decide) 28
theorem sr_69_29 (h : SH G) : gR G 69 29 = 91 := (h.2 69 (by decide)).2.2 (by decide) 29
theorem sr_69_30 (h : SH G) : gR G 69 30 = 92 := (h.2 69 (by decide)).2.2 (by decide) 30
theorem sr_69_31 (h : SH G) : gR G 69 31 = 93 := (h.2 69 (by decide)).2.2 (by decide) 31
theorem sr_69_32 (h : SH G) : gR G 69 32 = 94 := (h.2 69 (by decide)).2.2 (by decide) 32
theorem sr_69_33 (h : SH G) : gR G 69 33 = 95 := (h.2 69 (by decide)).2.2 (by decide) 33
theorem sr_69_37 (h : SH G) : gR G 69 37 = 96 := (h.2 69 (by decide)).2.2 (by decide) 37
theorem sr_69_38 (h : SH G) : gR G 69 38 = 97 := (h.2 69 (by decide)).2.2 (by decide) 38
theorem sr_69_39 (h : SH G) : gR G 69 39 = 98 := (h.2 69 (by decide)).2.2 (by decide) 39
theorem sr_69_40 (h : SH G) : gR G 69 40 = 99 := (h.2 69 (by decide)).2.2 (by decide) 40
theorem sr_69_41 (h : SH G) : gR G 69 41 = 100 := (h.2 69 (by decide)).2.2 (by decide) 41
theorem sr_69_42 (h : SH G) : gR G 69 42 = 101 := (h.2 69 (by decide)).2.2 (by decide) 42
theorem sr_69_43 (h : SH G) : gR G 69 43 = 102 := (h.2 69 (by decide)).2.2 (by decide) 43
theorem sa_70 (h : SH G) : gA G 70 100 4 := ⟨by decide, Nat.lt_of_lt_of_le (by decide) h.1, (h.2 70 (by decide)).1, (h.2 70 (by decide)).2.1⟩
theorem sa_71 (h : SH G) : gA G 71 100 4 := ⟨by decide, Nat.lt_of_lt_of_le (by decide) h.1, (h.2 71 (by decide)).1, (h.2 71 (by decide)).2.1⟩
theorem sa_72 (h : SH G) : gA G 72 100 4 := ⟨by decide, Nat.lt_of_lt_of_le (by decide) h.1, (h.2 72 (by decide)).1, (h.2 72 (by decide)).2.1⟩
theorem sa_73 (h : SH G) : gA G 73 100 4 := ⟨by decide, Nat.lt_of_lt_of_le (by decide) h.1, (h.2 73 (by decide)).1, (h.2 73 (by decide)).2.1⟩
theorem sa_74 (h : SH G) : gA G 74 100 4 := ⟨by decide, Nat.lt_of_lt_of_le (by decide) h.1, (h.2 74 (by decide)).1, (h.2 74 (by decide)).2.1⟩
theorem sa_75 (h : SH G) : gA G 75 100 4 := ⟨by decide, Nat.lt_of_lt_of_le (by decide) h.1, (h.2 75 (by decide)).1, (h.2 75 (by decide)).2.1⟩
theorem sa_76 (h : SH G) : gA G 76 100 4 := ⟨by decide, Nat.lt_of_lt_of_le (by decide) h.1, (h.2 76 (by decide)).1, (h.2 76 (by decide)).2.1⟩
theorem sa_77 (h : SH G) : gA G 77 100 4 := ⟨by decide, Nat.lt_of_lt_of_le (by decide) h.1, (h.2 77 (by decide)).1, (h.2 77 (by decide)).2.1⟩
theorem sa_78 (h : SH G) : gA G 78 100 4 := ⟨by decide, Nat.lt_of_lt_of_le (by decide) h.1, (h.2 78 (by decide)).1, (h.2 78 (by decide)).2.1⟩
theorem sa_79 (h : SH G) : gA G 79 100 640 := ⟨by decide, Nat.lt_of_lt_of_le (by decide) h.1, (h.2 79 (by decide)).1, (h.2 79 (by decide)).2.1⟩
theorem sa_80 (h : SH G) : gA G 80 100 160 := ⟨by decide, Nat.lt_of_lt_of_le (by decide) h.1, (h.2 80 (by decide)).1, (h.2 80 (by decide)).2.1⟩
theorem sa_81 (h : SH G) : gA G 81 100 4 := ⟨by decide, Nat.lt_of_lt_of_le (by decide) h.1, (h.2 81 (by decide)).1, (h.2 81 (by decide)).2.1⟩
theorem sa_82 (h : SH G) : gA G 82 100 320 := ⟨by decide, Nat.lt_of_lt_of_le (by decide) h.1, (h.2 82 (by decide)).1, (h.2 82 (by decide)).2.1⟩
theorem sa_83 (h : SH G) : gA G 83 100 320 := ⟨by decide, Nat.lt_of_lt_of_le (by decide) h.1, (h.2 83 (by decide)).1, (h.2 83 (by decide)).2.1⟩
theorem sa_84 (h : SH G) : gA G 84 101 4 := ⟨by decide, Nat.lt_of_lt_of_le (by decide) h.1, (h.2 84 (by decide)).1, (h.2 84 (by decide)).2.1⟩
theorem sa_85 (h : SH G) : gA G 85 100 320 := ⟨by decide, Nat.lt_of_lt_of_le (by decide) h.1, (h.2 85 (by decide)).1, (h.2 85 (by decide)).2.1⟩
theorem sa_86 (h : SH G) : gA G 86 100 4 := ⟨by decide, Nat.lt_of_lt_of_le (by decide) h.1, (h.2 86 (by decide)).1, (h.2 86 (by decide)).2.1⟩
theorem sa_87 (h : SH G) : gA G 87 100 4 := ⟨by decide, Nat.lt_of_lt_of_le (by decide) h.1, (h.2 87 (by decide)).1, (h.2 87 (by decide)).2.1⟩
theorem sa_88 (h : SH G) : gA G 88 100 4 := ⟨by decide, Nat.lt_of_lt_of_le (by decide) h.1, (h.2 88 (by decide)).1, (h.2 88 (by decide)).2.1⟩
theorem sa_89 (h : SH G) : gA G 89 101 4 := ⟨by decide, Nat.lt_of_lt_of_le (by decide) h.1, (h.2 89 (by decide)).1, (h.2 89 (by decide)).2.1⟩
theorem sa_90 (h : SH G) : gA G 90 101 1600 := ⟨by decide, Nat.lt_of_lt_of_le (by decide) h.1, (h.2 90 (by decide)).1, (h.2 90 (by decide)).2.1⟩
theorem sa_91 (h : SH G) : gA G 91 100 80 := ⟨by decide, Nat.lt_of_lt_of_le (by decide) h.1, (h.2 91 (by decide)).1, (h.2 91 (by decide)).2.1⟩
theorem sa_92 (h : SH G) : gA G 92 100 80 := ⟨by decide, Nat.lt_of_lt_of_le (by decide) h.1, (h.2 92 (by decide)).1, (h.2 92 (by decide)).2.1⟩
theorem sa_93 (h : SH G) : gA G 93 100 80 := ⟨by decide, Nat.lt_of_lt_of_le (by decide) h.1, (h.2 93 (by decide)).1, (h.2 93 (by decide)).2.1⟩
theorem sa_94 (h : SH G) : gA G 94 100 5 := ⟨by decide, Nat.lt_of_lt_of_le (by decide) h.1, (h.2 94 (by decide)).1, (h.2 94 (by decide)).2.1⟩
theorem sa_95 (h : SH G) : gA G 95 100 1600 := ⟨by decide, Nat.lt_of_lt_of_le (by decide) h.1, (h.2 95 (by decide)).1, (h.2 95 (by decide)).2.1⟩
theorem sa_96 (h : SH G) : gA G 96 100 80 := ⟨by decide, Nat.lt_of_lt_of_le (by decide) h.1, (h.2 96 (by decide)).1, (h.2 96 (by decide)).2.1⟩
theorem sa_97 (h : SH G) : gA G 97 100 80 := ⟨by decide, Nat.lt_of_lt_of_le (by decide) h.1, (h.2 97 (by decide)).1, (h.2 97 (by decide)).2.1⟩
theorem sa_98 (h : SH G) : gA G 98 100 80 := ⟨by decide, Nat.lt_of_lt_of_le (by decide) h.1, (h.2 98 (by decide)).1, (h.2 98 (by decide)).2.1⟩
theorem sa_99 (h : SH G) : gA G 99 100 80 := ⟨by decide, Nat.lt_of_lt_of_le (by decide) h.1, (h.2 99 (by decide)).1, (h.2 99 (by decide)).2.1⟩
theorem sa_100 (h : SH G) : gA G 100 100 5 := ⟨by decide, Nat.lt_of_lt_of_le (by decide) h.1, (h.2 100 (by decide)).1, (h.2 100 (by decide)).2.1⟩
theorem sa_101 (h : SH G) : gA G 101 100 28561 := ⟨by decide, Nat.lt_of_lt_of_le (by decide) h.1, (h.2 101 (by decide)).1, (h.2 101 (by decide)).2.1⟩
theorem sa_102 (h : SH G) : gA G 102 100 28561 := ⟨by decide, Nat.lt_of_lt_of_le (by decide) h.1, (h.2 102 (by decide)).1, (h.2 102 (by decide)).2.1⟩
end XSH
