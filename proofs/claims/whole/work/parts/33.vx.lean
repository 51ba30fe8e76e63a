/-! what is left to show of each method -/
set_option maxRecDepth 100000 in
set_option maxHeartbeats 4000000 in
theorem VX3_addLast {l : Launch} {C : xC} {G : xG} (hs : SH G) {u : Nat} (hu : QU G u) (I : xI) (y1 : Int32) {Q : Unit → xI → Prop} (h :
    vp_in (((I u 1) + (I u 2)) - ((I u 1) + (I u 2)) / 12 * 12) 12 ∧ Q () (wI (wI I (u + 1) (((I u 1) + (I u 2)) - ((I u 1) + (I u 2)) / 12 * 12).toNatClampNeg y1) u 2 (((wI I (u + 1) (((I u 1) + (I u 2)) - ((I u 1) + (I u 2)) / 12 * 12).toNatClampNeg y1) u 2) + 1))) : XF fV l C mX3_addLast 0 (xent mX3_addLast [.ref u, .int y1]) [] G I Q := by
  show XF fV l C mX3_addLast 0 [some (.ref u), some (.int y1)] [] G I Q
  obtain ⟨q_17, h⟩ := h
  refine XF.lift (pc2 := 28) (ls2 := [some (.ref u), some (.int y1)]) (st2 := []) (I2 := (wI (wI I (u + 1) (((I u 1) + (I u 2)) - ((I u 1) + (I u 2)) / 12 * 12).toNatClampNeg y1) u 2 (((wI I (u + 1) (((I u 1) + (I u 2)) - ((I u 1) + (I u 2)) / 12 * 12).toNatClampNeg y1) u 2) + 1))) ?_ (fun r I' hk => by
      refine XW.aload_n eX3_addLast_0 rfl ?_
      refine XW.getR (b := (u + 1)) eX3_addLast_1 f3_9_3 rfl hu.1 hu.2.1 ?_
      refine XW.aload_n eX3_addLast_4 rfl ?_
      refine XW.getI eX3_addLast_5 f3_15_3 rfl hu.1 ?_
      refine XW.aload_n eX3_addLast_8 rfl ?_
      refine XW.getI eX3_addLast_9 f3_19_3 rfl hu.1 ?_
      refine XW.iadd eX3_addLast_12 ?_
      refine XW.bipush (v := 12) eX3_addLast_13 (by decide) ?_
      refine XW.irem eX3_addLast_15 (by decide) ?_
      refine XW.iload_n eX3_addLast_16 rfl ?_
      refine XW.iastore eX3_addLast_17 hu.2.2 q_17 ?_
      refine XW.aload_n eX3_addLast_18 rfl ?_
      refine XW.dup eX3_addLast_19 rfl ?_
      refine XW.getI eX3_addLast_20 f3_19_3 rfl hu.1 ?_
      refine XW.iconst (v := 1) eX3_addLast_23 (by decide) ?_
      refine XW.iadd eX3_addLast_24 ?_
      refine XW.putI eX3_addLast_25 f3_19_3 (xP_of rfl (by decide)) rfl ⟨rfl, rfl⟩ hu.1 ?_
      exact hk)
  exact ⟨(), (wI (wI I (u + 1) (((I u 1) + (I u 2)) - ((I u 1) + (I u 2)) / 12 * 12).toNatClampNeg y1) u 2 (((wI I (u + 1) (((I u 1) + (I u 2)) - ((I u 1) + (I u 2)) / 12 * 12).toNatClampNeg y1) u 2) + 1)), XW.vret eX3_addLast_28 rfl rfl rfl rfl, h⟩
set_option maxRecDepth 100000 in
set_option maxHeartbeats 4000000 in
theorem VX3_removeFirst {l : Launch} {C : xC} {G : xG} (hs : SH G) {u : Nat} (hu : QU G u) (I : xI) {Q : Int32 → xI → Prop} (h :
    vp_in (I u 1) 12 ∧ Q (I (u + 1) (I u 1).toNatClampNeg) (wI (wI I u 1 (((I u 1) + 1) - ((I u 1) + 1) / 12 * 12)) u 2 (((wI I u 1 (((I u 1) + 1) - ((I u 1) + 1) / 12 * 12)) u 2) - 1))) : XF fI l C mX3_removeFirst 0 (xent mX3_removeFirst [.ref u]) [] G I Q := by
  show XF fI l C mX3_removeFirst 0 [some (.ref u), none] [] G I Q
  obtain ⟨q_8, h⟩ := h
  refine XF.lift (pc2 := 34) (ls2 := [some (.ref u), some (.int (I (u + 1) (I u 1).toNatClampNeg))]) (st2 := [.int (I (u + 1) (I u 1).toNatClampNeg)]) (I2 := (wI (wI I u 1 (((I u 1) + 1) - ((I u 1) + 1) / 12 * 12)) u 2 (((wI I u 1 (((I u 1) + 1) - ((I u 1) + 1) / 12 * 12)) u 2) - 1))) ?_ (fun r I' hk => by
      refine XW.aload_n eX3_removeFirst_0 rfl ?_
      refine XW.getR (b := (u + 1)) eX3_removeFirst_1 f3_9_3 rfl hu.1 hu.2.1 ?_
      refine XW.aload_n eX3_removeFirst_4 rfl ?_
      refine XW.getI eX3_removeFirst_5 f3_15_3 rfl hu.1 ?_
      refine XW.iaload eX3_removeFirst_8 hu.2.2 q_8 ?_
      refine XW.istore_n (ls' := [some (.ref u), some (.int (I (u + 1) (I u 1).toNatClampNeg))]) eX3_removeFirst_9 (Nat.le_of_ble_eq_true rfl) rfl ?_
      refine XW.aload_n eX3_removeFirst_10 rfl ?_
      refine XW.aload_n eX3_removeFirst_11 rfl ?_
      refine XW.getI eX3_removeFirst_12 f3_15_3 rfl hu.1 ?_
      refine XW.iconst (v := 1) eX3_removeFirst_15 (by decide) ?_
      refine XW.iadd eX3_removeFirst_16 ?_
      refine XW.bipush (v := 12) eX3_removeFirst_17 (by decide) ?_
      refine XW.irem eX3_removeFirst_19 (by decide) ?_
      refine XW.putI eX3_removeFirst_20 f3_15_3 (xP_of rfl (by decide)) rfl ⟨rfl, rfl⟩ hu.1 ?_
      refine XW.aload_n eX3_removeFirst_23 rfl ?_
      refine XW.dup eX3_removeFirst_24 rfl ?_
      refine XW.getI eX3_removeFirst_25 f3_19_3 rfl hu.1 ?_
      refine XW.iconst (v := 1) eX3_removeFirst_28 (by decide) ?_
      refine XW.isub eX3_removeFirst_29 ?_
      refine XW.putI eX3_removeFirst_30 f3_19_3 (xP_of rfl (by decide)) rfl ⟨rfl, rfl⟩ hu.1 ?_
      refine XW.iload_n eX3_removeFirst_33 rfl ?_
      exact hk)
  exact ⟨(I (u + 1) (I u 1).toNatClampNeg), (wI (wI I u 1 (((I u 1) + 1) - ((I u 1) + 1) / 12 * 12)) u 2 (((wI I u 1 (((I u 1) + 1) - ((I u 1) + 1) / 12 * 12)) u 2) - 1)), XW.iret eX3_removeFirst_34 rfl rfl rfl rfl rfl, h⟩
set_option maxRecDepth 100000 in
set_option maxHeartbeats 4000000 in
theorem VX3_removeLast {l : Launch} {C : xC} {G : xG} (hs : SH G) {u : Nat} (hu : QU G u) (I : xI) {Q : Int32 → xI → Prop} (h :
    vp_in ((((wI I u 2 ((I u 2) - 1)) u 1) + ((wI I u 2 ((I u 2) - 1)) u 2)) - (((wI I u 2 ((I u 2) - 1)) u 1) + ((wI I u 2 ((I u 2) - 1)) u 2)) / 12 * 12) 12 ∧ Q ((wI I u 2 ((I u 2) - 1)) (u + 1) ((((wI I u 2 ((I u 2) - 1)) u 1) + ((wI I u 2 ((I u 2) - 1)) u 2)) - (((wI I u 2 ((I u 2) - 1)) u 1) + ((wI I u 2 ((I u 2) - 1)) u 2)) / 12 * 12).toNatClampNeg) (wI I u 2 ((I u 2) - 1))) : XF fI l C mX3_removeLast 0 (xent mX3_removeLast [.ref u]) [] G I Q := by
  show XF fI l C mX3_removeLast 0 [some (.ref u)] [] G I Q
  obtain ⟨q_26, h⟩ := h
  refine XF.lift (pc2 := 27) (ls2 := [some (.ref u)]) (st2 := [.int ((wI I u 2 ((I u 2) - 1)) (u + 1) ((((wI I u 2 ((I u 2) - 1)) u 1) + ((wI I u 2 ((I u 2) - 1)) u 2)) - (((wI I u 2 ((I u 2) - 1)) u 1) + ((wI I u 2 ((I u 2) - 1)) u 2)) / 12 * 12).toNatClampNeg)]) (I2 := (wI I u 2 ((I u 2) - 1))) ?_ (fun r I' hk => by
      refine XW.aload_n eX3_removeLast_0 rfl ?_
      refine XW.dup eX3_removeLast_1 rfl ?_
      refine XW.getI eX3_removeLast_2 f3_19_3 rfl hu.1 ?_
      refine XW.iconst (v := 1) eX3_removeLast_5 (by decide) ?_
      refine XW.isub eX3_removeLast_6 ?_
      refine XW.putI eX3_removeLast_7 f3_19_3 (xP_of rfl (by decide)) rfl ⟨rfl, rfl⟩ hu.1 ?_
      refine XW.aload_n eX3_removeLast_10 rfl ?_
      refine XW.getR (b := (u + 1)) eX3_removeLast_11 f3_9_3 rfl hu.1 hu.2.1 ?_
      refine XW.aload_n eX3_removeLast_14 rfl ?_
      refine XW.getI eX3_removeLast_15 f3_15_3 rfl hu.1 ?_
      refine XW.aload_n eX3_removeLast_18 rfl ?_
      refine XW.getI eX3_removeLast_19 f3_19_3 rfl hu.1 ?_
      refine XW.iadd eX3_removeLast_22 ?_
      refine XW.bipush (v := 12) eX3_removeLast_23 (by decide) ?_
      refine XW.irem eX3_removeLast_25 (by decide) ?_
      refine XW.iaload eX3_removeLast_26 hu.2.2 q_26 ?_
      exact hk)
  exact ⟨((wI I u 2 ((I u 2) - 1)) (u + 1) ((((wI I u 2 ((I u 2) - 1)) u 1) + ((wI I u 2 ((I u 2) - 1)) u 2)) - (((wI I u 2 ((I u 2) - 1)) u 1) + ((wI I u 2 ((I u 2) - 1)) u 2)) / 12 * 12).toNatClampNeg), (wI I u 2 ((I u 2) - 1)), XW.iret eX3_removeLast_27 rfl rfl rfl rfl rfl, h⟩
set_option maxRecDepth 100000 in
set_option maxHeartbeats 4000000 in
theorem VX1_bound {l : Launch} {C : xC} {G : xG} (hs : SH G) {a : Nat} (ha : gO G a 1) (I : xI) (y1 : Int32) {Q : Int32 → xI → Prop} (h :
    ((y1 = 3 → Q (I a 3) I) ∧ (¬ (y1 = 3) → ((y1 = 4 → Q (I a 4) I) ∧ (¬ (y1 = 4) → ((y1 = 5 → Q (I a 5) I) ∧ (¬ (y1 = 5) → Q ((I a 3) + (I a 5)) I))))))) : XF fI l C mX1_bound 0 (xent mX1_bound [.ref a, .int y1]) [] G I Q := by
  show XF fI l C mX1_bound 0 [some (.ref a), some (.int y1)] [] G I Q
  refine XF.lift (pc2 := 1) (ls2 := [some (.ref a), some (.int y1)]) (st2 := [.int y1]) (I2 := I) ?_ (fun r I' hk => by
      refine XW.iload_n eX1_bound_0 rfl ?_
      exact hk)
  obtain ⟨ht, hf⟩ := h
  refine XF.br (P := y1 = 3) (fun c_1_0 => ?_) (fun c_1_0 => ?_)
  ·
    replace h := ht c_1_0
    refine XF.lift (pc2 := 32) (ls2 := [some (.ref a), some (.int y1)]) (st2 := [.int (I a 3)]) (I2 := I) ?_ (fun r I' hk => by
        refine XW.tabIn (off := 27) (tgt := 28) dX1_bound_1 (by rw [c_1_0]; decide) (by rw [c_1_0]; decide) (by rw [c_1_0]; rfl) (by decide) ?_
        refine XW.aload_n eX1_bound_28 rfl ?_
        refine XW.getI eX1_bound_29 f1_9_1 rfl ha ?_
        exact hk)
    exact ⟨(I a 3), I, XW.iret eX1_bound_32 rfl rfl rfl rfl rfl, h⟩
  replace h := hf c_1_0
  obtain ⟨ht, hf⟩ := h
  refine XF.br (P := y1 = 4) (fun c_1_1 => ?_) (fun c_1_1 => ?_)
  ·
    replace h := ht c_1_1
    refine XF.lift (pc2 := 37) (ls2 := [some (.ref a), some (.int y1)]) (st2 := [.int (I a 4)]) (I2 := I) ?_ (fun r I' hk => by
        refine XW.tabIn (off := 32) (tgt := 33) dX1_bound_1 (by rw [c_1_1]; decide) (by rw [c_1_1]; decide) (by rw [c_1_1]; rfl) (by decide) ?_
        refine XW.aload_n eX1_bound_33 rfl ?_
        refine XW.getI eX1_bound_34 f1_15_1 rfl ha ?_
        exact hk)
    exact ⟨(I a 4), I, XW.iret eX1_bound_37 rfl rfl rfl rfl rfl, h⟩
  replace h := hf c_1_1
  obtain ⟨ht, hf⟩ := h
  refine XF.br (P := y1 = 5) (fun c_1_2 => ?_) (fun c_1_2 => ?_)
  ·
    replace h := ht c_1_2
    refine XF.lift (pc2 := 42) (ls2 := [some (.ref a), some (.int y1)]) (st2 := [.int (I a 5)]) (I2 := I) ?_ (fun r I' hk => by
        refine XW.tabIn (off := 37) (tgt := 38) dX1_bound_1 (by rw [c_1_2]; decide) (by rw [c_1_2]; decide) (by rw [c_1_2]; rfl) (by decide) ?_
        refine XW.aload_n eX1_bound_38 rfl ?_
        refine XW.getI eX1_bound_39 f1_18_1 rfl ha ?_
        exact hk)
    exact ⟨(I a 5), I, XW.iret eX1_bound_42 rfl rfl rfl rfl rfl, h⟩
  replace h := hf c_1_2
  refine XF.lift (pc2 := 52) (ls2 := [some (.ref a), some (.int y1)]) (st2 := [.int ((I a 3) + (I a 5))]) (I2 := I) ?_ (fun r I' hk => by
      refine XW.tabOut (tgt := 43) dX1_bound_1 (tab_out3 c_1_0 c_1_1 c_1_2) (by decide) ?_
      refine XW.aload_n eX1_bound_43 rfl ?_
      refine XW.getI eX1_bound_44 f1_9_1 rfl ha ?_
      refine XW.aload_n eX1_bound_47 rfl ?_
      refine XW.getI eX1_bound_48 f1_18_1 rfl ha ?_
      refine XW.iadd eX1_bound_51 ?_
      exact hk)
  exact ⟨((I a 3) + (I a 5)), I, XW.iret eX1_bound_52 rfl rfl rfl rfl rfl, h⟩
set_option maxRecDepth 100000 in
set_option maxHeartbeats 4000000 in
theorem VX1_tellsHalt {l : Launch} {C : xC} {G : xG} (hs : SH G) {a : Nat} (ha : gO G a 1) (I : xI) (y1 y2 : Int32) {Q : Int32 → xI → Prop} (h :
    ((y1 < (I a 3) → ((y1 ≤ (I a 4) → Q 0 I) ∧ (¬ (y1 ≤ (I a 4)) → ((y2 = 0 → Q 0 I) ∧ (¬ (y2 = 0) → Q 1 I))))) ∧ (¬ (y1 < (I a 3)) → Q 1 I))) : XF fI l C mX1_tellsHalt 0 (xent mX1_tellsHalt [.ref a, .int y1, .int y2]) [] G I Q := by
  show XF fI l C mX1_tellsHalt 0 [some (.ref a), some (.int y1), some (.int y2)] [] G I Q
  refine XF.lift (pc2 := 5) (ls2 := [some (.ref a), some (.int y1), some (.int y2)]) (st2 := [.int (I a 3), .int y1]) (I2 := I) ?_ (fun r I' hk => by
      refine XW.iload_n eX1_tellsHalt_0 rfl ?_
      refine XW.aload_n eX1_tellsHalt_1 rfl ?_
      refine XW.getI eX1_tellsHalt_2 f1_9_1 rfl ha ?_
      exact hk)
  obtain ⟨ht, hf⟩ := h
  refine XF.br (P := y1 < (I a 3)) (fun c_5 => ?_) (fun c_5 => ?_)
  ·
    replace h := ht c_5
    refine XF.lift (pc2 := 15) (ls2 := [some (.ref a), some (.int y1), some (.int y2)]) (st2 := [.int (I a 4), .int y1]) (I2 := I) ?_ (fun r I' hk => by
        refine XW.icmp_lt eX1_tellsHalt_5 (fun _ => ?_) (fun z => absurd c_5 z)
        refine XW.iload_n eX1_tellsHalt_10 rfl ?_
        refine XW.aload_n eX1_tellsHalt_11 rfl ?_
        refine XW.getI eX1_tellsHalt_12 f1_15_1 rfl ha ?_
        exact hk)
    obtain ⟨ht, hf⟩ := h
    refine XF.br (P := y1 ≤ (I a 4)) (fun c_15 => ?_) (fun c_15 => ?_)
    ·
      replace h := ht c_15
      refine XF.lift (pc2 := 27) (ls2 := [some (.ref a), some (.int y1), some (.int y2)]) (st2 := [.int 0]) (I2 := I) ?_ (fun r I' hk => by
          refine XW.icmp_le eX1_tellsHalt_15 (fun _ => ?_) (fun z => absurd c_15 z)
          refine XW.iconst (v := 0) eX1_tellsHalt_26 (by decide) ?_
          exact hk)
      exact ⟨0, I, XW.iret eX1_tellsHalt_27 rfl rfl rfl rfl rfl, h⟩
    ·
      replace h := hf c_15
      refine XF.lift (pc2 := 19) (ls2 := [some (.ref a), some (.int y1), some (.int y2)]) (st2 := [.int y2]) (I2 := I) ?_ (fun r I' hk => by
          refine XW.icmp_le eX1_tellsHalt_15 (fun z => absurd z c_15) (fun _ => ?_)
          refine XW.iload_n eX1_tellsHalt_18 rfl ?_
          exact hk)
      obtain ⟨ht, hf⟩ := h
      refine XF.br (P := y2 = 0) (fun c_19 => ?_) (fun c_19 => ?_)
      ·
        replace h := ht c_19
        refine XF.lift (pc2 := 27) (ls2 := [some (.ref a), some (.int y1), some (.int y2)]) (st2 := [.int 0]) (I2 := I) ?_ (fun r I' hk => by
            refine XW.if_eq eX1_tellsHalt_19 (fun _ => ?_) (fun z => absurd c_19 z)
            refine XW.iconst (v := 0) eX1_tellsHalt_26 (by decide) ?_
            exact hk)
        exact ⟨0, I, XW.iret eX1_tellsHalt_27 rfl rfl rfl rfl rfl, h⟩
      ·
        replace h := hf c_19
        refine XF.lift (pc2 := 27) (ls2 := [some (.ref a), some (.int y1), some (.int y2)]) (st2 := [.int 1]) (I2 := I) ?_ (fun r I' hk => by
            refine XW.if_eq eX1_tellsHalt_19 (fun z => absurd z c_19) (fun _ => ?_)
            refine XW.iconst (v := 1) eX1_tellsHalt_22 (by decide) ?_
            refine XW.goto eX1_tellsHalt_23 ?_
            exact hk)
        exact ⟨1, I, XW.iret eX1_tellsHalt_27 rfl rfl rfl rfl rfl, h⟩
  ·
    replace h := hf c_5
    refine XF.lift (pc2 := 9) (ls2 := [some (.ref a), some (.int y1), some (.int y2)]) (st2 := [.int 1]) (I2 := I) ?_ (fun r I' hk => by
        refine XW.icmp_lt eX1_tellsHalt_5 (fun z => absurd z c_5) (fun _ => ?_)
        refine XW.iconst (v := 1) eX1_tellsHalt_8 (by decide) ?_
        exact hk)
    exact ⟨1, I, XW.iret eX1_tellsHalt_9 rfl rfl rfl rfl rfl, h⟩
set_option maxRecDepth 100000 in
set_option maxHeartbeats 4000000 in
theorem VX7_beginRow {l : Launch} {C : xC} {G : xG} (hs : SH G) {u : Nat} (hu : TSh G u) (I : xI) (y1 y2 : Int32) {Q : Unit → xI → Prop} (h :
    XF fV l C mX7_beginRow 17 [some (.ref u), some (.int y1), some (.int y2), some (.int 0)] [] G (wI (wI (wI I u 2 1) u 0 y1) u 3 y2) Q) : XF fV l C mX7_beginRow 0 (xent mX7_beginRow [.ref u, .int y1, .int y2]) [] G I Q := by
  show XF fV l C mX7_beginRow 0 [some (.ref u), some (.int y1), some (.int y2), none] [] G I Q
  refine XF.lift (pc2 := 17) (ls2 := [some (.ref u), some (.int y1), some (.int y2), some (.int 0)]) (st2 := []) (I2 := (wI (wI (wI I u 2 1) u 0 y1) u 3 y2)) ?_ (fun r I' hk => by
      refine XW.aload_n eX7_beginRow_0 rfl ?_
      refine XW.iconst (v := 1) eX7_beginRow_1 (by decide) ?_
      refine XW.putI eX7_beginRow_2 f7_15_7 (xP_of rfl (by decide)) rfl ⟨rfl, rfl⟩ hu.1 ?_
      refine XW.aload_n eX7_beginRow_5 rfl ?_
      refine XW.iload_n eX7_beginRow_6 rfl ?_
      refine XW.putI eX7_beginRow_7 f7_19_7 (xP_of rfl (by decide)) rfl ⟨rfl, rfl⟩ hu.1 ?_
      refine XW.aload_n eX7_beginRow_10 rfl ?_
      refine XW.iload_n eX7_beginRow_11 rfl ?_
      refine XW.putI eX7_beginRow_12 f7_23_7 (xP_of rfl (by decide)) rfl ⟨rfl, rfl⟩ hu.1 ?_
      refine XW.iconst (v := 0) eX7_beginRow_15 (by decide) ?_
      refine XW.istore_n (ls' := [some (.ref u), some (.int y1), some (.int y2), some (.int 0)]) eX7_beginRow_16 (Nat.le_of_ble_eq_true rfl) rfl ?_
      exact hk)
  exact h
set_option maxRecDepth 100000 in
set_option maxHeartbeats 4000000 in
theorem VX7_beginRow_17 {l : Launch} {C : xC} {G : xG} (hs : SH G) {u : Nat} (hu : TSh G u) (I : xI) (x1 x2 x3 : Int32) {Q : Unit → xI → Prop} (h :
    ((160 ≤ x3 → Q () I) ∧ (¬ (160 ≤ x3) → vp_in x3 160 ∧ XF fV l C mX7_beginRow 17 [some (.ref u), some (.int x1), some (.int x2), some (.int (x3 + 1))] [] G (wI I (u + 1) x3.toNatClampNeg 0) Q))) : XF fV l C mX7_beginRow 17 [some (.ref u), some (.int x1), some (.int x2), some (.int x3)] [] G I Q := by
  refine XF.lift (pc2 := 21) (ls2 := [some (.ref u), some (.int x1), some (.int x2), some (.int x3)]) (st2 := [.int 160, .int x3]) (I2 := I) ?_ (fun r I' hk => by
      refine XW.iload_n eX7_beginRow_17 rfl ?_
      refine XW.sipush (v := 160) eX7_beginRow_18 (by decide) ?_
      exact hk)
  obtain ⟨ht, hf⟩ := h
  refine XF.br (P := 160 ≤ x3) (fun c_21 => ?_) (fun c_21 => ?_)
  ·
    replace h := ht c_21
    refine XF.lift (pc2 := 37) (ls2 := [some (.ref u), some (.int x1), some (.int x2), some (.int x3)]) (st2 := []) (I2 := I) ?_ (fun r I' hk => by
        refine XW.icmp_ge eX7_beginRow_21 (fun _ => ?_) (fun z => absurd c_21 z)
        exact hk)
    exact ⟨(), I, XW.vret eX7_beginRow_37 rfl rfl rfl rfl, h⟩
  ·
    replace h := hf c_21
    obtain ⟨q_30, h⟩ := h
    refine XF.lift (pc2 := 17) (ls2 := [some (.ref u), some (.int x1), some (.int x2), some (.int (x3 + 1))]) (st2 := []) (I2 := (wI I (u + 1) x3.toNatClampNeg 0)) ?_ (fun r I' hk => by
        refine XW.icmp_ge eX7_beginRow_21 (fun z => absurd z c_21) (fun _ => ?_)
        refine XW.aload_n eX7_beginRow_24 rfl ?_
        refine XW.getR (b := (u + 1)) eX7_beginRow_25 f7_9_7 rfl hu.1 hu.2.1 ?_
        refine XW.iload_n eX7_beginRow_28 rfl ?_
        refine XW.iconst (v := 0) eX7_beginRow_29 (by decide) ?_
        refine XW.iastore eX7_beginRow_30 hu.2.2 q_30 ?_
        refine XW.iinc (y := (x3 + 1)) (ls' := [some (.ref u), some (.int x1), some (.int x2), some (.int (x3 + 1))]) eX7_beginRow_31 rfl rfl rfl ?_
        refine XW.goto eX7_beginRow_34 ?_
        exact hk)
    exact h
set_option maxRecDepth 100000 in
set_option maxHeartbeats 4000000 in
theorem VX7_hasItems {l : Launch} {C : xC} {G : xG} (hs : SH G) {u : Nat} (hu : TSh G u) (I : xI) (y1 y2 : Int32) {Q : Int32 → xI → Prop} (h :
    ((y1 < 0 → Q 0 I) ∧ (¬ (y1 < 0) → ((y2 < 0 → Q 0 I) ∧ (¬ (y2 < 0) → ((((I u 3) - y2) < y1 → Q 0 I) ∧ (¬ (((I u 3) - y2) < y1) → Q 1 I))))))) : XF fI l C mX7_hasItems 0 (xent mX7_hasItems [.ref u, .int y1, .int y2]) [] G I Q := by
  show XF fI l C mX7_hasItems 0 [some (.ref u), some (.int y1), some (.int y2)] [] G I Q
  refine XF.lift (pc2 := 1) (ls2 := [some (.ref u), some (.int y1), some (.int y2)]) (st2 := [.int y1]) (I2 := I) ?_ (fun r I' hk => by
      refine XW.iload_n eX7_hasItems_0 rfl ?_
      exact hk)
  obtain ⟨ht, hf⟩ := h
  refine XF.br (P := y1 < 0) (fun c_1 => ?_) (fun c_1 => ?_)
  ·
    replace h := ht c_1
    refine XF.lift (pc2 := 23) (ls2 := [some (.ref u), some (.int y1), some (.int y2)]) (st2 := [.int 0]) (I2 := I) ?_ (fun r I' hk => by
        refine XW.if_lt eX7_hasItems_1 (fun _ => ?_) (fun z => absurd c_1 z)
        refine XW.iconst (v := 0) eX7_hasItems_22 (by decide) ?_
        exact hk)
    exact ⟨0, I, XW.iret eX7_hasItems_23 rfl rfl rfl rfl rfl, h⟩
  ·
    replace h := hf c_1
    refine XF.lift (pc2 := 5) (ls2 := [some (.ref u), some (.int y1), some (.int y2)]) (st2 := [.int y2]) (I2 := I) ?_ (fun r I' hk => by
        refine XW.if_lt eX7_hasItems_1 (fun z => absurd z c_1) (fun _ => ?_)
        refine XW.iload_n eX7_hasItems_4 rfl ?_
        exact hk)
    obtain ⟨ht, hf⟩ := h
    refine XF.br (P := y2 < 0) (fun c_5 => ?_) (fun c_5 => ?_)
    ·
      replace h := ht c_5
      refine XF.lift (pc2 := 23) (ls2 := [some (.ref u), some (.int y1), some (.int y2)]) (st2 := [.int 0]) (I2 := I) ?_ (fun r I' hk => by
          refine XW.if_lt eX7_hasItems_5 (fun _ => ?_) (fun z => absurd c_5 z)
          refine XW.iconst (v := 0) eX7_hasItems_22 (by decide) ?_
          exact hk)
      exact ⟨0, I, XW.iret eX7_hasItems_23 rfl rfl rfl rfl rfl, h⟩
    ·
      replace h := hf c_5
      refine XF.lift (pc2 := 15) (ls2 := [some (.ref u), some (.int y1), some (.int y2)]) (st2 := [.int ((I u 3) - y2), .int y1]) (I2 := I) ?_ (fun r I' hk => by
          refine XW.if_lt eX7_hasItems_5 (fun z => absurd z c_5) (fun _ => ?_)
          refine XW.iload_n eX7_hasItems_8 rfl ?_
          refine XW.aload_n eX7_hasItems_9 rfl ?_
          refine XW.getI eX7_hasItems_10 f7_23_7 rfl hu.1 ?_
          refine XW.iload_n eX7_hasItems_13 rfl ?_
          refine XW.isub eX7_hasItems_14 ?_
          exact hk)
      obtain ⟨ht, hf⟩ := h
      refine XF.br (P := ((I u 3) - y2) < y1) (fun c_15 => ?_) (fun c_15 => ?_)
      ·
        replace h := ht c_15
        refine XF.lift (pc2 := 23) (ls2 := [some (.ref u), some (.int y1), some (.int y2)]) (st2 := [.int 0]) (I2 := I) ?_ (fun r I' hk => by
            refine XW.icmp_gt eX7_hasItems_15 (fun _ => ?_) (fun z => absurd c_15 z)
            refine XW.iconst (v := 0) eX7_hasItems_22 (by decide) ?_
            exact hk)
        exact ⟨0, I, XW.iret eX7_hasItems_23 rfl rfl rfl rfl rfl, h⟩
      ·
        replace h := hf c_15
        refine XF.lift (pc2 := 23) (ls2 := [some (.ref u), some (.int y1), some (.int y2)]) (st2 := [.int 1]) (I2 := I) ?_ (fun r I' hk => by
            refine XW.icmp_gt eX7_hasItems_15 (fun z => absurd z c_15) (fun _ => ?_)
            refine XW.iconst (v := 1) eX7_hasItems_18 (by decide) ?_
            refine XW.goto eX7_hasItems_19 ?_
            exact hk)
        exact ⟨1, I, XW.iret eX7_hasItems_23 rfl rfl rfl rfl rfl, h⟩
set_option maxRecDepth 100000 in
set_option maxHeartbeats 4000000 in
theorem VX7_put {l : Launch} {C : xC} {G : xG} (hs : SH G) {u : Nat} (hu : TSh G u) (I : xI) (y1 y2 : Int32) {Q : Unit → xI → Prop} (h :
    (((I u 0) = 0 → vp_in y1 160 ∧ Q () (wI I (u + 1) y1.toNatClampNeg (y2).toInt8.toInt32)) ∧ (¬ ((I u 0) = 0) → (((I u 0) = 1 → vp_in y1 160 ∧ Q () (wI I (u + 1) y1.toNatClampNeg (y2).toInt16.toInt32)) ∧ (¬ ((I u 0) = 1) → vp_in y1 160 ∧ Q () (wI I (u + 1) y1.toNatClampNeg y2)))))) : XF fV l C mX7_put 0 (xent mX7_put [.ref u, .int y1, .int y2]) [] G I Q := by
  show XF fV l C mX7_put 0 [some (.ref u), some (.int y1), some (.int y2)] [] G I Q
  refine XF.lift (pc2 := 4) (ls2 := [some (.ref u), some (.int y1), some (.int y2)]) (st2 := [.int (I u 0)]) (I2 := I) ?_ (fun r I' hk => by
      refine XW.aload_n eX7_put_0 rfl ?_
      refine XW.getI eX7_put_1 f7_19_7 rfl hu.1 ?_
      exact hk)
  obtain ⟨ht, hf⟩ := h
  refine XF.br (P := (I u 0) = 0) (fun c_4 => ?_) (fun c_4 => ?_)
  ·
    replace h := ht c_4
    obtain ⟨q_14, h⟩ := h
    refine XF.lift (pc2 := 44) (ls2 := [some (.ref u), some (.int y1), some (.int y2)]) (st2 := []) (I2 := (wI I (u + 1) y1.toNatClampNeg (y2).toInt8.toInt32)) ?_ (fun r I' hk => by
        refine XW.if_ne eX7_put_4 (fun z => absurd c_4 z) (fun _ => ?_)
        refine XW.aload_n eX7_put_7 rfl ?_
        refine XW.getR (b := (u + 1)) eX7_put_8 f7_9_7 rfl hu.1 hu.2.1 ?_
        refine XW.iload_n eX7_put_11 rfl ?_
        refine XW.iload_n eX7_put_12 rfl ?_
        refine XW.i2b eX7_put_13 ?_
        refine XW.iastore eX7_put_14 hu.2.2 q_14 ?_
        refine XW.goto eX7_put_15 ?_
        exact hk)
    exact ⟨(), (wI I (u + 1) y1.toNatClampNeg (y2).toInt8.toInt32), XW.vret eX7_put_44 rfl rfl rfl rfl, h⟩
  ·
    replace h := hf c_4
    refine XF.lift (pc2 := 23) (ls2 := [some (.ref u), some (.int y1), some (.int y2)]) (st2 := [.int 1, .int (I u 0)]) (I2 := I) ?_ (fun r I' hk => by
        refine XW.if_ne eX7_put_4 (fun _ => ?_) (fun z => absurd z c_4)
        refine XW.aload_n eX7_put_18 rfl ?_
        refine XW.getI eX7_put_19 f7_19_7 rfl hu.1 ?_
        refine XW.iconst (v := 1) eX7_put_22 (by decide) ?_
        exact hk)
    obtain ⟨ht, hf⟩ := h
    refine XF.br (P := (I u 0) = 1) (fun c_23 => ?_) (fun c_23 => ?_)
    ·
      replace h := ht c_23
      obtain ⟨q_33, h⟩ := h
      refine XF.lift (pc2 := 44) (ls2 := [some (.ref u), some (.int y1), some (.int y2)]) (st2 := []) (I2 := (wI I (u + 1) y1.toNatClampNeg (y2).toInt16.toInt32)) ?_ (fun r I' hk => by
          refine XW.icmp_ne eX7_put_23 (fun z => absurd c_23 z) (fun _ => ?_)
          refine XW.aload_n eX7_put_26 rfl ?_
          refine XW.getR (b := (u + 1)) eX7_put_27 f7_9_7 rfl hu.1 hu.2.1 ?_
          refine XW.iload_n eX7_put_30 rfl ?_
          refine XW.iload_n eX7_put_31 rfl ?_
          refine XW.i2s eX7_put_32 ?_
          refine XW.iastore eX7_put_33 hu.2.2 q_33 ?_
          refine XW.goto eX7_put_34 ?_
          exact hk)
      exact ⟨(), (wI I (u + 1) y1.toNatClampNeg (y2).toInt16.toInt32), XW.vret eX7_put_44 rfl rfl rfl rfl, h⟩
    ·
      replace h := hf c_23
      obtain ⟨q_43, h⟩ := h
      refine XF.lift (pc2 := 44) (ls2 := [some (.ref u), some (.int y1), some (.int y2)]) (st2 := []) (I2 := (wI I (u + 1) y1.toNatClampNeg y2)) ?_ (fun r I' hk => by
          refine XW.icmp_ne eX7_put_23 (fun _ => ?_) (fun z => absurd z c_23)
          refine XW.aload_n eX7_put_37 rfl ?_
          refine XW.getR (b := (u + 1)) eX7_put_38 f7_9_7 rfl hu.1 hu.2.1 ?_
          refine XW.iload_n eX7_put_41 rfl ?_
          refine XW.iload_n eX7_put_42 rfl ?_
          refine XW.iastore eX7_put_43 hu.2.2 q_43 ?_
          exact hk)
      exact ⟨(), (wI I (u + 1) y1.toNatClampNeg y2), XW.vret eX7_put_44 rfl rfl rfl rfl, h⟩
set_option maxRecDepth 100000 in
set_option maxHeartbeats 4000000 in
theorem VX4_addLetters {l : Launch} {C : xC} {G : xG} (hs : SH G) {w : Nat} (hw : RW G w) (hw0 : 49 ≤ w) {u : Nat} (hu : TSh G u) (I : xI) (y2 y3 : Int32) {Q : Unit → xI → Prop} (h :
    XF fV l C mX4_addLetters 3 [some (.ref w), some (.ref u), some (.int y2), some (.int y3), some (.int 0)] [] G I Q) : XF fV l C mX4_addLetters 0 (xent mX4_addLetters [.ref w, .ref u, .int y2, .int y3]) [] G I Q := by
  show XF fV l C mX4_addLetters 0 [some (.ref w), some (.ref u), some (.int y2), some (.int y3), none] [] G I Q
  refine XF.lift (pc2 := 3) (ls2 := [some (.ref w), some (.ref u), some (.int y2), some (.int y3), some (.int 0)]) (st2 := []) (I2 := I) ?_ (fun r I' hk => by
      refine XW.iconst (v := 0) eX4_addLetters_0 (by decide) ?_
      refine XW.istore (ls' := [some (.ref w), some (.ref u), some (.int y2), some (.int y3), some (.int 0)]) eX4_addLetters_1 (Nat.le_of_ble_eq_true rfl) rfl ?_
      exact hk)
  exact h
set_option maxRecDepth 100000 in
set_option maxHeartbeats 4000000 in
theorem VX4_addLetters_3 {l : Launch} {C : xC} {G : xG} (hs : SH G) {w : Nat} (hw : RW G w) (hw0 : 49 ≤ w) {u : Nat} (hu : TSh G u) (I : xI) (x2 x3 x4 : Int32) {Q : Unit → xI → Prop} (h :
    ((x3 ≤ x4 → Q () I) ∧ (¬ (x3 ≤ x4) → vp_in (x2 + (2 * x4)) 160 ∧ vp_in (I w 2) 80 ∧ vp_in ((x2 + (2 * x4)) + 1) 160 ∧ vp_in ((wI I (w + 1) (I w 2).toNatClampNeg (I (u + 1) (x2 + (2 * x4)).toNatClampNeg)) w 2) 80 ∧ XF fV l C mX4_addLetters 3 [some (.ref w), some (.ref u), some (.int x2), some (.int x3), some (.int (x4 + 1))] [] G (wI (wI (wI I (w + 1) (I w 2).toNatClampNeg (I (u + 1) (x2 + (2 * x4)).toNatClampNeg)) (w + 2) ((wI I (w + 1) (I w 2).toNatClampNeg (I (u + 1) (x2 + (2 * x4)).toNatClampNeg)) w 2).toNatClampNeg ((wI I (w + 1) (I w 2).toNatClampNeg (I (u + 1) (x2 + (2 * x4)).toNatClampNeg)) (u + 1) ((x2 + (2 * x4)) + 1).toNatClampNeg)) w 2 (((wI (wI I (w + 1) (I w 2).toNatClampNeg (I (u + 1) (x2 + (2 * x4)).toNatClampNeg)) (w + 2) ((wI I (w + 1) (I w 2).toNatClampNeg (I (u + 1) (x2 + (2 * x4)).toNatClampNeg)) w 2).toNatClampNeg ((wI I (w + 1) (I w 2).toNatClampNeg (I (u + 1) (x2 + (2 * x4)).toNatClampNeg)) (u + 1) ((x2 + (2 * x4)) + 1).toNatClampNeg)) w 2) + 1)) Q))) : XF fV l C mX4_addLetters 3 [some (.ref w), some (.ref u), some (.int x2), some (.int x3), some (.int x4)] [] G I Q := by
  refine XF.lift (pc2 := 6) (ls2 := [some (.ref w), some (.ref u), some (.int x2), some (.int x3), some (.int x4)]) (st2 := [.int x3, .int x4]) (I2 := I) ?_ (fun r I' hk => by
      refine XW.iload eX4_addLetters_3 rfl ?_
      refine XW.iload_n eX4_addLetters_5 rfl ?_
      exact hk)
  obtain ⟨ht, hf⟩ := h
  refine XF.br (P := x3 ≤ x4) (fun c_6 => ?_) (fun c_6 => ?_)
  ·
    replace h := ht c_6
    refine XF.lift (pc2 := 67) (ls2 := [some (.ref w), some (.ref u), some (.int x2), some (.int x3), some (.int x4)]) (st2 := []) (I2 := I) ?_ (fun r I' hk => by
        refine XW.icmp_ge eX4_addLetters_6 (fun _ => ?_) (fun z => absurd c_6 z)
        exact hk)
    exact ⟨(), I, XW.vret eX4_addLetters_67 rfl rfl rfl rfl, h⟩
  ·
    replace h := hf c_6
    obtain ⟨q_27, h⟩ := h
    obtain ⟨q_28, h⟩ := h
    obtain ⟨q_49, h⟩ := h
    obtain ⟨q_50, h⟩ := h
    refine XF.lift (pc2 := 3) (ls2 := [some (.ref w), some (.ref u), some (.int x2), some (.int x3), some (.int (x4 + 1))]) (st2 := []) (I2 := (wI (wI (wI I (w + 1) (I w 2).toNatClampNeg (I (u + 1) (x2 + (2 * x4)).toNatClampNeg)) (w + 2) ((wI I (w + 1) (I w 2).toNatClampNeg (I (u + 1) (x2 + (2 * x4)).toNatClampNeg)) w 2).toNatClampNeg ((wI I (w + 1) (I w 2).toNatClampNeg (I (u + 1) (x2 + (2 * x4)).toNatClampNeg)) (u + 1) ((x2 + (2 * x4)) + 1).toNatClampNeg)) w 2 (((wI (wI I (w + 1) (I w 2).toNatClampNeg (I (u + 1) (x2 + (2 * x4)).toNatClampNeg)) (w + 2) ((wI I (w + 1) (I w 2).toNatClampNeg (I (u + 1) (x2 + (2 * x4)).toNatClampNeg)) w 2).toNatClampNeg ((wI I (w + 1) (I w 2).toNatClampNeg (I (u + 1) (x2 + (2 * x4)).toNatClampNeg)) (u + 1) ((x2 + (2 * x4)) + 1).toNatClampNeg)) w 2) + 1))) ?_ (fun r I' hk => by
        refine XW.icmp_ge eX4_addLetters_6 (fun z => absurd z c_6) (fun _ => ?_)
        refine XW.aload_n eX4_addLetters_9 rfl ?_
        refine XW.getR (b := (w + 1)) eX4_addLetters_10 f4_9_4 rfl hw.1 hw.2.1 ?_
        refine XW.aload_n eX4_addLetters_13 rfl ?_
        refine XW.getI eX4_addLetters_14 f4_18_4 rfl hw.1 ?_
        refine XW.aload_n eX4_addLetters_17 rfl ?_
        refine XW.getR (b := (u + 1)) eX4_addLetters_18 f4_22_7 rfl hu.1 hu.2.1 ?_
        refine XW.iload_n eX4_addLetters_21 rfl ?_
        refine XW.iconst (v := 2) eX4_addLetters_22 (by decide) ?_
        refine XW.iload eX4_addLetters_23 rfl ?_
        refine XW.imul eX4_addLetters_25 ?_
        refine XW.iadd eX4_addLetters_26 ?_
        refine XW.iaload eX4_addLetters_27 hu.2.2 q_27 ?_
        refine XW.iastore eX4_addLetters_28 hw.2.2.2.1 q_28 ?_
        refine XW.aload_n eX4_addLetters_29 rfl ?_
        refine XW.getR (b := (w + 2)) eX4_addLetters_30 f4_15_4 rfl hw.1 hw.2.2.1 ?_
        refine XW.aload_n eX4_addLetters_33 rfl ?_
        refine XW.getI eX4_addLetters_34 f4_18_4 rfl hw.1 ?_
        refine XW.aload_n eX4_addLetters_37 rfl ?_
        refine XW.getR (b := (u + 1)) eX4_addLetters_38 f4_22_7 rfl hu.1 hu.2.1 ?_
        refine XW.iload_n eX4_addLetters_41 rfl ?_
        refine XW.iconst (v := 2) eX4_addLetters_42 (by decide) ?_
        refine XW.iload eX4_addLetters_43 rfl ?_
        refine XW.imul eX4_addLetters_45 ?_
        refine XW.iadd eX4_addLetters_46 ?_
        refine XW.iconst (v := 1) eX4_addLetters_47 (by decide) ?_
        refine XW.iadd eX4_addLetters_48 ?_
        refine XW.iaload eX4_addLetters_49 hu.2.2 q_49 ?_
        refine XW.iastore eX4_addLetters_50 hw.2.2.2.2 q_50 ?_
        refine XW.aload_n eX4_addLetters_51 rfl ?_
        refine XW.dup eX4_addLetters_52 rfl ?_
        refine XW.getI eX4_addLetters_53 f4_18_4 rfl hw.1 ?_
        refine XW.iconst (v := 1) eX4_addLetters_56 (by decide) ?_
        refine XW.iadd eX4_addLetters_57 ?_
        refine XW.putI eX4_addLetters_58 f4_18_4 (xP_of rfl (by decide)) rfl ⟨rfl, rfl⟩ hw.1 ?_
        refine XW.iinc (y := (x4 + 1)) (ls' := [some (.ref w), some (.ref u), some (.int x2), some (.int x3), some (.int (x4 + 1))]) eX4_addLetters_61 rfl rfl rfl ?_
        refine XW.goto eX4_addLetters_64 ?_
        exact hk)
    exact h
set_option maxRecDepth 100000 in
set_option maxHeartbeats 4000000 in
theorem VX4_lastTick {l : Launch} {C : xC} {G : xG} (hs : SH G) {w : Nat} (hw : RW G w) (hw0 : 49 ≤ w) (I : xI) {Q : Int32 → xI → Prop} (h :
    (((I w 2) = 0 → Q 0 I) ∧ (¬ ((I w 2) = 0) → vp_in ((I w 2) - 1) 80 ∧ Q (I (w + 1) ((I w 2) - 1).toNatClampNeg) I))) : XF fI l C mX4_lastTick 0 (xent mX4_lastTick [.ref w]) [] G I Q := by
  show XF fI l C mX4_lastTick 0 [some (.ref w)] [] G I Q
  refine XF.lift (pc2 := 4) (ls2 := [some (.ref w)]) (st2 := [.int (I w 2)]) (I2 := I) ?_ (fun r I' hk => by
      refine XW.aload_n eX4_lastTick_0 rfl ?_
      refine XW.getI eX4_lastTick_1 f4_18_4 rfl hw.1 ?_
      exact hk)
  obtain ⟨ht, hf⟩ := h
  refine XF.br (P := (I w 2) = 0) (fun c_4 => ?_) (fun c_4 => ?_)
  ·
    replace h := ht c_4
    refine XF.lift (pc2 := 22) (ls2 := [some (.ref w)]) (st2 := [.int 0]) (I2 := I) ?_ (fun r I' hk => by
        refine XW.if_ne eX4_lastTick_4 (fun z => absurd c_4 z) (fun _ => ?_)
        refine XW.iconst (v := 0) eX4_lastTick_7 (by decide) ?_
        refine XW.goto eX4_lastTick_8 ?_
        exact hk)
    exact ⟨0, I, XW.iret eX4_lastTick_22 rfl rfl rfl rfl rfl, h⟩
  ·
    replace h := hf c_4
    obtain ⟨q_21, h⟩ := h
    refine XF.lift (pc2 := 22) (ls2 := [some (.ref w)]) (st2 := [.int (I (w + 1) ((I w 2) - 1).toNatClampNeg)]) (I2 := I) ?_ (fun r I' hk => by
        refine XW.if_ne eX4_lastTick_4 (fun _ => ?_) (fun z => absurd z c_4)
        refine XW.aload_n eX4_lastTick_11 rfl ?_
        refine XW.getR (b := (w + 1)) eX4_lastTick_12 f4_9_4 rfl hw.1 hw.2.1 ?_
        refine XW.aload_n eX4_lastTick_15 rfl ?_
        refine XW.getI eX4_lastTick_16 f4_18_4 rfl hw.1 ?_
        refine XW.iconst (v := 1) eX4_lastTick_19 (by decide) ?_
        refine XW.isub eX4_lastTick_20 ?_
        refine XW.iaload eX4_lastTick_21 hw.2.2.2.1 q_21 ?_
        exact hk)
    exact ⟨(I (w + 1) ((I w 2) - 1).toNatClampNeg), I, XW.iret eX4_lastTick_22 rfl rfl rfl rfl rfl, h⟩
set_option maxRecDepth 100000 in
set_option maxHeartbeats 4000000 in
theorem VX6_lineAt {l : Launch} {C : xC} {G : xG} (hs : SH G)  (I : xI) (y1 : Int32) {Q : Nat → xI → Prop} (h :
    (∃ Qc : Int32 → xI → Prop, XF fI l C mX9_isWithin 0 (xent mX9_isWithin [.int y1, .int 0, .int ((I 3 1) - 1)]) [] G I Qc ∧ ∀ (v_8 : Int32) (I_8 : xI), Qc v_8 I_8 → ((v_8 = 0 → Q 0 I_8) ∧ (¬ (v_8 = 0) → vp_in y1 4 ∧ Q (gR G 4 y1.toNatClampNeg) I_8)))) : XF fR l C mX6_lineAt 0 (xent mX6_lineAt [.ref 3, .int y1]) [] G I Q := by
  show XF fR l C mX6_lineAt 0 [some (.ref 3), some (.int y1)] [] G I Q
  refine XF.lift (pc2 := 8) (ls2 := [some (.ref 3), some (.int y1)]) (st2 := [.int ((I 3 1) - 1), .int 0, .int y1]) (I2 := I) ?_ (fun r I' hk => by
      refine XW.iload_n eX6_lineAt_0 rfl ?_
      refine XW.iconst (v := 0) eX6_lineAt_1 (by decide) ?_
      refine XW.aload_n eX6_lineAt_2 rfl ?_
      refine XW.getI eX6_lineAt_3 f6_17_6 rfl (so_3 hs) ?_
      refine XW.iconst (v := 1) eX6_lineAt_6 (by decide) ?_
      refine XW.isub eX6_lineAt_7 ?_
      exact hk)
  obtain ⟨Qc, hc, h⟩ := h
  refine XF.call (nx := 11) (st := []) hc (fun v I1 r I' hY hk => XW.callSN (As := [.int y1, .int 0, .int ((I 3 1) - 1)]) (st := []) eX6_lineAt_8 okX9_isWithin cn6_30 rfl hY (xnum rfl rfl rfl rfl rfl) hk) (fun v_8 I_8 hq => ?_)
  replace h := h v_8 I_8 hq
  obtain ⟨ht, hf⟩ := h
  refine XF.br (P := v_8 = 0) (fun c_11 => ?_) (fun c_11 => ?_)
  ·
    replace h := ht c_11
    refine XF.lift (pc2 := 24) (ls2 := [some (.ref 3), some (.int y1)]) (st2 := [.ref 0]) (I2 := I_8) ?_ (fun r I' hk => by
        refine XW.if_eq eX6_lineAt_11 (fun _ => ?_) (fun z => absurd c_11 z)
        refine XW.anull eX6_lineAt_23 ?_
        exact hk)
    exact ⟨0, I_8, XW.aret eX6_lineAt_24 rfl (Or.inl ⟨_, rfl⟩) rfl rfl rfl, h⟩
  ·
    replace h := hf c_11
    obtain ⟨q_19, h⟩ := h
    refine XF.lift (pc2 := 24) (ls2 := [some (.ref 3), some (.int y1)]) (st2 := [.ref (gR G 4 y1.toNatClampNeg)]) (I2 := I_8) ?_ (fun r I' hk => by
        refine XW.if_eq eX6_lineAt_11 (fun z => absurd z c_11) (fun _ => ?_)
        refine XW.aload_n eX6_lineAt_14 rfl ?_
        refine XW.getR (b := 4) eX6_lineAt_15 f6_11_6 rfl (so_3 hs) (sr_3_0 hs) ?_
        refine XW.iload_n eX6_lineAt_18 rfl ?_
        refine XW.aaload (b := (gR G 4 y1.toNatClampNeg)) eX6_lineAt_19 (sa_4 hs) ⟨by decide, rfl⟩ q_19 rfl ?_
        refine XW.goto eX6_lineAt_20 ?_
        exact hk)
    exact ⟨(gR G 4 y1.toNatClampNeg), I_8, XW.aret eX6_lineAt_24 rfl (Or.inl ⟨_, rfl⟩) rfl rfl rfl, h⟩
set_option maxRecDepth 100000 in
set_option maxHeartbeats 4000000 in
theorem VX6_partsTogether {l : Launch} {C : xC} {G : xG} (hs : SH G)  (I : xI) {Q : Int32 → xI → Prop} (h :
    XF fI l C mX6_partsTogether 4 [some (.ref 3), some (.int 0), some (.int 0)] [] G I Q) : XF fI l C mX6_partsTogether 0 (xent mX6_partsTogether [.ref 3]) [] G I Q := by
  show XF fI l C mX6_partsTogether 0 [some (.ref 3), none, none] [] G I Q
  refine XF.lift (pc2 := 4) (ls2 := [some (.ref 3), some (.int 0), some (.int 0)]) (st2 := []) (I2 := I) ?_ (fun r I' hk => by
      refine XW.iconst (v := 0) eX6_partsTogether_0 (by decide) ?_
      refine XW.istore_n (ls' := [some (.ref 3), some (.int 0), none]) eX6_partsTogether_1 (Nat.le_of_ble_eq_true rfl) rfl ?_
      refine XW.iconst (v := 0) eX6_partsTogether_2 (by decide) ?_
      refine XW.istore_n (ls' := [some (.ref 3), some (.int 0), some (.int 0)]) eX6_partsTogether_3 (Nat.le_of_ble_eq_true rfl) rfl ?_
      exact hk)
  exact h
set_option maxRecDepth 100000 in
set_option maxHeartbeats 4000000 in
theorem VX6_partsTogether_4 {l : Launch} {C : xC} {G : xG} (hs : SH G)  (I : xI) (x1 x2 : Int32) {Q : Int32 → xI → Prop} (h :
    (((I 3 1) ≤ x2 → Q x1 I) ∧ (¬ ((I 3 1) ≤ x2) → vp_in x2 4 ∧ LN G (gR G 4 x2.toNatClampNeg) ∧ XF fI l C mX6_partsTogether 4 [some (.ref 3), some (.int (x1 + (kpt G I (gR G 4 x2.toNatClampNeg)))), some (.int (x2 + 1))] [] G I Q))) : XF fI l C mX6_partsTogether 4 [some (.ref 3), some (.int x1), some (.int x2)] [] G I Q := by
  refine XF.lift (pc2 := 9) (ls2 := [some (.ref 3), some (.int x1), some (.int x2)]) (st2 := [.int (I 3 1), .int x2]) (I2 := I) ?_ (fun r I' hk => by
      refine XW.iload_n eX6_partsTogether_4 rfl ?_
      refine XW.aload_n eX6_partsTogether_5 rfl ?_
      refine XW.getI eX6_partsTogether_6 f6_17_6 rfl (so_3 hs) ?_
      exact hk)
  obtain ⟨ht, hf⟩ := h
  refine XF.br (P := (I 3 1) ≤ x2) (fun c_9 => ?_) (fun c_9 => ?_)
  ·
    replace h := ht c_9
    refine XF.lift (pc2 := 31) (ls2 := [some (.ref 3), some (.int x1), some (.int x2)]) (st2 := [.int x1]) (I2 := I) ?_ (fun r I' hk => by
        refine XW.icmp_ge eX6_partsTogether_9 (fun _ => ?_) (fun z => absurd c_9 z)
        refine XW.iload_n eX6_partsTogether_30 rfl ?_
        exact hk)
    exact ⟨x1, I, XW.iret eX6_partsTogether_31 rfl rfl rfl rfl rfl, h⟩
  ·
    replace h := hf c_9
    obtain ⟨q_18, h⟩ := h
    obtain ⟨n_19, h⟩ := h
    refine XF.lift (pc2 := 4) (ls2 := [some (.ref 3), some (.int (x1 + (kpt G I (gR G 4 x2.toNatClampNeg)))), some (.int (x2 + 1))]) (st2 := []) (I2 := I) ?_ (fun r I' hk => by
        refine XW.icmp_ge eX6_partsTogether_9 (fun z => absurd z c_9) (fun _ => ?_)
        refine XW.iload_n eX6_partsTogether_12 rfl ?_
        refine XW.aload_n eX6_partsTogether_13 rfl ?_
        refine XW.getR (b := 4) eX6_partsTogether_14 f6_11_6 rfl (so_3 hs) (sr_3_0 hs) ?_
        refine XW.iload_n eX6_partsTogether_17 rfl ?_
        refine XW.aaload (b := (gR G 4 x2.toNatClampNeg)) eX6_partsTogether_18 (sa_4 hs) ⟨by decide, rfl⟩ q_18 rfl ?_
        refine XW.kept eX6_partsTogether_19 co6_34_2 co6_34_8 co6_34_1 n_19 (Nat.le_of_ble_eq_true rfl) (Nat.le_of_ble_eq_true rfl) ?_
        refine XW.iadd eX6_partsTogether_22 ?_
        refine XW.istore_n (ls' := [some (.ref 3), some (.int (x1 + (kpt G I (gR G 4 x2.toNatClampNeg)))), some (.int x2)]) eX6_partsTogether_23 (Nat.le_of_ble_eq_true rfl) rfl ?_
        refine XW.iinc (y := (x2 + 1)) (ls' := [some (.ref 3), some (.int (x1 + (kpt G I (gR G 4 x2.toNatClampNeg)))), some (.int (x2 + 1))]) eX6_partsTogether_24 rfl rfl rfl ?_
        refine XW.goto eX6_partsTogether_27 ?_
        exact hk)
    exact h
set_option maxRecDepth 100000 in
set_option maxHeartbeats 4000000 in
theorem VX0_longestStay {l : Launch} {C : xC} {G : xG} (hs : SH G)  (I : xI) (y1 : Int32) {Q : Int32 → xI → Prop} (h :
    XF fI l C mX0_longestStay 4 [some (.ref 44), some (.int y1), some (.int 0), some (.int 1)] [] G I Q) : XF fI l C mX0_longestStay 0 (xent mX0_longestStay [.ref 44, .int y1]) [] G I Q := by
  show XF fI l C mX0_longestStay 0 [some (.ref 44), some (.int y1), none, none] [] G I Q
  refine XF.lift (pc2 := 4) (ls2 := [some (.ref 44), some (.int y1), some (.int 0), some (.int 1)]) (st2 := []) (I2 := I) ?_ (fun r I' hk => by
      refine XW.iconst (v := 0) eX0_longestStay_0 (by decide) ?_
      refine XW.istore_n (ls' := [some (.ref 44), some (.int y1), some (.int 0), none]) eX0_longestStay_1 (Nat.le_of_ble_eq_true rfl) rfl ?_
      refine XW.iconst (v := 1) eX0_longestStay_2 (by decide) ?_
      refine XW.istore_n (ls' := [some (.ref 44), some (.int y1), some (.int 0), some (.int 1)]) eX0_longestStay_3 (Nat.le_of_ble_eq_true rfl) rfl ?_
      exact hk)
  exact h
set_option maxRecDepth 100000 in
set_option maxHeartbeats 4000000 in
theorem VX0_longestStay_4 {l : Launch} {C : xC} {G : xG} (hs : SH G)  (I : xI) (x1 x2 x3 : Int32) {Q : Int32 → xI → Prop} (h :
    ((x1 < x3 → Q x2 I) ∧ (¬ (x1 < x3) → vp_in x3 80 ∧ vp_in x2 80 ∧ (((I 45 x3.toNatClampNeg) ≤ (I 45 x2.toNatClampNeg) → XF fI l C mX0_longestStay 4 [some (.ref 44), some (.int x1), some (.int x2), some (.int (x3 + 1))] [] G I Q) ∧ (¬ ((I 45 x3.toNatClampNeg) ≤ (I 45 x2.toNatClampNeg)) → XF fI l C mX0_longestStay 4 [some (.ref 44), some (.int x1), some (.int x3), some (.int (x3 + 1))] [] G I Q))))) : XF fI l C mX0_longestStay 4 [some (.ref 44), some (.int x1), some (.int x2), some (.int x3)] [] G I Q := by
  refine XF.lift (pc2 := 6) (ls2 := [some (.ref 44), some (.int x1), some (.int x2), some (.int x3)]) (st2 := [.int x1, .int x3]) (I2 := I) ?_ (fun r I' hk => by
      refine XW.iload_n eX0_longestStay_4 rfl ?_
      refine XW.iload_n eX0_longestStay_5 rfl ?_
      exact hk)
  obtain ⟨ht, hf⟩ := h
  refine XF.br (P := x1 < x3) (fun c_6 => ?_) (fun c_6 => ?_)
  ·
    replace h := ht c_6
    refine XF.lift (pc2 := 33) (ls2 := [some (.ref 44), some (.int x1), some (.int x2), some (.int x3)]) (st2 := [.int x2]) (I2 := I) ?_ (fun r I' hk => by
        refine XW.icmp_gt eX0_longestStay_6 (fun _ => ?_) (fun z => absurd c_6 z)
        refine XW.iload_n eX0_longestStay_32 rfl ?_
        exact hk)
    exact ⟨x2, I, XW.iret eX0_longestStay_33 rfl rfl rfl rfl rfl, h⟩
  ·
    replace h := hf c_6
    obtain ⟨q_14, h⟩ := h
    obtain ⟨q_20, h⟩ := h
    refine XF.lift (pc2 := 21) (ls2 := [some (.ref 44), some (.int x1), some (.int x2), some (.int x3)]) (st2 := [.int (I 45 x2.toNatClampNeg), .int (I 45 x3.toNatClampNeg)]) (I2 := I) ?_ (fun r I' hk => by
        refine XW.icmp_gt eX0_longestStay_6 (fun z => absurd z c_6) (fun _ => ?_)
        refine XW.aload_n eX0_longestStay_9 rfl ?_
        refine XW.getR (b := 45) eX0_longestStay_10 f0_9_0 rfl (so_44 hs) (sr_44_1 hs) ?_
        refine XW.iload_n eX0_longestStay_13 rfl ?_
        refine XW.iaload eX0_longestStay_14 (sa_45 hs) q_14 ?_
        refine XW.aload_n eX0_longestStay_15 rfl ?_
        refine XW.getR (b := 45) eX0_longestStay_16 f0_9_0 rfl (so_44 hs) (sr_44_1 hs) ?_
        refine XW.iload_n eX0_longestStay_19 rfl ?_
        refine XW.iaload eX0_longestStay_20 (sa_45 hs) q_20 ?_
        exact hk)
    obtain ⟨ht, hf⟩ := h
    refine XF.br (P := (I 45 x3.toNatClampNeg) ≤ (I 45 x2.toNatClampNeg)) (fun c_21 => ?_) (fun c_21 => ?_)
    ·
      replace h := ht c_21
      refine XF.lift (pc2 := 4) (ls2 := [some (.ref 44), some (.int x1), some (.int x2), some (.int (x3 + 1))]) (st2 := []) (I2 := I) ?_ (fun r I' hk => by
          refine XW.icmp_le eX0_longestStay_21 (fun _ => ?_) (fun z => absurd c_21 z)
          refine XW.iinc (y := (x3 + 1)) (ls' := [some (.ref 44), some (.int x1), some (.int x2), some (.int (x3 + 1))]) eX0_longestStay_26 rfl rfl rfl ?_
          refine XW.goto eX0_longestStay_29 ?_
          exact hk)
      exact h
    ·
      replace h := hf c_21
      refine XF.lift (pc2 := 4) (ls2 := [some (.ref 44), some (.int x1), some (.int x3), some (.int (x3 + 1))]) (st2 := []) (I2 := I) ?_ (fun r I' hk => by
          refine XW.icmp_le eX0_longestStay_21 (fun z => absurd z c_21) (fun _ => ?_)
          refine XW.iload_n eX0_longestStay_24 rfl ?_
          refine XW.istore_n (ls' := [some (.ref 44), some (.int x1), some (.int x3), some (.int x3)]) eX0_longestStay_25 (Nat.le_of_ble_eq_true rfl) rfl ?_
          refine XW.iinc (y := (x3 + 1)) (ls' := [some (.ref 44), some (.int x1), some (.int x3), some (.int (x3 + 1))]) eX0_longestStay_26 rfl rfl rfl ?_
          refine XW.goto eX0_longestStay_29 ?_
          exact hk)
      exact h
set_option maxRecDepth 100000 in
set_option maxHeartbeats 4000000 in
theorem VX0_staysAt {l : Launch} {C : xC} {G : xG} (hs : SH G)  (I : xI) (y1 y2 : Int32) {Q : Int32 → xI → Prop} (h :
    XF fI l C mX0_staysAt 5 [some (.ref 44), some (.int y1), some (.int y2), some (.int 0), some (.int 0)] [] G I Q) : XF fI l C mX0_staysAt 0 (xent mX0_staysAt [.ref 44, .int y1, .int y2]) [] G I Q := by
  show XF fI l C mX0_staysAt 0 [some (.ref 44), some (.int y1), some (.int y2), none, none] [] G I Q
  refine XF.lift (pc2 := 5) (ls2 := [some (.ref 44), some (.int y1), some (.int y2), some (.int 0), some (.int 0)]) (st2 := []) (I2 := I) ?_ (fun r I' hk => by
      refine XW.iconst (v := 0) eX0_staysAt_0 (by decide) ?_
      refine XW.istore_n (ls' := [some (.ref 44), some (.int y1), some (.int y2), some (.int 0), none]) eX0_staysAt_1 (Nat.le_of_ble_eq_true rfl) rfl ?_
      refine XW.iconst (v := 0) eX0_staysAt_2 (by decide) ?_
      refine XW.istore (ls' := [some (.ref 44), some (.int y1), some (.int y2), some (.int 0), some (.int 0)]) eX0_staysAt_3 (Nat.le_of_ble_eq_true rfl) rfl ?_
      exact hk)
  exact h
set_option maxRecDepth 100000 in
set_option maxHeartbeats 4000000 in
theorem VX0_staysAt_5 {l : Launch} {C : xC} {G : xG} (hs : SH G)  (I : xI) (x1 x2 x3 x4 : Int32) {Q : Int32 → xI → Prop} (h :
    ((x2 < x4 → Q x3 I) ∧ (¬ (x2 < x4) → vp_in x4 80 ∧ (((I 45 x4.toNatClampNeg) < x1 → XF fI l C mX0_staysAt 5 [some (.ref 44), some (.int x1), some (.int x2), some (.int x3), some (.int (x4 + 1))] [] G I Q) ∧ (¬ ((I 45 x4.toNatClampNeg) < x1) → XF fI l C mX0_staysAt 5 [some (.ref 44), some (.int x1), some (.int x2), some (.int (x3 + 1)), some (.int (x4 + 1))] [] G I Q))))) : XF fI l C mX0_staysAt 5 [some (.ref 44), some (.int x1), some (.int x2), some (.int x3), some (.int x4)] [] G I Q := by
  refine XF.lift (pc2 := 8) (ls2 := [some (.ref 44), some (.int x1), some (.int x2), some (.int x3), some (.int x4)]) (st2 := [.int x2, .int x4]) (I2 := I) ?_ (fun r I' hk => by
      refine XW.iload eX0_staysAt_5 rfl ?_
      refine XW.iload_n eX0_staysAt_7 rfl ?_
      exact hk)
  obtain ⟨ht, hf⟩ := h
  refine XF.br (P := x2 < x4) (fun c_8 => ?_) (fun c_8 => ?_)
  ·
    replace h := ht c_8
    refine XF.lift (pc2 := 32) (ls2 := [some (.ref 44), some (.int x1), some (.int x2), some (.int x3), some (.int x4)]) (st2 := [.int x3]) (I2 := I) ?_ (fun r I' hk => by
        refine XW.icmp_gt eX0_staysAt_8 (fun _ => ?_) (fun z => absurd c_8 z)
        refine XW.iload_n eX0_staysAt_31 rfl ?_
        exact hk)
    exact ⟨x3, I, XW.iret eX0_staysAt_32 rfl rfl rfl rfl rfl, h⟩
  ·
    replace h := hf c_8
    obtain ⟨q_17, h⟩ := h
    refine XF.lift (pc2 := 19) (ls2 := [some (.ref 44), some (.int x1), some (.int x2), some (.int x3), some (.int x4)]) (st2 := [.int x1, .int (I 45 x4.toNatClampNeg)]) (I2 := I) ?_ (fun r I' hk => by
        refine XW.icmp_gt eX0_staysAt_8 (fun z => absurd z c_8) (fun _ => ?_)
        refine XW.aload_n eX0_staysAt_11 rfl ?_
        refine XW.getR (b := 45) eX0_staysAt_12 f0_9_0 rfl (so_44 hs) (sr_44_1 hs) ?_
        refine XW.iload eX0_staysAt_15 rfl ?_
        refine XW.iaload eX0_staysAt_17 (sa_45 hs) q_17 ?_
        refine XW.iload_n eX0_staysAt_18 rfl ?_
        exact hk)
    obtain ⟨ht, hf⟩ := h
    refine XF.br (P := (I 45 x4.toNatClampNeg) < x1) (fun c_19 => ?_) (fun c_19 => ?_)
    ·
      replace h := ht c_19
      refine XF.lift (pc2 := 5) (ls2 := [some (.ref 44), some (.int x1), some (.int x2), some (.int x3), some (.int (x4 + 1))]) (st2 := []) (I2 := I) ?_ (fun r I' hk => by
          refine XW.icmp_lt eX0_staysAt_19 (fun _ => ?_) (fun z => absurd c_19 z)
          refine XW.iinc (y := (x4 + 1)) (ls' := [some (.ref 44), some (.int x1), some (.int x2), some (.int x3), some (.int (x4 + 1))]) eX0_staysAt_25 rfl rfl rfl ?_
          refine XW.goto eX0_staysAt_28 ?_
          exact hk)
      exact h
    ·
      replace h := hf c_19
      refine XF.lift (pc2 := 5) (ls2 := [some (.ref 44), some (.int x1), some (.int x2), some (.int (x3 + 1)), some (.int (x4 + 1))]) (st2 := []) (I2 := I) ?_ (fun r I' hk => by
          refine XW.icmp_lt eX0_staysAt_19 (fun z => absurd z c_19) (fun _ => ?_)
          refine XW.iinc (y := (x3 + 1)) (ls' := [some (.ref 44), some (.int x1), some (.int x2), some (.int (x3 + 1)), some (.int x4)]) eX0_staysAt_22 rfl rfl rfl ?_
          refine XW.iinc (y := (x4 + 1)) (ls' := [some (.ref 44), some (.int x1), some (.int x2), some (.int (x3 + 1)), some (.int (x4 + 1))]) eX0_staysAt_25 rfl rfl rfl ?_
          refine XW.goto eX0_staysAt_28 ?_
          exact hk)
      exact h
set_option maxRecDepth 100000 in
set_option maxHeartbeats 4000000 in
theorem VX0_popYoungest {l : Launch} {C : xC} {G : xG} (hs : SH G)  (I : xI) (y1 : Int32) {Q : Int32 → xI → Prop} (h :
    XF fI l C mX0_popYoungest 4 [some (.ref 44), some (.int y1), some (.int 0), some (.int 0), none] [] G I Q) : XF fI l C mX0_popYoungest 0 (xent mX0_popYoungest [.ref 44, .int y1]) [] G I Q := by
  show XF fI l C mX0_popYoungest 0 [some (.ref 44), some (.int y1), none, none, none] [] G I Q
  refine XF.lift (pc2 := 4) (ls2 := [some (.ref 44), some (.int y1), some (.int 0), some (.int 0), none]) (st2 := []) (I2 := I) ?_ (fun r I' hk => by
      refine XW.iconst (v := 0) eX0_popYoungest_0 (by decide) ?_
      refine XW.istore_n (ls' := [some (.ref 44), some (.int y1), some (.int 0), none, none]) eX0_popYoungest_1 (Nat.le_of_ble_eq_true rfl) rfl ?_
      refine XW.iconst (v := 0) eX0_popYoungest_2 (by decide) ?_
      refine XW.istore_n (ls' := [some (.ref 44), some (.int y1), some (.int 0), some (.int 0), none]) eX0_popYoungest_3 (Nat.le_of_ble_eq_true rfl) rfl ?_
      exact hk)
  exact h
set_option maxRecDepth 100000 in
set_option maxHeartbeats 4000000 in
theorem VX0_popYoungest_4 {l : Launch} {C : xC} {G : xG} (hs : SH G)  (I : xI) (x1 x2 x3 : Int32) {Q : Int32 → xI → Prop} (h :
    (((I 3 1) ≤ x3 → Q x2 I) ∧ (¬ ((I 3 1) ≤ x3) → vp_in x3 4 ∧ (((I 47 x3.toNatClampNeg) = (-1) → XF fI l C mX0_popYoungest 4 [some (.ref 44), some (.int x1), some (.int x2), some (.int (x3 + 1)), none] [] G I Q) ∧ (¬ ((I 47 x3.toNatClampNeg) = (-1)) → LN G (gR G 4 x3.toNatClampNeg) ∧ ((SA (I (gR G 4 x3.toNatClampNeg) 1) x1 → vp_in (I 47 x3.toNatClampNeg) 80 ∧ XF fI l C mX0_popYoungest 4 [some (.ref 44), some (.int x1), some (.int (x2 + 1)), some (.int (x3 + 1)), none] [] G (wI (wI I 45 (I 47 x3.toNatClampNeg).toNatClampNeg x1) 47 x3.toNatClampNeg (I 46 (I 47 x3.toNatClampNeg).toNatClampNeg)) Q) ∧ (¬ (SA (I (gR G 4 x3.toNatClampNeg) 1) x1) → XF fI l C mX0_popYoungest 4 [some (.ref 44), some (.int x1), some (.int x2), some (.int (x3 + 1)), none] [] G I Q))))))) : XF fI l C mX0_popYoungest 4 [some (.ref 44), some (.int x1), some (.int x2), some (.int x3), none] [] G I Q := by
  refine XF.lift (pc2 := 12) (ls2 := [some (.ref 44), some (.int x1), some (.int x2), some (.int x3), none]) (st2 := [.int (I 3 1), .int x3]) (I2 := I) ?_ (fun r I' hk => by
      refine XW.iload_n eX0_popYoungest_4 rfl ?_
      refine XW.aload_n eX0_popYoungest_5 rfl ?_
      refine XW.getR (b := 3) eX0_popYoungest_6 f0_24_0 rfl (so_44 hs) (sr_44_0 hs) ?_
      refine XW.getI eX0_popYoungest_9 f0_60_6 rfl (so_3 hs) ?_
      exact hk)
  obtain ⟨ht, hf⟩ := h
  refine XF.br (P := (I 3 1) ≤ x3) (fun c_12 => ?_) (fun c_12 => ?_)
  ·
    replace h := ht c_12
    refine XF.lift (pc2 := 76) (ls2 := [some (.ref 44), some (.int x1), some (.int x2), some (.int x3), none]) (st2 := [.int x2]) (I2 := I) ?_ (fun r I' hk => by
        refine XW.icmp_ge eX0_popYoungest_12 (fun _ => ?_) (fun z => absurd c_12 z)
        refine XW.iload_n eX0_popYoungest_75 rfl ?_
        exact hk)
    exact ⟨x2, I, XW.iret eX0_popYoungest_76 rfl rfl rfl rfl rfl, h⟩
  ·
    replace h := hf c_12
    obtain ⟨q_20, h⟩ := h
    refine XF.lift (pc2 := 26) (ls2 := [some (.ref 44), some (.int x1), some (.int x2), some (.int x3), some (.int (I 47 x3.toNatClampNeg))]) (st2 := [.int (-1), .int (I 47 x3.toNatClampNeg)]) (I2 := I) ?_ (fun r I' hk => by
        refine XW.icmp_ge eX0_popYoungest_12 (fun z => absurd z c_12) (fun _ => ?_)
        refine XW.aload_n eX0_popYoungest_15 rfl ?_
        refine XW.getR (b := 47) eX0_popYoungest_16 f0_18_0 rfl (so_44 hs) (sr_44_3 hs) ?_
        refine XW.iload_n eX0_popYoungest_19 rfl ?_
        refine XW.iaload eX0_popYoungest_20 (sa_47 hs) q_20 ?_
        refine XW.istore (ls' := [some (.ref 44), some (.int x1), some (.int x2), some (.int x3), some (.int (I 47 x3.toNatClampNeg))]) eX0_popYoungest_21 (Nat.le_of_ble_eq_true rfl) rfl ?_
        refine XW.iload eX0_popYoungest_23 rfl ?_
        refine XW.iconst (v := (-1)) eX0_popYoungest_25 (by decide) ?_
        exact hk)
    obtain ⟨ht, hf⟩ := h
    refine XF.br (P := (I 47 x3.toNatClampNeg) = (-1)) (fun c_26 => ?_) (fun c_26 => ?_)
    ·
      replace h := ht c_26
      refine XF.lift (pc2 := 4) (ls2 := [some (.ref 44), some (.int x1), some (.int x2), some (.int (x3 + 1)), none]) (st2 := []) (I2 := I) ?_ (fun r I' hk => by
          refine XW.icmp_eq eX0_popYoungest_26 (fun _ => ?_) (fun z => absurd c_26 z)
          refine XW.iinc (y := (x3 + 1)) (ls' := [some (.ref 44), some (.int x1), some (.int x2), some (.int (x3 + 1)), some (.int (I 47 x3.toNatClampNeg))]) eX0_popYoungest_69 rfl rfl rfl ?_
          refine XW.goto eX0_popYoungest_72 ?_
          refine XW.forget 4 rfl ?_
          exact hk)
      exact h
    ·
      replace h := hf c_26
      obtain ⟨n_39, h⟩ := h
      refine XF.lift (pc2 := 42) (ls2 := [some (.ref 44), some (.int x1), some (.int x2), some (.int x3), some (.int (I 47 x3.toNatClampNeg))]) (st2 := [.int (bI (SA (I (gR G 4 x3.toNatClampNeg) 1) x1))]) (I2 := I) ?_ (fun r I' hk => by
          refine XW.icmp_eq eX0_popYoungest_26 (fun z => absurd z c_26) (fun _ => ?_)
          refine XW.aload_n eX0_popYoungest_29 rfl ?_
          refine XW.getR (b := 3) eX0_popYoungest_30 f0_24_0 rfl (so_44 hs) (sr_44_0 hs) ?_
          refine XW.getR (b := 4) eX0_popYoungest_33 f0_63_6 rfl (so_3 hs) (sr_3_0 hs) ?_
          refine XW.iload_n eX0_popYoungest_36 rfl ?_
          refine XW.aaload (b := (gR G 4 x3.toNatClampNeg)) eX0_popYoungest_37 (sa_4 hs) ⟨by decide, rfl⟩ q_20 rfl ?_
          refine XW.iload_n eX0_popYoungest_38 rfl ?_
          refine XW.sendsAt eX0_popYoungest_39 co0_67_2 co0_67_8 co0_67_1 n_39 (Nat.le_of_ble_eq_true rfl) (Nat.le_of_ble_eq_true rfl) ?_
          exact hk)
      obtain ⟨ht, hf⟩ := h
      refine XF.br (P := SA (I (gR G 4 x3.toNatClampNeg) 1) x1) (fun c_42 => ?_) (fun c_42 => ?_)
      ·
        replace h := ht c_42
        obtain ⟨q_52, h⟩ := h
        refine XF.lift (pc2 := 4) (ls2 := [some (.ref 44), some (.int x1), some (.int (x2 + 1)), some (.int (x3 + 1)), none]) (st2 := []) (I2 := (wI (wI I 45 (I 47 x3.toNatClampNeg).toNatClampNeg x1) 47 x3.toNatClampNeg (I 46 (I 47 x3.toNatClampNeg).toNatClampNeg))) ?_ (fun r I' hk => by
            refine XW.if_eqB eX0_popYoungest_42 (fun z => absurd c_42 z) (fun _ => ?_)
            refine XW.aload_n eX0_popYoungest_45 rfl ?_
            refine XW.getR (b := 45) eX0_popYoungest_46 f0_9_0 rfl (so_44 hs) (sr_44_1 hs) ?_
            refine XW.iload eX0_popYoungest_49 rfl ?_
            refine XW.iload_n eX0_popYoungest_51 rfl ?_
            refine XW.iastore eX0_popYoungest_52 (sa_45 hs) q_52 ?_
            refine XW.aload_n eX0_popYoungest_53 rfl ?_
            refine XW.getR (b := 47) eX0_popYoungest_54 f0_18_0 rfl (so_44 hs) (sr_44_3 hs) ?_
            refine XW.iload_n eX0_popYoungest_57 rfl ?_
            refine XW.aload_n eX0_popYoungest_58 rfl ?_
            refine XW.getR (b := 46) eX0_popYoungest_59 f0_15_0 rfl (so_44 hs) (sr_44_2 hs) ?_
            refine XW.iload eX0_popYoungest_62 rfl ?_
            refine XW.iaload eX0_popYoungest_64 (sa_46 hs) q_52 ?_
            refine XW.iastore eX0_popYoungest_65 (sa_47 hs) q_20 ?_
            refine XW.iinc (y := (x2 + 1)) (ls' := [some (.ref 44), some (.int x1), some (.int (x2 + 1)), some (.int x3), some (.int (I 47 x3.toNatClampNeg))]) eX0_popYoungest_66 rfl rfl rfl ?_
            refine XW.iinc (y := (x3 + 1)) (ls' := [some (.ref 44), some (.int x1), some (.int (x2 + 1)), some (.int (x3 + 1)), some (.int (I 47 x3.toNatClampNeg))]) eX0_popYoungest_69 rfl rfl rfl ?_
            refine XW.goto eX0_popYoungest_72 ?_
            refine XW.forget 4 rfl ?_
            exact hk)
        exact h
      ·
        replace h := hf c_42
        refine XF.lift (pc2 := 4) (ls2 := [some (.ref 44), some (.int x1), some (.int x2), some (.int (x3 + 1)), none]) (st2 := []) (I2 := I) ?_ (fun r I' hk => by
            refine XW.if_eqB eX0_popYoungest_42 (fun _ => ?_) (fun z => absurd z c_42)
            refine XW.iinc (y := (x3 + 1)) (ls' := [some (.ref 44), some (.int x1), some (.int x2), some (.int (x3 + 1)), some (.int (I 47 x3.toNatClampNeg))]) eX0_popYoungest_69 rfl rfl rfl ?_
            refine XW.goto eX0_popYoungest_72 ?_
            refine XW.forget 4 rfl ?_
            exact hk)
        exact h
set_option maxRecDepth 100000 in
set_option maxHeartbeats 4000000 in
theorem VX0_pairLettersWithTicks {l : Launch} {C : xC} {G : xG} (hs : SH G)  {w : Nat} (hw : RW G w) (hw0 : 49 ≤ w) (I : xI) {Q : Unit → xI → Prop} (h :
    XF fV l C mX0_pairLettersWithTicks 2 [some (.ref 44), some (.ref w), some (.int 0), none, none] [] G I Q) : XF fV l C mX0_pairLettersWithTicks 0 (xent mX0_pairLettersWithTicks [.ref 44, .ref w]) [] G I Q := by
  show XF fV l C mX0_pairLettersWithTicks 0 [some (.ref 44), some (.ref w), none, none, none] [] G I Q
  refine XF.lift (pc2 := 2) (ls2 := [some (.ref 44), some (.ref w), some (.int 0), none, none]) (st2 := []) (I2 := I) ?_ (fun r I' hk => by
      refine XW.iconst (v := 0) eX0_pairLettersWithTicks_0 (by decide) ?_
      refine XW.istore_n (ls' := [some (.ref 44), some (.ref w), some (.int 0), none, none]) eX0_pairLettersWithTicks_1 (Nat.le_of_ble_eq_true rfl) rfl ?_
      exact hk)
  exact h
set_option maxRecDepth 100000 in
set_option maxHeartbeats 4000000 in
theorem VX0_pairLettersWithTicks_2 {l : Launch} {C : xC} {G : xG} (hs : SH G)  {w : Nat} (hw : RW G w) (hw0 : 49 ≤ w) (I : xI) (x2 : Int32) {Q : Unit → xI → Prop} (h :
    ((4 ≤ x2 → XF fV l C mX0_pairLettersWithTicks 30 [some (.ref 44), some (.ref w), some (.int 0), some (.int (I w 2)), some (.int 0)] [] G I Q) ∧ (¬ (4 ≤ x2) → vp_in x2 4 ∧ XF fV l C mX0_pairLettersWithTicks 2 [some (.ref 44), some (.ref w), some (.int (x2 + 1)), none, none] [] G (wI I 47 x2.toNatClampNeg (-1)) Q))) : XF fV l C mX0_pairLettersWithTicks 2 [some (.ref 44), some (.ref w), some (.int x2), none, none] [] G I Q := by
  refine XF.lift (pc2 := 4) (ls2 := [some (.ref 44), some (.ref w), some (.int x2), none, none]) (st2 := [.int 4, .int x2]) (I2 := I) ?_ (fun r I' hk => by
      refine XW.iload_n eX0_pairLettersWithTicks_2 rfl ?_
      refine XW.iconst (v := 4) eX0_pairLettersWithTicks_3 (by decide) ?_
      exact hk)
  obtain ⟨ht, hf⟩ := h
  refine XF.br (P := 4 ≤ x2) (fun c_4 => ?_) (fun c_4 => ?_)
  ·
    replace h := ht c_4
    refine XF.lift (pc2 := 30) (ls2 := [some (.ref 44), some (.ref w), some (.int 0), some (.int (I w 2)), some (.int 0)]) (st2 := []) (I2 := I) ?_ (fun r I' hk => by
        refine XW.icmp_ge eX0_pairLettersWithTicks_4 (fun _ => ?_) (fun z => absurd c_4 z)
        refine XW.iconst (v := 0) eX0_pairLettersWithTicks_20 (by decide) ?_
        refine XW.istore_n (ls' := [some (.ref 44), some (.ref w), some (.int 0), none, none]) eX0_pairLettersWithTicks_21 (Nat.le_of_ble_eq_true rfl) rfl ?_
        refine XW.aload_n eX0_pairLettersWithTicks_22 rfl ?_
        refine XW.getI eX0_pairLettersWithTicks_23 f0_32_4 rfl hw.1 ?_
        refine XW.istore_n (ls' := [some (.ref 44), some (.ref w), some (.int 0), some (.int (I w 2)), none]) eX0_pairLettersWithTicks_26 (Nat.le_of_ble_eq_true rfl) rfl ?_
        refine XW.iconst (v := 0) eX0_pairLettersWithTicks_27 (by decide) ?_
        refine XW.istore (ls' := [some (.ref 44), some (.ref w), some (.int 0), some (.int (I w 2)), some (.int 0)]) eX0_pairLettersWithTicks_28 (Nat.le_of_ble_eq_true rfl) rfl ?_
        exact hk)
    exact h
  ·
    replace h := hf c_4
    obtain ⟨q_13, h⟩ := h
    refine XF.lift (pc2 := 2) (ls2 := [some (.ref 44), some (.ref w), some (.int (x2 + 1)), none, none]) (st2 := []) (I2 := (wI I 47 x2.toNatClampNeg (-1))) ?_ (fun r I' hk => by
        refine XW.icmp_ge eX0_pairLettersWithTicks_4 (fun z => absurd z c_4) (fun _ => ?_)
        refine XW.aload_n eX0_pairLettersWithTicks_7 rfl ?_
        refine XW.getR (b := 47) eX0_pairLettersWithTicks_8 f0_18_0 rfl (so_44 hs) (sr_44_3 hs) ?_
        refine XW.iload_n eX0_pairLettersWithTicks_11 rfl ?_
        refine XW.iconst (v := (-1)) eX0_pairLettersWithTicks_12 (by decide) ?_
        refine XW.iastore eX0_pairLettersWithTicks_13 (sa_47 hs) q_13 ?_
        refine XW.iinc (y := (x2 + 1)) (ls' := [some (.ref 44), some (.ref w), some (.int (x2 + 1)), none, none]) eX0_pairLettersWithTicks_14 rfl rfl rfl ?_
        refine XW.goto eX0_pairLettersWithTicks_17 ?_
        exact hk)
    exact h
set_option maxRecDepth 100000 in
set_option maxHeartbeats 4000000 in
theorem VX0_pairLettersWithTicks_30 {l : Launch} {C : xC} {G : xG} (hs : SH G)  {w : Nat} (hw : RW G w) (hw0 : 49 ≤ w) (I : xI) (x2 x3 x4 : Int32) {Q : Unit → xI → Prop} (h :
    ((440 ≤ x4 → Q () I) ∧ (¬ (440 ≤ x4) → ((x3 ≤ 0 → Q () I) ∧ (¬ (x3 ≤ 0) → XF fV l C mX0_pairLettersWithTicks 42 [some (.ref 44), some (.ref w), some (.int x2), some (.int x3), some (.int x4)] [] G I Q))))) : XF fV l C mX0_pairLettersWithTicks 30 [some (.ref 44), some (.ref w), some (.int x2), some (.int x3), some (.int x4)] [] G I Q := by
  refine XF.lift (pc2 := 35) (ls2 := [some (.ref 44), some (.ref w), some (.int x2), some (.int x3), some (.int x4)]) (st2 := [.int 440, .int x4]) (I2 := I) ?_ (fun r I' hk => by
      refine XW.iload eX0_pairLettersWithTicks_30 rfl ?_
      refine XW.sipush (v := 440) eX0_pairLettersWithTicks_32 (by decide) ?_
      exact hk)
  obtain ⟨ht, hf⟩ := h
  refine XF.br (P := 440 ≤ x4) (fun c_35 => ?_) (fun c_35 => ?_)
  ·
    replace h := ht c_35
    refine XF.lift (pc2 := 111) (ls2 := [some (.ref 44), some (.ref w), some (.int x2), some (.int x3), some (.int x4)]) (st2 := []) (I2 := I) ?_ (fun r I' hk => by
        refine XW.icmp_ge eX0_pairLettersWithTicks_35 (fun _ => ?_) (fun z => absurd c_35 z)
        exact hk)
    exact ⟨(), I, XW.vret eX0_pairLettersWithTicks_111 rfl rfl rfl rfl, h⟩
  ·
    replace h := hf c_35
    refine XF.lift (pc2 := 39) (ls2 := [some (.ref 44), some (.ref w), some (.int x2), some (.int x3), some (.int x4)]) (st2 := [.int x3]) (I2 := I) ?_ (fun r I' hk => by
        refine XW.icmp_ge eX0_pairLettersWithTicks_35 (fun z => absurd z c_35) (fun _ => ?_)
        refine XW.iload_n eX0_pairLettersWithTicks_38 rfl ?_
        exact hk)
    obtain ⟨ht, hf⟩ := h
    refine XF.br (P := x3 ≤ 0) (fun c_39 => ?_) (fun c_39 => ?_)
    ·
      replace h := ht c_39
      refine XF.lift (pc2 := 111) (ls2 := [some (.ref 44), some (.ref w), some (.int x2), some (.int x3), some (.int x4)]) (st2 := []) (I2 := I) ?_ (fun r I' hk => by
          refine XW.if_le eX0_pairLettersWithTicks_39 (fun _ => ?_) (fun z => absurd c_39 z)
          exact hk)
      exact ⟨(), I, XW.vret eX0_pairLettersWithTicks_111 rfl rfl rfl rfl, h⟩
    ·
      replace h := hf c_39
      refine XF.lift (pc2 := 42) (ls2 := [some (.ref 44), some (.ref w), some (.int x2), some (.int x3), some (.int x4)]) (st2 := []) (I2 := I) ?_ (fun r I' hk => by
          refine XW.if_le eX0_pairLettersWithTicks_39 (fun z => absurd z c_39) (fun _ => ?_)
          exact hk)
      exact h
set_option maxRecDepth 100000 in
set_option maxHeartbeats 4000000 in
theorem VX0_pairLettersWithTicks_42 {l : Launch} {C : xC} {G : xG} (hs : SH G)  {w : Nat} (hw : RW G w) (hw0 : 49 ≤ w) (I : xI) (x2 x3 x4 : Int32) {Q : Unit → xI → Prop} (h :
    (((I w 2) ≤ x2 → (∃ Qc : Int32 → xI → Prop, XF fI l C mX0_popYoungest 0 (xent mX0_popYoungest [.ref 44, .int x4]) [] G I Qc ∧ ∀ (v_100 : Int32) (I_100 : xI), Qc v_100 I_100 → XF fV l C mX0_pairLettersWithTicks 30 [some (.ref 44), some (.ref w), some (.int x2), some (.int (x3 - v_100)), some (.int (x4 + 1))] [] G I_100 Q)) ∧ (¬ ((I w 2) ≤ x2) → vp_in x2 80 ∧ ((x4 < (I (w + 1) x2.toNatClampNeg) → (∃ Qc : Int32 → xI → Prop, XF fI l C mX0_popYoungest 0 (xent mX0_popYoungest [.ref 44, .int x4]) [] G I Qc ∧ ∀ (v_100 : Int32) (I_100 : xI), Qc v_100 I_100 → XF fV l C mX0_pairLettersWithTicks 30 [some (.ref 44), some (.ref w), some (.int x2), some (.int (x3 - v_100)), some (.int (x4 + 1))] [] G I_100 Q)) ∧ (¬ (x4 < (I (w + 1) x2.toNatClampNeg)) → vp_in (I (w + 2) x2.toNatClampNeg) 4 ∧ vp_in ((wI I 46 x2.toNatClampNeg (I 47 (I (w + 2) x2.toNatClampNeg).toNatClampNeg)) (w + 2) x2.toNatClampNeg) 4 ∧ XF fV l C mX0_pairLettersWithTicks 42 [some (.ref 44), some (.ref w), some (.int (x2 + 1)), some (.int x3), some (.int x4)] [] G (wI (wI I 46 x2.toNatClampNeg (I 47 (I (w + 2) x2.toNatClampNeg).toNatClampNeg)) 47 ((wI I 46 x2.toNatClampNeg (I 47 (I (w + 2) x2.toNatClampNeg).toNatClampNeg)) (w + 2) x2.toNatClampNeg).toNatClampNeg x2) Q))))) : XF fV l C mX0_pairLettersWithTicks 42 [some (.ref 44), some (.ref w), some (.int x2), some (.int x3), some (.int x4)] [] G I Q := by
  refine XF.lift (pc2 := 47) (ls2 := [some (.ref 44), some (.ref w), some (.int x2), some (.int x3), some (.int x4)]) (st2 := [.int (I w 2), .int x2]) (I2 := I) ?_ (fun r I' hk => by
      refine XW.iload_n eX0_pairLettersWithTicks_42 rfl ?_
      refine XW.aload_n eX0_pairLettersWithTicks_43 rfl ?_
      refine XW.getI eX0_pairLettersWithTicks_44 f0_32_4 rfl hw.1 ?_
      exact hk)
  obtain ⟨ht, hf⟩ := h
  refine XF.br (P := (I w 2) ≤ x2) (fun c_47 => ?_) (fun c_47 => ?_)
  ·
    replace h := ht c_47
    refine XF.lift (pc2 := 100) (ls2 := [some (.ref 44), some (.ref w), some (.int x2), some (.int x3), some (.int x4)]) (st2 := [.int x4, .ref 44, .int x3]) (I2 := I) ?_ (fun r I' hk => by
        refine XW.icmp_ge eX0_pairLettersWithTicks_47 (fun _ => ?_) (fun z => absurd c_47 z)
        refine XW.iload_n eX0_pairLettersWithTicks_96 rfl ?_
        refine XW.aload_n eX0_pairLettersWithTicks_97 rfl ?_
        refine XW.iload eX0_pairLettersWithTicks_98 rfl ?_
        exact hk)
    obtain ⟨Qc, hc, h⟩ := h
    refine XF.call (nx := 103) (st := [.int x3]) hc (fun v I1 r I' hY hk => XW.callV (As := [.int x4]) (st := [.int x3]) eX0_pairLettersWithTicks_100 okX0_popYoungest cv0_57 rfl (so_44 hs) hY (xnum rfl rfl rfl rfl rfl) hk) (fun v_100 I_100 hq => ?_)
    replace h := h v_100 I_100 hq
    refine XF.lift (pc2 := 30) (ls2 := [some (.ref 44), some (.ref w), some (.int x2), some (.int (x3 - v_100)), some (.int (x4 + 1))]) (st2 := []) (I2 := I_100) ?_ (fun r I' hk => by
        refine XW.isub eX0_pairLettersWithTicks_103 ?_
        refine XW.istore_n (ls' := [some (.ref 44), some (.ref w), some (.int x2), some (.int (x3 - v_100)), some (.int x4)]) eX0_pairLettersWithTicks_104 (Nat.le_of_ble_eq_true rfl) rfl ?_
        refine XW.iinc (y := (x4 + 1)) (ls' := [some (.ref 44), some (.ref w), some (.int x2), some (.int (x3 - v_100)), some (.int (x4 + 1))]) eX0_pairLettersWithTicks_105 rfl rfl rfl ?_
        refine XW.goto eX0_pairLettersWithTicks_108 ?_
        exact hk)
    exact h
  ·
    replace h := hf c_47
    obtain ⟨q_55, h⟩ := h
    refine XF.lift (pc2 := 58) (ls2 := [some (.ref 44), some (.ref w), some (.int x2), some (.int x3), some (.int x4)]) (st2 := [.int x4, .int (I (w + 1) x2.toNatClampNeg)]) (I2 := I) ?_ (fun r I' hk => by
        refine XW.icmp_ge eX0_pairLettersWithTicks_47 (fun z => absurd z c_47) (fun _ => ?_)
        refine XW.aload_n eX0_pairLettersWithTicks_50 rfl ?_
        refine XW.getR (b := (w + 1)) eX0_pairLettersWithTicks_51 f0_38_4 rfl hw.1 hw.2.1 ?_
        refine XW.iload_n eX0_pairLettersWithTicks_54 rfl ?_
        refine XW.iaload eX0_pairLettersWithTicks_55 hw.2.2.2.1 q_55 ?_
        refine XW.iload eX0_pairLettersWithTicks_56 rfl ?_
        exact hk)
    obtain ⟨ht, hf⟩ := h
    refine XF.br (P := x4 < (I (w + 1) x2.toNatClampNeg)) (fun c_58 => ?_) (fun c_58 => ?_)
    ·
      replace h := ht c_58
      refine XF.lift (pc2 := 100) (ls2 := [some (.ref 44), some (.ref w), some (.int x2), some (.int x3), some (.int x4)]) (st2 := [.int x4, .ref 44, .int x3]) (I2 := I) ?_ (fun r I' hk => by
          refine XW.icmp_gt eX0_pairLettersWithTicks_58 (fun _ => ?_) (fun z => absurd c_58 z)
          refine XW.iload_n eX0_pairLettersWithTicks_96 rfl ?_
          refine XW.aload_n eX0_pairLettersWithTicks_97 rfl ?_
          refine XW.iload eX0_pairLettersWithTicks_98 rfl ?_
          exact hk)
      obtain ⟨Qc, hc, h⟩ := h
      refine XF.call (nx := 103) (st := [.int x3]) hc (fun v I1 r I' hY hk => XW.callV (As := [.int x4]) (st := [.int x3]) eX0_pairLettersWithTicks_100 okX0_popYoungest cv0_57 rfl (so_44 hs) hY (xnum rfl rfl rfl rfl rfl) hk) (fun v_100 I_100 hq => ?_)
      replace h := h v_100 I_100 hq
      refine XF.lift (pc2 := 30) (ls2 := [some (.ref 44), some (.ref w), some (.int x2), some (.int (x3 - v_100)), some (.int (x4 + 1))]) (st2 := []) (I2 := I_100) ?_ (fun r I' hk => by
          refine XW.isub eX0_pairLettersWithTicks_103 ?_
          refine XW.istore_n (ls' := [some (.ref 44), some (.ref w), some (.int x2), some (.int (x3 - v_100)), some (.int x4)]) eX0_pairLettersWithTicks_104 (Nat.le_of_ble_eq_true rfl) rfl ?_
          refine XW.iinc (y := (x4 + 1)) (ls' := [some (.ref 44), some (.ref w), some (.int x2), some (.int (x3 - v_100)), some (.int (x4 + 1))]) eX0_pairLettersWithTicks_105 rfl rfl rfl ?_
          refine XW.goto eX0_pairLettersWithTicks_108 ?_
          exact hk)
      exact h
    ·
      replace h := hf c_58
      obtain ⟨q_76, h⟩ := h
      obtain ⟨q_89, h⟩ := h
      refine XF.lift (pc2 := 42) (ls2 := [some (.ref 44), some (.ref w), some (.int (x2 + 1)), some (.int x3), some (.int x4)]) (st2 := []) (I2 := (wI (wI I 46 x2.toNatClampNeg (I 47 (I (w + 2) x2.toNatClampNeg).toNatClampNeg)) 47 ((wI I 46 x2.toNatClampNeg (I 47 (I (w + 2) x2.toNatClampNeg).toNatClampNeg)) (w + 2) x2.toNatClampNeg).toNatClampNeg x2)) ?_ (fun r I' hk => by
          refine XW.icmp_gt eX0_pairLettersWithTicks_58 (fun z => absurd z c_58) (fun _ => ?_)
          refine XW.aload_n eX0_pairLettersWithTicks_61 rfl ?_
          refine XW.getR (b := 46) eX0_pairLettersWithTicks_62 f0_15_0 rfl (so_44 hs) (sr_44_2 hs) ?_
          refine XW.iload_n eX0_pairLettersWithTicks_65 rfl ?_
          refine XW.aload_n eX0_pairLettersWithTicks_66 rfl ?_
          refine XW.getR (b := 47) eX0_pairLettersWithTicks_67 f0_18_0 rfl (so_44 hs) (sr_44_3 hs) ?_
          refine XW.aload_n eX0_pairLettersWithTicks_70 rfl ?_
          refine XW.getR (b := (w + 2)) eX0_pairLettersWithTicks_71 f0_54_4 rfl hw.1 hw.2.2.1 ?_
          refine XW.iload_n eX0_pairLettersWithTicks_74 rfl ?_
          refine XW.iaload eX0_pairLettersWithTicks_75 hw.2.2.2.2 q_55 ?_
          refine XW.iaload eX0_pairLettersWithTicks_76 (sa_47 hs) q_76 ?_
          refine XW.iastore eX0_pairLettersWithTicks_77 (sa_46 hs) q_55 ?_
          refine XW.aload_n eX0_pairLettersWithTicks_78 rfl ?_
          refine XW.getR (b := 47) eX0_pairLettersWithTicks_79 f0_18_0 rfl (so_44 hs) (sr_44_3 hs) ?_
          refine XW.aload_n eX0_pairLettersWithTicks_82 rfl ?_
          refine XW.getR (b := (w + 2)) eX0_pairLettersWithTicks_83 f0_54_4 rfl hw.1 hw.2.2.1 ?_
          refine XW.iload_n eX0_pairLettersWithTicks_86 rfl ?_
          refine XW.iaload eX0_pairLettersWithTicks_87 hw.2.2.2.2 q_55 ?_
          refine XW.iload_n eX0_pairLettersWithTicks_88 rfl ?_
          refine XW.iastore eX0_pairLettersWithTicks_89 (sa_47 hs) q_89 ?_
          refine XW.iinc (y := (x2 + 1)) (ls' := [some (.ref 44), some (.ref w), some (.int (x2 + 1)), some (.int x3), some (.int x4)]) eX0_pairLettersWithTicks_90 rfl rfl rfl ?_
          refine XW.goto eX0_pairLettersWithTicks_93 ?_
          exact hk)
      exact h
set_option maxRecDepth 100000 in
set_option maxHeartbeats 4000000 in
theorem VX0_mostTaken {l : Launch} {C : xC} {G : xG} (hs : SH G)  {w : Nat} (hw : RW G w) (hw0 : 49 ≤ w) (I : xI) {Q : Int32 → xI → Prop} (h :
    (∃ Qc : Unit → xI → Prop, XF fV l C mX0_pairLettersWithTicks 0 (xent mX0_pairLettersWithTicks [.ref 44, .ref w]) [] G I Qc ∧ ∀ (u_2 : Unit) (I_2 : xI), Qc u_2 I_2 → XF fI l C mX0_mostTaken 9 [some (.ref 44), some (.ref w), some (.int 0), some (.int 0)] [] G I_2 Q)) : XF fI l C mX0_mostTaken 0 (xent mX0_mostTaken [.ref 44, .ref w]) [] G I Q := by
  show XF fI l C mX0_mostTaken 0 [some (.ref 44), some (.ref w), none, none] [] G I Q
  refine XF.lift (pc2 := 2) (ls2 := [some (.ref 44), some (.ref w), none, none]) (st2 := [.ref w, .ref 44]) (I2 := I) ?_ (fun r I' hk => by
      refine XW.aload_n eX0_mostTaken_0 rfl ?_
      refine XW.aload_n eX0_mostTaken_1 rfl ?_
      exact hk)
  obtain ⟨Qc, hc, h⟩ := h
  refine XF.call (nx := 5) (st := []) hc (fun v I1 r I' hY hk => XW.callV (As := [.ref w]) (st := []) eX0_mostTaken_2 okX0_pairLettersWithTicks cv0_28 rfl (so_44 hs) hY (xnum rfl rfl rfl rfl rfl) hk) (fun _ I_2 hq => ?_)
  replace h := h () I_2 hq
  refine XF.lift (pc2 := 9) (ls2 := [some (.ref 44), some (.ref w), some (.int 0), some (.int 0)]) (st2 := []) (I2 := I_2) ?_ (fun r I' hk => by
      refine XW.iconst (v := 0) eX0_mostTaken_5 (by decide) ?_
      refine XW.istore_n (ls' := [some (.ref 44), some (.ref w), some (.int 0), none]) eX0_mostTaken_6 (Nat.le_of_ble_eq_true rfl) rfl ?_
      refine XW.iconst (v := 0) eX0_mostTaken_7 (by decide) ?_
      refine XW.istore_n (ls' := [some (.ref 44), some (.ref w), some (.int 0), some (.int 0)]) eX0_mostTaken_8 (Nat.le_of_ble_eq_true rfl) rfl ?_
      exact hk)
  exact h
set_option maxRecDepth 100000 in
set_option maxHeartbeats 4000000 in
theorem VX0_mostTaken_9 {l : Launch} {C : xC} {G : xG} (hs : SH G)  {w : Nat} (hw : RW G w) (hw0 : 49 ≤ w) (I : xI) (x2 x3 : Int32) {Q : Int32 → xI → Prop} (h :
    (((I w 2) ≤ x3 → Q x2 I) ∧ (¬ ((I w 2) ≤ x3) → vp_in x3 80 ∧ (∃ Qc : Int32 → xI → Prop, XF fI l C mX0_staysAt 0 (xent mX0_staysAt [.ref 44, .int (I (w + 1) x3.toNatClampNeg), .int x3]) [] G I Qc ∧ ∀ (v_28 : Int32) (I_28 : xI), Qc v_28 I_28 → ((v_28 ≤ (I_28 3 2) → XF fI l C mX0_mostTaken 9 [some (.ref 44), some (.ref w), some (.int (x2 + 1)), some (.int (x3 + 1))] [] G I_28 Q) ∧ (¬ (v_28 ≤ (I_28 3 2)) → (∃ Qc : Int32 → xI → Prop, XF fI l C mX0_longestStay 0 (xent mX0_longestStay [.ref 44, .int x3]) [] G I_28 Qc ∧ ∀ (v_47 : Int32) (I_47 : xI), Qc v_47 I_47 → vp_in v_47 80 ∧ XF fI l C mX0_mostTaken 9 [some (.ref 44), some (.ref w), some (.int ((x2 + 1) + (-1))), some (.int (x3 + 1))] [] G (wI I_47 45 v_47.toNatClampNeg (-1)) Q))))))) : XF fI l C mX0_mostTaken 9 [some (.ref 44), some (.ref w), some (.int x2), some (.int x3)] [] G I Q := by
  refine XF.lift (pc2 := 14) (ls2 := [some (.ref 44), some (.ref w), some (.int x2), some (.int x3)]) (st2 := [.int (I w 2), .int x3]) (I2 := I) ?_ (fun r I' hk => by
      refine XW.iload_n eX0_mostTaken_9 rfl ?_
      refine XW.aload_n eX0_mostTaken_10 rfl ?_
      refine XW.getI eX0_mostTaken_11 f0_32_4 rfl hw.1 ?_
      exact hk)
  obtain ⟨ht, hf⟩ := h
  refine XF.br (P := (I w 2) ≤ x3) (fun c_14 => ?_) (fun c_14 => ?_)
  ·
    replace h := ht c_14
    refine XF.lift (pc2 := 62) (ls2 := [some (.ref 44), some (.ref w), some (.int x2), some (.int x3)]) (st2 := [.int x2]) (I2 := I) ?_ (fun r I' hk => by
        refine XW.icmp_ge eX0_mostTaken_14 (fun _ => ?_) (fun z => absurd c_14 z)
        refine XW.iload_n eX0_mostTaken_61 rfl ?_
        exact hk)
    exact ⟨x2, I, XW.iret eX0_mostTaken_62 rfl rfl rfl rfl rfl, h⟩
  ·
    replace h := hf c_14
    obtain ⟨q_26, h⟩ := h
    refine XF.lift (pc2 := 28) (ls2 := [some (.ref 44), some (.ref w), some (.int (x2 + 1)), some (.int x3)]) (st2 := [.int x3, .int (I (w + 1) x3.toNatClampNeg), .ref 44]) (I2 := I) ?_ (fun r I' hk => by
        refine XW.icmp_ge eX0_mostTaken_14 (fun z => absurd z c_14) (fun _ => ?_)
        refine XW.iinc (y := (x2 + 1)) (ls' := [some (.ref 44), some (.ref w), some (.int (x2 + 1)), some (.int x3)]) eX0_mostTaken_17 rfl rfl rfl ?_
        refine XW.aload_n eX0_mostTaken_20 rfl ?_
        refine XW.aload_n eX0_mostTaken_21 rfl ?_
        refine XW.getR (b := (w + 1)) eX0_mostTaken_22 f0_38_4 rfl hw.1 hw.2.1 ?_
        refine XW.iload_n eX0_mostTaken_25 rfl ?_
        refine XW.iaload eX0_mostTaken_26 hw.2.2.2.1 q_26 ?_
        refine XW.iload_n eX0_mostTaken_27 rfl ?_
        exact hk)
    obtain ⟨Qc, hc, h⟩ := h
    refine XF.call (nx := 31) (st := []) hc (fun v I1 r I' hY hk => XW.callV (As := [.int (I (w + 1) x3.toNatClampNeg), .int x3]) (st := []) eX0_mostTaken_28 okX0_staysAt cv0_41 rfl (so_44 hs) hY (xnum rfl rfl rfl rfl rfl) hk) (fun v_28 I_28 hq => ?_)
    replace h := h v_28 I_28 hq
    refine XF.lift (pc2 := 38) (ls2 := [some (.ref 44), some (.ref w), some (.int (x2 + 1)), some (.int x3)]) (st2 := [.int (I_28 3 2), .int v_28]) (I2 := I_28) ?_ (fun r I' hk => by
        refine XW.aload_n eX0_mostTaken_31 rfl ?_
        refine XW.getR (b := 3) eX0_mostTaken_32 f0_24_0 rfl (so_44 hs) (sr_44_0 hs) ?_
        refine XW.getI eX0_mostTaken_35 f0_45_6 rfl (so_3 hs) ?_
        exact hk)
    obtain ⟨ht, hf⟩ := h
    refine XF.br (P := v_28 ≤ (I_28 3 2)) (fun c_38 => ?_) (fun c_38 => ?_)
    ·
      replace h := ht c_38
      refine XF.lift (pc2 := 9) (ls2 := [some (.ref 44), some (.ref w), some (.int (x2 + 1)), some (.int (x3 + 1))]) (st2 := []) (I2 := I_28) ?_ (fun r I' hk => by
          refine XW.icmp_le eX0_mostTaken_38 (fun _ => ?_) (fun z => absurd c_38 z)
          refine XW.iinc (y := (x3 + 1)) (ls' := [some (.ref 44), some (.ref w), some (.int (x2 + 1)), some (.int (x3 + 1))]) eX0_mostTaken_55 rfl rfl rfl ?_
          refine XW.goto eX0_mostTaken_58 ?_
          exact hk)
      exact h
    ·
      replace h := hf c_38
      refine XF.lift (pc2 := 47) (ls2 := [some (.ref 44), some (.ref w), some (.int (x2 + 1)), some (.int x3)]) (st2 := [.int x3, .ref 44, .ref 45]) (I2 := I_28) ?_ (fun r I' hk => by
          refine XW.icmp_le eX0_mostTaken_38 (fun z => absurd z c_38) (fun _ => ?_)
          refine XW.aload_n eX0_mostTaken_41 rfl ?_
          refine XW.getR (b := 45) eX0_mostTaken_42 f0_9_0 rfl (so_44 hs) (sr_44_1 hs) ?_
          refine XW.aload_n eX0_mostTaken_45 rfl ?_
          refine XW.iload_n eX0_mostTaken_46 rfl ?_
          exact hk)
      obtain ⟨Qc, hc, h⟩ := h
      refine XF.call (nx := 50) (st := [.ref 45]) hc (fun v I1 r I' hY hk => XW.callV (As := [.int x3]) (st := [.ref 45]) eX0_mostTaken_47 okX0_longestStay cv0_50 rfl (so_44 hs) hY (xnum rfl rfl rfl rfl rfl) hk) (fun v_47 I_47 hq => ?_)
      replace h := h v_47 I_47 hq
      obtain ⟨q_51, h⟩ := h
      refine XF.lift (pc2 := 9) (ls2 := [some (.ref 44), some (.ref w), some (.int ((x2 + 1) + (-1))), some (.int (x3 + 1))]) (st2 := []) (I2 := (wI I_47 45 v_47.toNatClampNeg (-1))) ?_ (fun r I' hk => by
          refine XW.iconst (v := (-1)) eX0_mostTaken_50 (by decide) ?_
          refine XW.iastore eX0_mostTaken_51 (sa_45 hs) q_51 ?_
          refine XW.iinc (y := ((x2 + 1) + (-1))) (ls' := [some (.ref 44), some (.ref w), some (.int ((x2 + 1) + (-1))), some (.int x3)]) eX0_mostTaken_52 rfl rfl rfl ?_
          refine XW.iinc (y := (x3 + 1)) (ls' := [some (.ref 44), some (.ref w), some (.int ((x2 + 1) + (-1))), some (.int (x3 + 1))]) eX0_mostTaken_55 rfl rfl rfl ?_
          refine XW.goto eX0_mostTaken_58 ?_
          exact hk)
      exact h
set_option maxRecDepth 100000 in
set_option maxHeartbeats 4000000 in
theorem VX0_shareToTake {l : Launch} {C : xC} {G : xG} (hs : SH G)  (I : xI) (y0 y1 : Int32) {Q : Int32 → xI → Prop} (h :
    ((0 < y1 → ¬ y1 = 0 ∧ Q (((16 * y0) / y1) + 1) I) ∧ (¬ (0 < y1) → Q 161 I))) : XF fI l C mX0_shareToTake 0 (xent mX0_shareToTake [.int y0, .int y1]) [] G I Q := by
  show XF fI l C mX0_shareToTake 0 [some (.int y0), some (.int y1)] [] G I Q
  refine XF.lift (pc2 := 1) (ls2 := [some (.int y0), some (.int y1)]) (st2 := [.int y1]) (I2 := I) ?_ (fun r I' hk => by
      refine XW.iload_n eX0_shareToTake_0 rfl ?_
      exact hk)
  obtain ⟨ht, hf⟩ := h
  refine XF.br (P := 0 < y1) (fun c_1 => ?_) (fun c_1 => ?_)
  ·
    replace h := ht c_1
    obtain ⟨z_15, h⟩ := h
    refine XF.lift (pc2 := 18) (ls2 := [some (.int y0), some (.int y1)]) (st2 := [.int (((16 * y0) / y1) + 1)]) (I2 := I) ?_ (fun r I' hk => by
        refine XW.if_gt eX0_shareToTake_1 (fun _ => ?_) (fun z => absurd c_1 z)
        refine XW.bipush (v := 16) eX0_shareToTake_10 (by decide) ?_
        refine XW.iload_n eX0_shareToTake_12 rfl ?_
        refine XW.imul eX0_shareToTake_13 ?_
        refine XW.iload_n eX0_shareToTake_14 rfl ?_
        refine XW.idiv eX0_shareToTake_15 z_15 ?_
        refine XW.iconst (v := 1) eX0_shareToTake_16 (by decide) ?_
        refine XW.iadd eX0_shareToTake_17 ?_
        exact hk)
    exact ⟨(((16 * y0) / y1) + 1), I, XW.iret eX0_shareToTake_18 rfl rfl rfl rfl rfl, h⟩
  ·
    replace h := hf c_1
    refine XF.lift (pc2 := 18) (ls2 := [some (.int y0), some (.int y1)]) (st2 := [.int 161]) (I2 := I) ?_ (fun r I' hk => by
        refine XW.if_gt eX0_shareToTake_1 (fun z => absurd z c_1) (fun _ => ?_)
        refine XW.sipush (v := 161) eX0_shareToTake_4 (by decide) ?_
        refine XW.goto eX0_shareToTake_7 ?_
        exact hk)
    exact ⟨161, I, XW.iret eX0_shareToTake_18 rfl rfl rfl rfl rfl, h⟩
set_option maxRecDepth 100000 in
set_option maxHeartbeats 4000000 in
theorem VX0_passTick {l : Launch} {C : xC} {G : xG} (hs : SH G)  (I : xI) (y1 : Int32) {Q : Int32 → xI → Prop} (h :
    XF fI l C mX0_passTick 4 [some (.ref 44), some (.int y1), some (.int 0), some (.int 0)] [] G I Q) : XF fI l C mX0_passTick 0 (xent mX0_passTick [.ref 44, .int y1]) [] G I Q := by
  show XF fI l C mX0_passTick 0 [some (.ref 44), some (.int y1), none, none] [] G I Q
  refine XF.lift (pc2 := 4) (ls2 := [some (.ref 44), some (.int y1), some (.int 0), some (.int 0)]) (st2 := []) (I2 := I) ?_ (fun r I' hk => by
      refine XW.iconst (v := 0) eX0_passTick_0 (by decide) ?_
      refine XW.istore_n (ls' := [some (.ref 44), some (.int y1), some (.int 0), none]) eX0_passTick_1 (Nat.le_of_ble_eq_true rfl) rfl ?_
      refine XW.iconst (v := 0) eX0_passTick_2 (by decide) ?_
      refine XW.istore_n (ls' := [some (.ref 44), some (.int y1), some (.int 0), some (.int 0)]) eX0_passTick_3 (Nat.le_of_ble_eq_true rfl) rfl ?_
      exact hk)
  exact h
set_option maxRecDepth 100000 in
set_option maxHeartbeats 4000000 in
theorem VX0_passTick_4 {l : Launch} {C : xC} {G : xG} (hs : SH G)  (I : xI) (x1 x2 x3 : Int32) {Q : Int32 → xI → Prop} (h :
    (((I 3 1) ≤ x3 → Q x2 I) ∧ (¬ ((I 3 1) ≤ x3) → vp_in x3 4 ∧ (((I 48 x3.toNatClampNeg) ≤ 0 → XF fI l C mX0_passTick 4 [some (.ref 44), some (.int x1), some (.int x2), some (.int (x3 + 1))] [] G I Q) ∧ (¬ ((I 48 x3.toNatClampNeg) ≤ 0) → LN G (gR G 4 x3.toNatClampNeg) ∧ ((SA (I (gR G 4 x3.toNatClampNeg) 1) x1 → XF fI l C mX0_passTick 4 [some (.ref 44), some (.int x1), some (.int (x2 + 1)), some (.int (x3 + 1))] [] G (wI I 48 x3.toNatClampNeg ((I 48 x3.toNatClampNeg) - 1)) Q) ∧ (¬ (SA (I (gR G 4 x3.toNatClampNeg) 1) x1) → XF fI l C mX0_passTick 4 [some (.ref 44), some (.int x1), some (.int x2), some (.int (x3 + 1))] [] G I Q))))))) : XF fI l C mX0_passTick 4 [some (.ref 44), some (.int x1), some (.int x2), some (.int x3)] [] G I Q := by
  refine XF.lift (pc2 := 12) (ls2 := [some (.ref 44), some (.int x1), some (.int x2), some (.int x3)]) (st2 := [.int (I 3 1), .int x3]) (I2 := I) ?_ (fun r I' hk => by
      refine XW.iload_n eX0_passTick_4 rfl ?_
      refine XW.aload_n eX0_passTick_5 rfl ?_
      refine XW.getR (b := 3) eX0_passTick_6 f0_24_0 rfl (so_44 hs) (sr_44_0 hs) ?_
      refine XW.getI eX0_passTick_9 f0_60_6 rfl (so_3 hs) ?_
      exact hk)
  obtain ⟨ht, hf⟩ := h
  refine XF.br (P := (I 3 1) ≤ x3) (fun c_12 => ?_) (fun c_12 => ?_)
  ·
    replace h := ht c_12
    refine XF.lift (pc2 := 60) (ls2 := [some (.ref 44), some (.int x1), some (.int x2), some (.int x3)]) (st2 := [.int x2]) (I2 := I) ?_ (fun r I' hk => by
        refine XW.icmp_ge eX0_passTick_12 (fun _ => ?_) (fun z => absurd c_12 z)
        refine XW.iload_n eX0_passTick_59 rfl ?_
        exact hk)
    exact ⟨x2, I, XW.iret eX0_passTick_60 rfl rfl rfl rfl rfl, h⟩
  ·
    replace h := hf c_12
    obtain ⟨q_20, h⟩ := h
    refine XF.lift (pc2 := 21) (ls2 := [some (.ref 44), some (.int x1), some (.int x2), some (.int x3)]) (st2 := [.int (I 48 x3.toNatClampNeg)]) (I2 := I) ?_ (fun r I' hk => by
        refine XW.icmp_ge eX0_passTick_12 (fun z => absurd z c_12) (fun _ => ?_)
        refine XW.aload_n eX0_passTick_15 rfl ?_
        refine XW.getR (b := 48) eX0_passTick_16 f0_21_0 rfl (so_44 hs) (sr_44_4 hs) ?_
        refine XW.iload_n eX0_passTick_19 rfl ?_
        refine XW.iaload eX0_passTick_20 (sa_48 hs) q_20 ?_
        exact hk)
    obtain ⟨ht, hf⟩ := h
    refine XF.br (P := (I 48 x3.toNatClampNeg) ≤ 0) (fun c_21 => ?_) (fun c_21 => ?_)
    ·
      replace h := ht c_21
      refine XF.lift (pc2 := 4) (ls2 := [some (.ref 44), some (.int x1), some (.int x2), some (.int (x3 + 1))]) (st2 := []) (I2 := I) ?_ (fun r I' hk => by
          refine XW.if_le eX0_passTick_21 (fun _ => ?_) (fun z => absurd c_21 z)
          refine XW.iinc (y := (x3 + 1)) (ls' := [some (.ref 44), some (.int x1), some (.int x2), some (.int (x3 + 1))]) eX0_passTick_53 rfl rfl rfl ?_
          refine XW.goto eX0_passTick_56 ?_
          exact hk)
      exact h
    ·
      replace h := hf c_21
      obtain ⟨n_34, h⟩ := h
      refine XF.lift (pc2 := 37) (ls2 := [some (.ref 44), some (.int x1), some (.int x2), some (.int x3)]) (st2 := [.int (bI (SA (I (gR G 4 x3.toNatClampNeg) 1) x1))]) (I2 := I) ?_ (fun r I' hk => by
          refine XW.if_le eX0_passTick_21 (fun z => absurd z c_21) (fun _ => ?_)
          refine XW.aload_n eX0_passTick_24 rfl ?_
          refine XW.getR (b := 3) eX0_passTick_25 f0_24_0 rfl (so_44 hs) (sr_44_0 hs) ?_
          refine XW.getR (b := 4) eX0_passTick_28 f0_63_6 rfl (so_3 hs) (sr_3_0 hs) ?_
          refine XW.iload_n eX0_passTick_31 rfl ?_
          refine XW.aaload (b := (gR G 4 x3.toNatClampNeg)) eX0_passTick_32 (sa_4 hs) ⟨by decide, rfl⟩ q_20 rfl ?_
          refine XW.iload_n eX0_passTick_33 rfl ?_
          refine XW.sendsAt eX0_passTick_34 co0_67_2 co0_67_8 co0_67_1 n_34 (Nat.le_of_ble_eq_true rfl) (Nat.le_of_ble_eq_true rfl) ?_
          exact hk)
      obtain ⟨ht, hf⟩ := h
      refine XF.br (P := SA (I (gR G 4 x3.toNatClampNeg) 1) x1) (fun c_37 => ?_) (fun c_37 => ?_)
      ·
        replace h := ht c_37
        refine XF.lift (pc2 := 4) (ls2 := [some (.ref 44), some (.int x1), some (.int (x2 + 1)), some (.int (x3 + 1))]) (st2 := []) (I2 := (wI I 48 x3.toNatClampNeg ((I 48 x3.toNatClampNeg) - 1))) ?_ (fun r I' hk => by
            refine XW.if_eqB eX0_passTick_37 (fun z => absurd c_37 z) (fun _ => ?_)
            refine XW.aload_n eX0_passTick_40 rfl ?_
            refine XW.getR (b := 48) eX0_passTick_41 f0_21_0 rfl (so_44 hs) (sr_44_4 hs) ?_
            refine XW.iload_n eX0_passTick_44 rfl ?_
            refine XW.dup2 eX0_passTick_45 rfl rfl ?_
            refine XW.iaload eX0_passTick_46 (sa_48 hs) q_20 ?_
            refine XW.iconst (v := 1) eX0_passTick_47 (by decide) ?_
            refine XW.isub eX0_passTick_48 ?_
            refine XW.iastore eX0_passTick_49 (sa_48 hs) q_20 ?_
            refine XW.iinc (y := (x2 + 1)) (ls' := [some (.ref 44), some (.int x1), some (.int (x2 + 1)), some (.int x3)]) eX0_passTick_50 rfl rfl rfl ?_
            refine XW.iinc (y := (x3 + 1)) (ls' := [some (.ref 44), some (.int x1), some (.int (x2 + 1)), some (.int (x3 + 1))]) eX0_passTick_53 rfl rfl rfl ?_
            refine XW.goto eX0_passTick_56 ?_
            exact hk)
        exact h
      ·
        replace h := hf c_37
        refine XF.lift (pc2 := 4) (ls2 := [some (.ref 44), some (.int x1), some (.int x2), some (.int (x3 + 1))]) (st2 := []) (I2 := I) ?_ (fun r I' hk => by
            refine XW.if_eqB eX0_passTick_37 (fun _ => ?_) (fun z => absurd z c_37)
            refine XW.iinc (y := (x3 + 1)) (ls' := [some (.ref 44), some (.int x1), some (.int x2), some (.int (x3 + 1))]) eX0_passTick_53 rfl rfl rfl ?_
            refine XW.goto eX0_passTick_56 ?_
            exact hk)
        exact h
set_option maxRecDepth 100000 in
set_option maxHeartbeats 4000000 in
theorem VX0_leastShare {l : Launch} {C : xC} {G : xG} (hs : SH G)  {w : Nat} (hw : RW G w) (hw0 : 49 ≤ w) (I : xI) {Q : Int32 → xI → Prop} (h :
    XF fI l C mX0_leastShare 2 [some (.ref 44), some (.ref w), some (.int 0), none, none, none, none] [] G I Q) : XF fI l C mX0_leastShare 0 (xent mX0_leastShare [.ref 44, .ref w]) [] G I Q := by
  show XF fI l C mX0_leastShare 0 [some (.ref 44), some (.ref w), none, none, none, none, none] [] G I Q
  refine XF.lift (pc2 := 2) (ls2 := [some (.ref 44), some (.ref w), some (.int 0), none, none, none, none]) (st2 := []) (I2 := I) ?_ (fun r I' hk => by
      refine XW.iconst (v := 0) eX0_leastShare_0 (by decide) ?_
      refine XW.istore_n (ls' := [some (.ref 44), some (.ref w), some (.int 0), none, none, none, none]) eX0_leastShare_1 (Nat.le_of_ble_eq_true rfl) rfl ?_
      exact hk)
  exact h
set_option maxRecDepth 100000 in
set_option maxHeartbeats 4000000 in
theorem VX0_leastShare_2 {l : Launch} {C : xC} {G : xG} (hs : SH G)  {w : Nat} (hw : RW G w) (hw0 : 49 ≤ w) (I : xI) (x2 : Int32) {Q : Int32 → xI → Prop} (h :
    ((4 ≤ x2 → XF fI l C mX0_leastShare 30 [some (.ref 44), some (.ref w), some (.int 1), some (.int 0), some (.int 0), some (.int 0), none] [] G I Q) ∧ (¬ (4 ≤ x2) → vp_in x2 4 ∧ XF fI l C mX0_leastShare 2 [some (.ref 44), some (.ref w), some (.int (x2 + 1)), none, none, none, none] [] G (wI I 48 x2.toNatClampNeg 0) Q))) : XF fI l C mX0_leastShare 2 [some (.ref 44), some (.ref w), some (.int x2), none, none, none, none] [] G I Q := by
  refine XF.lift (pc2 := 4) (ls2 := [some (.ref 44), some (.ref w), some (.int x2), none, none, none, none]) (st2 := [.int 4, .int x2]) (I2 := I) ?_ (fun r I' hk => by
      refine XW.iload_n eX0_leastShare_2 rfl ?_
      refine XW.iconst (v := 4) eX0_leastShare_3 (by decide) ?_
      exact hk)
  obtain ⟨ht, hf⟩ := h
  refine XF.br (P := 4 ≤ x2) (fun c_4 => ?_) (fun c_4 => ?_)
  ·
    replace h := ht c_4
    refine XF.lift (pc2 := 30) (ls2 := [some (.ref 44), some (.ref w), some (.int 1), some (.int 0), some (.int 0), some (.int 0), none]) (st2 := []) (I2 := I) ?_ (fun r I' hk => by
        refine XW.icmp_ge eX0_leastShare_4 (fun _ => ?_) (fun z => absurd c_4 z)
        refine XW.iconst (v := 1) eX0_leastShare_20 (by decide) ?_
        refine XW.istore_n (ls' := [some (.ref 44), some (.ref w), some (.int 1), none, none, none, none]) eX0_leastShare_21 (Nat.le_of_ble_eq_true rfl) rfl ?_
        refine XW.iconst (v := 0) eX0_leastShare_22 (by decide) ?_
        refine XW.istore_n (ls' := [some (.ref 44), some (.ref w), some (.int 1), some (.int 0), none, none, none]) eX0_leastShare_23 (Nat.le_of_ble_eq_true rfl) rfl ?_
        refine XW.iconst (v := 0) eX0_leastShare_24 (by decide) ?_
        refine XW.istore (ls' := [some (.ref 44), some (.ref w), some (.int 1), some (.int 0), some (.int 0), none, none]) eX0_leastShare_25 (Nat.le_of_ble_eq_true rfl) rfl ?_
        refine XW.iconst (v := 0) eX0_leastShare_27 (by decide) ?_
        refine XW.istore (ls' := [some (.ref 44), some (.ref w), some (.int 1), some (.int 0), some (.int 0), some (.int 0), none]) eX0_leastShare_28 (Nat.le_of_ble_eq_true rfl) rfl ?_
        exact hk)
    exact h
  ·
    replace h := hf c_4
    obtain ⟨q_13, h⟩ := h
    refine XF.lift (pc2 := 2) (ls2 := [some (.ref 44), some (.ref w), some (.int (x2 + 1)), none, none, none, none]) (st2 := []) (I2 := (wI I 48 x2.toNatClampNeg 0)) ?_ (fun r I' hk => by
        refine XW.icmp_ge eX0_leastShare_4 (fun z => absurd z c_4) (fun _ => ?_)
        refine XW.aload_n eX0_leastShare_7 rfl ?_
        refine XW.getR (b := 48) eX0_leastShare_8 f0_21_0 rfl (so_44 hs) (sr_44_4 hs) ?_
        refine XW.iload_n eX0_leastShare_11 rfl ?_
        refine XW.iconst (v := 0) eX0_leastShare_12 (by decide) ?_
        refine XW.iastore eX0_leastShare_13 (sa_48 hs) q_13 ?_
        refine XW.iinc (y := (x2 + 1)) (ls' := [some (.ref 44), some (.ref w), some (.int (x2 + 1)), none, none, none, none]) eX0_leastShare_14 rfl rfl rfl ?_
        refine XW.goto eX0_leastShare_17 ?_
        exact hk)
    exact h
set_option maxRecDepth 100000 in
set_option maxHeartbeats 4000000 in
theorem VX0_leastShare_30 {l : Launch} {C : xC} {G : xG} (hs : SH G)  {w : Nat} (hw : RW G w) (hw0 : 49 ≤ w) (I : xI) (x2 x3 x4 x5 : Int32) {Q : Int32 → xI → Prop} (h :
    (((I w 2) ≤ x5 → Q x2 I) ∧ (¬ ((I w 2) ≤ x5) → XF fI l C mX0_leastShare 39 [some (.ref 44), some (.ref w), some (.int x2), some (.int x3), some (.int x4), some (.int x5), none] [] G I Q))) : XF fI l C mX0_leastShare 30 [some (.ref 44), some (.ref w), some (.int x2), some (.int x3), some (.int x4), some (.int x5), none] [] G I Q := by
  refine XF.lift (pc2 := 36) (ls2 := [some (.ref 44), some (.ref w), some (.int x2), some (.int x3), some (.int x4), some (.int x5), none]) (st2 := [.int (I w 2), .int x5]) (I2 := I) ?_ (fun r I' hk => by
      refine XW.iload eX0_leastShare_30 rfl ?_
      refine XW.aload_n eX0_leastShare_32 rfl ?_
      refine XW.getI eX0_leastShare_33 f0_32_4 rfl hw.1 ?_
      exact hk)
  obtain ⟨ht, hf⟩ := h
  refine XF.br (P := (I w 2) ≤ x5) (fun c_36 => ?_) (fun c_36 => ?_)
  ·
    replace h := ht c_36
    refine XF.lift (pc2 := 130) (ls2 := [some (.ref 44), some (.ref w), some (.int x2), some (.int x3), some (.int x4), some (.int x5), none]) (st2 := [.int x2]) (I2 := I) ?_ (fun r I' hk => by
        refine XW.icmp_ge eX0_leastShare_36 (fun _ => ?_) (fun z => absurd c_36 z)
        refine XW.iload_n eX0_leastShare_129 rfl ?_
        exact hk)
    exact ⟨x2, I, XW.iret eX0_leastShare_130 rfl rfl rfl rfl rfl, h⟩
  ·
    replace h := hf c_36
    refine XF.lift (pc2 := 39) (ls2 := [some (.ref 44), some (.ref w), some (.int x2), some (.int x3), some (.int x4), some (.int x5), none]) (st2 := []) (I2 := I) ?_ (fun r I' hk => by
        refine XW.icmp_ge eX0_leastShare_36 (fun z => absurd z c_36) (fun _ => ?_)
        exact hk)
    exact h
set_option maxRecDepth 100000 in
set_option maxHeartbeats 4000000 in
theorem VX0_leastShare_39 {l : Launch} {C : xC} {G : xG} (hs : SH G)  {w : Nat} (hw : RW G w) (hw0 : 49 ≤ w) (I : xI) (x2 x3 x4 x5 : Int32) {Q : Int32 → xI → Prop} (h :
    vp_in x5 80 ∧ (((I (w + 1) x5.toNatClampNeg) ≤ x3 → vp_in (I (w + 2) x5.toNatClampNeg) 4 ∧ (∃ Qc : Int32 → xI → Prop, XF fI l C mX0_shareToTake 0 (xent mX0_shareToTake [.int (I 48 (I (w + 2) x5.toNatClampNeg).toNatClampNeg), .int ((I 3 2) - x4)]) [] G I Qc ∧ ∀ (v_93 : Int32) (I_93 : xI), Qc v_93 I_93 → (((if x2 < v_93 then v_93 else x2) ≤ 160 → XF fI l C mX0_leastShare 30 [some (.ref 44), some (.ref w), some (.int (if x2 < v_93 then v_93 else x2)), some (.int x3), some (.int (x4 + 1)), some (.int (x5 + 1)), none] [] G (wI I_93 48 (I (w + 2) x5.toNatClampNeg).toNatClampNeg ((I_93 48 (I (w + 2) x5.toNatClampNeg).toNatClampNeg) + 1)) Q) ∧ (¬ ((if x2 < v_93 then v_93 else x2) ≤ 160) → Q (-1) I_93)))) ∧ (¬ ((I (w + 1) x5.toNatClampNeg) ≤ x3) → (∃ Qc : Int32 → xI → Prop, XF fI l C mX0_passTick 0 (xent mX0_passTick [.ref 44, .int x3]) [] G I Qc ∧ ∀ (v_54 : Int32) (I_54 : xI), Qc v_54 I_54 → XF fI l C mX0_leastShare 39 [some (.ref 44), some (.ref w), some (.int x2), some (.int (x3 + 1)), some (.int (x4 - v_54)), some (.int x5), none] [] G I_54 Q)))) : XF fI l C mX0_leastShare 39 [some (.ref 44), some (.ref w), some (.int x2), some (.int x3), some (.int x4), some (.int x5), none] [] G I Q := by
  obtain ⟨q_46, h⟩ := h
  refine XF.lift (pc2 := 47) (ls2 := [some (.ref 44), some (.ref w), some (.int x2), some (.int x3), some (.int x4), some (.int x5), none]) (st2 := [.int (I (w + 1) x5.toNatClampNeg), .int x3]) (I2 := I) ?_ (fun r I' hk => by
      refine XW.iload_n eX0_leastShare_39 rfl ?_
      refine XW.aload_n eX0_leastShare_40 rfl ?_
      refine XW.getR (b := (w + 1)) eX0_leastShare_41 f0_38_4 rfl hw.1 hw.2.1 ?_
      refine XW.iload eX0_leastShare_44 rfl ?_
      refine XW.iaload eX0_leastShare_46 hw.2.2.2.1 q_46 ?_
      exact hk)
  obtain ⟨ht, hf⟩ := h
  refine XF.br (P := (I (w + 1) x5.toNatClampNeg) ≤ x3) (fun c_47 => ?_) (fun c_47 => ?_)
  ·
    replace h := ht c_47
    obtain ⟨q_82, h⟩ := h
    refine XF.lift (pc2 := 93) (ls2 := [some (.ref 44), some (.ref w), some (.int x2), some (.int x3), some (.int x4), some (.int x5), some (.int (I (w + 2) x5.toNatClampNeg))]) (st2 := [.int ((I 3 2) - x4), .int (I 48 (I (w + 2) x5.toNatClampNeg).toNatClampNeg), .int x2]) (I2 := I) ?_ (fun r I' hk => by
        refine XW.icmp_ge eX0_leastShare_47 (fun _ => ?_) (fun z => absurd c_47 z)
        refine XW.aload_n eX0_leastShare_66 rfl ?_
        refine XW.getR (b := (w + 2)) eX0_leastShare_67 f0_54_4 rfl hw.1 hw.2.2.1 ?_
        refine XW.iload eX0_leastShare_70 rfl ?_
        refine XW.iaload eX0_leastShare_72 hw.2.2.2.2 q_46 ?_
        refine XW.istore (ls' := [some (.ref 44), some (.ref w), some (.int x2), some (.int x3), some (.int x4), some (.int x5), some (.int (I (w + 2) x5.toNatClampNeg))]) eX0_leastShare_73 (Nat.le_of_ble_eq_true rfl) rfl ?_
        refine XW.iload_n eX0_leastShare_75 rfl ?_
        refine XW.aload_n eX0_leastShare_76 rfl ?_
        refine XW.getR (b := 48) eX0_leastShare_77 f0_21_0 rfl (so_44 hs) (sr_44_4 hs) ?_
        refine XW.iload eX0_leastShare_80 rfl ?_
        refine XW.iaload eX0_leastShare_82 (sa_48 hs) q_82 ?_
        refine XW.aload_n eX0_leastShare_83 rfl ?_
        refine XW.getR (b := 3) eX0_leastShare_84 f0_24_0 rfl (so_44 hs) (sr_44_0 hs) ?_
        refine XW.getI eX0_leastShare_87 f0_45_6 rfl (so_3 hs) ?_
        refine XW.iload eX0_leastShare_90 rfl ?_
        refine XW.isub eX0_leastShare_92 ?_
        exact hk)
    obtain ⟨Qc, hc, h⟩ := h
    refine XF.call (nx := 96) (st := [.int x2]) hc (fun v I1 r I' hY hk => XW.callS (As := [.int (I 48 (I (w + 2) x5.toNatClampNeg).toNatClampNeg), .int ((I 3 2) - x4)]) (st := [.int x2]) eX0_leastShare_93 okX0_shareToTake cs0_76 rfl hY (xnum rfl rfl rfl rfl rfl) hk) (fun v_93 I_93 hq => ?_)
    replace h := h v_93 I_93 hq
    refine XF.lift (pc2 := 104) (ls2 := [some (.ref 44), some (.ref w), some (.int (if x2 < v_93 then v_93 else x2)), some (.int x3), some (.int x4), some (.int x5), some (.int (I (w + 2) x5.toNatClampNeg))]) (st2 := [.int 160, .int (if x2 < v_93 then v_93 else x2)]) (I2 := I_93) ?_ (fun r I' hk => by
        refine XW.mmax eX0_leastShare_96 mx0_79 (Nat.le_of_ble_eq_true rfl) (Nat.le_of_ble_eq_true rfl) ⟨Nat.le_refl _, Nat.le_refl _⟩ ?_
        refine XW.istore_n (ls' := [some (.ref 44), some (.ref w), some (.int (if x2 < v_93 then v_93 else x2)), some (.int x3), some (.int x4), some (.int x5), some (.int (I (w + 2) x5.toNatClampNeg))]) eX0_leastShare_99 (Nat.le_of_ble_eq_true rfl) rfl ?_
        refine XW.iload_n eX0_leastShare_100 rfl ?_
        refine XW.sipush (v := 160) eX0_leastShare_101 (by decide) ?_
        exact hk)
    obtain ⟨ht, hf⟩ := h
    refine XF.br (P := (if x2 < v_93 then v_93 else x2) ≤ 160) (fun c_104 => ?_) (fun c_104 => ?_)
    ·
      replace h := ht c_104
      refine XF.lift (pc2 := 30) (ls2 := [some (.ref 44), some (.ref w), some (.int (if x2 < v_93 then v_93 else x2)), some (.int x3), some (.int (x4 + 1)), some (.int (x5 + 1)), none]) (st2 := []) (I2 := (wI I_93 48 (I (w + 2) x5.toNatClampNeg).toNatClampNeg ((I_93 48 (I (w + 2) x5.toNatClampNeg).toNatClampNeg) + 1))) ?_ (fun r I' hk => by
          refine XW.icmp_le eX0_leastShare_104 (fun _ => ?_) (fun z => absurd c_104 z)
          refine XW.aload_n eX0_leastShare_109 rfl ?_
          refine XW.getR (b := 48) eX0_leastShare_110 f0_21_0 rfl (so_44 hs) (sr_44_4 hs) ?_
          refine XW.iload eX0_leastShare_113 rfl ?_
          refine XW.dup2 eX0_leastShare_115 rfl rfl ?_
          refine XW.iaload eX0_leastShare_116 (sa_48 hs) q_82 ?_
          refine XW.iconst (v := 1) eX0_leastShare_117 (by decide) ?_
          refine XW.iadd eX0_leastShare_118 ?_
          refine XW.iastore eX0_leastShare_119 (sa_48 hs) q_82 ?_
          refine XW.iinc (y := (x4 + 1)) (ls' := [some (.ref 44), some (.ref w), some (.int (if x2 < v_93 then v_93 else x2)), some (.int x3), some (.int (x4 + 1)), some (.int x5), some (.int (I (w + 2) x5.toNatClampNeg))]) eX0_leastShare_120 rfl rfl rfl ?_
          refine XW.iinc (y := (x5 + 1)) (ls' := [some (.ref 44), some (.ref w), some (.int (if x2 < v_93 then v_93 else x2)), some (.int x3), some (.int (x4 + 1)), some (.int (x5 + 1)), some (.int (I (w + 2) x5.toNatClampNeg))]) eX0_leastShare_123 rfl rfl rfl ?_
          refine XW.goto eX0_leastShare_126 ?_
          refine XW.forget 6 rfl ?_
          exact hk)
      exact h
    ·
      replace h := hf c_104
      refine XF.lift (pc2 := 108) (ls2 := [some (.ref 44), some (.ref w), some (.int (if x2 < v_93 then v_93 else x2)), some (.int x3), some (.int x4), some (.int x5), some (.int (I (w + 2) x5.toNatClampNeg))]) (st2 := [.int (-1)]) (I2 := I_93) ?_ (fun r I' hk => by
          refine XW.icmp_le eX0_leastShare_104 (fun z => absurd z c_104) (fun _ => ?_)
          refine XW.iconst (v := (-1)) eX0_leastShare_107 (by decide) ?_
          exact hk)
      exact ⟨(-1), I_93, XW.iret eX0_leastShare_108 rfl rfl rfl rfl rfl, h⟩
  ·
    replace h := hf c_47
    refine XF.lift (pc2 := 54) (ls2 := [some (.ref 44), some (.ref w), some (.int x2), some (.int x3), some (.int x4), some (.int x5), none]) (st2 := [.int x3, .ref 44, .int x4]) (I2 := I) ?_ (fun r I' hk => by
        refine XW.icmp_ge eX0_leastShare_47 (fun z => absurd z c_47) (fun _ => ?_)
        refine XW.iload eX0_leastShare_50 rfl ?_
        refine XW.aload_n eX0_leastShare_52 rfl ?_
        refine XW.iload_n eX0_leastShare_53 rfl ?_
        exact hk)
    obtain ⟨Qc, hc, h⟩ := h
    refine XF.call (nx := 57) (st := [.int x4]) hc (fun v I1 r I' hY hk => XW.callV (As := [.int x3]) (st := [.int x4]) eX0_leastShare_54 okX0_passTick cv0_73 rfl (so_44 hs) hY (xnum rfl rfl rfl rfl rfl) hk) (fun v_54 I_54 hq => ?_)
    replace h := h v_54 I_54 hq
    refine XF.lift (pc2 := 39) (ls2 := [some (.ref 44), some (.ref w), some (.int x2), some (.int (x3 + 1)), some (.int (x4 - v_54)), some (.int x5), none]) (st2 := []) (I2 := I_54) ?_ (fun r I' hk => by
        refine XW.isub eX0_leastShare_57 ?_
        refine XW.istore (ls' := [some (.ref 44), some (.ref w), some (.int x2), some (.int x3), some (.int (x4 - v_54)), some (.int x5), none]) eX0_leastShare_58 (Nat.le_of_ble_eq_true rfl) rfl ?_
        refine XW.iinc (y := (x3 + 1)) (ls' := [some (.ref 44), some (.ref w), some (.int x2), some (.int (x3 + 1)), some (.int (x4 - v_54)), some (.int x5), none]) eX0_leastShare_60 rfl rfl rfl ?_
        refine XW.goto eX0_leastShare_63 ?_
        exact hk)
    exact h
set_option maxRecDepth 100000 in
set_option maxHeartbeats 4000000 in
theorem VX9_isWithin {l : Launch} {C : xC} {G : xG} (hs : SH G)  (I : xI) (y0 y1 y2 : Int32) {Q : Int32 → xI → Prop} (h :
    ((y0 < y1 → Q 0 I) ∧ (¬ (y0 < y1) → ((y2 < y0 → Q 0 I) ∧ (¬ (y2 < y0) → Q 1 I))))) : XF fI l C mX9_isWithin 0 (xent mX9_isWithin [.int y0, .int y1, .int y2]) [] G I Q := by
  show XF fI l C mX9_isWithin 0 [some (.int y0), some (.int y1), some (.int y2)] [] G I Q
  refine XF.lift (pc2 := 2) (ls2 := [some (.int y0), some (.int y1), some (.int y2)]) (st2 := [.int y1, .int y0]) (I2 := I) ?_ (fun r I' hk => by
      refine XW.iload_n eX9_isWithin_0 rfl ?_
      refine XW.iload_n eX9_isWithin_1 rfl ?_
      exact hk)
  obtain ⟨ht, hf⟩ := h
  refine XF.br (P := y0 < y1) (fun c_2 => ?_) (fun c_2 => ?_)
  ·
    replace h := ht c_2
    refine XF.lift (pc2 := 15) (ls2 := [some (.int y0), some (.int y1), some (.int y2)]) (st2 := [.int 0]) (I2 := I) ?_ (fun r I' hk => by
        refine XW.icmp_lt eX9_isWithin_2 (fun _ => ?_) (fun z => absurd c_2 z)
        refine XW.iconst (v := 0) eX9_isWithin_14 (by decide) ?_
        exact hk)
    exact ⟨0, I, XW.iret eX9_isWithin_15 rfl rfl rfl rfl rfl, h⟩
  ·
    replace h := hf c_2
    refine XF.lift (pc2 := 7) (ls2 := [some (.int y0), some (.int y1), some (.int y2)]) (st2 := [.int y2, .int y0]) (I2 := I) ?_ (fun r I' hk => by
        refine XW.icmp_lt eX9_isWithin_2 (fun z => absurd z c_2) (fun _ => ?_)
        refine XW.iload_n eX9_isWithin_5 rfl ?_
        refine XW.iload_n eX9_isWithin_6 rfl ?_
        exact hk)
    obtain ⟨ht, hf⟩ := h
    refine XF.br (P := y2 < y0) (fun c_7 => ?_) (fun c_7 => ?_)
    ·
      replace h := ht c_7
      refine XF.lift (pc2 := 15) (ls2 := [some (.int y0), some (.int y1), some (.int y2)]) (st2 := [.int 0]) (I2 := I) ?_ (fun r I' hk => by
          refine XW.icmp_gt eX9_isWithin_7 (fun _ => ?_) (fun z => absurd c_7 z)
          refine XW.iconst (v := 0) eX9_isWithin_14 (by decide) ?_
          exact hk)
      exact ⟨0, I, XW.iret eX9_isWithin_15 rfl rfl rfl rfl rfl, h⟩
    ·
      replace h := hf c_7
      refine XF.lift (pc2 := 15) (ls2 := [some (.int y0), some (.int y1), some (.int y2)]) (st2 := [.int 1]) (I2 := I) ?_ (fun r I' hk => by
          refine XW.icmp_gt eX9_isWithin_7 (fun z => absurd z c_7) (fun _ => ?_)
          refine XW.iconst (v := 1) eX9_isWithin_10 (by decide) ?_
          refine XW.goto eX9_isWithin_11 ?_
          exact hk)
      exact ⟨1, I, XW.iret eX9_isWithin_15 rfl rfl rfl rfl rfl, h⟩
set_option maxRecDepth 100000 in
set_option maxHeartbeats 4000000 in
theorem VX9_isSheetNumber {l : Launch} {C : xC} {G : xG} (hs : SH G)  (I : xI) (y0 : Int32) {Q : Int32 → xI → Prop} (h :
    (∃ Qc : Int32 → xI → Prop, XF fI l C mX9_isWithin 0 (xent mX9_isWithin [.int y0, .int 0, .int 3]) [] G I Qc ∧ ∀ (v_3 : Int32) (I_3 : xI), Qc v_3 I_3 → (v_3 = 0 ∨ v_3 = 1) ∧ Q v_3 I_3)) : XF fI l C mX9_isSheetNumber 0 (xent mX9_isSheetNumber [.int y0]) [] G I Q := by
  show XF fI l C mX9_isSheetNumber 0 [some (.int y0)] [] G I Q
  refine XF.lift (pc2 := 3) (ls2 := [some (.int y0)]) (st2 := [.int 3, .int 0, .int y0]) (I2 := I) ?_ (fun r I' hk => by
      refine XW.iload_n eX9_isSheetNumber_0 rfl ?_
      refine XW.iconst (v := 0) eX9_isSheetNumber_1 (by decide) ?_
      refine XW.iconst (v := 3) eX9_isSheetNumber_2 (by decide) ?_
      exact hk)
  obtain ⟨Qc, hc, h⟩ := h
  refine XF.call (nx := 6) (st := []) hc (fun v I1 r I' hY hk => XW.callS (As := [.int y0, .int 0, .int 3]) (st := []) eX9_isSheetNumber_3 okX9_isWithin cs9_53 rfl hY (xnum rfl rfl rfl rfl rfl) hk) (fun v_3 I_3 hq => ?_)
  replace h := h v_3 I_3 hq
  obtain ⟨b_6, h⟩ := h
  exact ⟨v_3, I_3, XW.iret eX9_isSheetNumber_6 rfl (nar01 b_6) rfl rfl rfl, h⟩
set_option maxRecDepth 100000 in
set_option maxHeartbeats 4000000 in
theorem VX9_isLane {l : Launch} {C : xC} {G : xG} (hs : SH G)  (I : xI) (y0 : Int32) {Q : Int32 → xI → Prop} (h :
    (∃ Qc : Int32 → xI → Prop, XF fI l C mX9_isWithin 0 (xent mX9_isWithin [.int y0, .int 0, .int 2]) [] G I Qc ∧ ∀ (v_3 : Int32) (I_3 : xI), Qc v_3 I_3 → (v_3 = 0 ∨ v_3 = 1) ∧ Q v_3 I_3)) : XF fI l C mX9_isLane 0 (xent mX9_isLane [.int y0]) [] G I Q := by
  show XF fI l C mX9_isLane 0 [some (.int y0)] [] G I Q
  refine XF.lift (pc2 := 3) (ls2 := [some (.int y0)]) (st2 := [.int 2, .int 0, .int y0]) (I2 := I) ?_ (fun r I' hk => by
      refine XW.iload_n eX9_isLane_0 rfl ?_
      refine XW.iconst (v := 0) eX9_isLane_1 (by decide) ?_
      refine XW.iconst (v := 2) eX9_isLane_2 (by decide) ?_
      exact hk)
  obtain ⟨Qc, hc, h⟩ := h
  refine XF.call (nx := 6) (st := []) hc (fun v I1 r I' hY hk => XW.callS (As := [.int y0, .int 0, .int 2]) (st := []) eX9_isLane_3 okX9_isWithin cs9_53 rfl hY (xnum rfl rfl rfl rfl rfl) hk) (fun v_3 I_3 hq => ?_)
  replace h := h v_3 I_3 hq
  obtain ⟨b_6, h⟩ := h
  exact ⟨v_3, I_3, XW.iret eX9_isLane_6 rfl (nar01 b_6) rfl rfl rfl, h⟩
set_option maxRecDepth 100000 in
set_option maxHeartbeats 4000000 in
theorem VX9_rowAt {l : Launch} {C : xC} {G : xG} (hs : SH G)  (I : xI) (y1 : Int32) {Q : Nat → xI → Prop} (h :
    (∃ Qc : Int32 → xI → Prop, XF fI l C mX9_isWithin 0 (xent mX9_isWithin [.int y1, .int 0, .int 3]) [] G I Qc ∧ ∀ (v_3 : Int32) (I_3 : xI), Qc v_3 I_3 → ((v_3 = 0 → Q 0 I_3) ∧ (¬ (v_3 = 0) → vp_in y1 4 ∧ Q (49 + 3 * y1.toNatClampNeg) I_3)))) : XF fR l C mX9_rowAt 0 (xent mX9_rowAt [.ref 2, .int y1]) [] G I Q := by
  show XF fR l C mX9_rowAt 0 [some (.ref 2), some (.int y1)] [] G I Q
  refine XF.lift (pc2 := 3) (ls2 := [some (.ref 2), some (.int y1)]) (st2 := [.int 3, .int 0, .int y1]) (I2 := I) ?_ (fun r I' hk => by
      refine XW.iload_n eX9_rowAt_0 rfl ?_
      refine XW.iconst (v := 0) eX9_rowAt_1 (by decide) ?_
      refine XW.iconst (v := 3) eX9_rowAt_2 (by decide) ?_
      exact hk)
  obtain ⟨Qc, hc, h⟩ := h
  refine XF.call (nx := 6) (st := []) hc (fun v I1 r I' hY hk => XW.callS (As := [.int y1, .int 0, .int 3]) (st := []) eX9_rowAt_3 okX9_isWithin cs9_53 rfl hY (xnum rfl rfl rfl rfl rfl) hk) (fun v_3 I_3 hq => ?_)
  replace h := h v_3 I_3 hq
  obtain ⟨ht, hf⟩ := h
  refine XF.br (P := v_3 = 0) (fun c_6 => ?_) (fun c_6 => ?_)
  ·
    replace h := ht c_6
    refine XF.lift (pc2 := 19) (ls2 := [some (.ref 2), some (.int y1)]) (st2 := [.ref 0]) (I2 := I_3) ?_ (fun r I' hk => by
        refine XW.if_eq eX9_rowAt_6 (fun _ => ?_) (fun z => absurd c_6 z)
        refine XW.anull eX9_rowAt_18 ?_
        exact hk)
    exact ⟨0, I_3, XW.aret eX9_rowAt_19 rfl (Or.inl ⟨_, rfl⟩) rfl rfl rfl, h⟩
  ·
    replace h := hf c_6
    obtain ⟨q_14, h⟩ := h
    refine XF.lift (pc2 := 19) (ls2 := [some (.ref 2), some (.int y1)]) (st2 := [.ref (49 + 3 * y1.toNatClampNeg)]) (I2 := I_3) ?_ (fun r I' hk => by
        refine XW.if_eq eX9_rowAt_6 (fun z => absurd z c_6) (fun _ => ?_)
        refine XW.aload_n eX9_rowAt_9 rfl ?_
        refine XW.getR (b := 6) eX9_rowAt_10 f9_18_9 rfl (so_2 hs) (sr_2_1 hs) ?_
        refine XW.iload_n eX9_rowAt_13 rfl ?_
        refine XW.aaload (b := (49 + 3 * y1.toNatClampNeg)) eX9_rowAt_14 (sa_6 hs) ⟨by decide, rfl⟩ q_14 (sq6 hs q_14) ?_
        refine XW.goto eX9_rowAt_15 ?_
        exact hk)
    exact ⟨(49 + 3 * y1.toNatClampNeg), I_3, XW.aret eX9_rowAt_19 rfl (Or.inl ⟨_, rfl⟩) rfl rfl rfl, h⟩
set_option maxRecDepth 100000 in
set_option maxHeartbeats 4000000 in
theorem VX9_areLetters {l : Launch} {C : xC} {G : xG} (hs : SH G)  {u : Nat} (hu : TSh G u) (I : xI) (y2 y3 y4 : Int32) {Q : Int32 → xI → Prop} (h :
    XF fI l C mX9_areLetters 7 [some (.ref 2), some (.ref u), some (.int y2), some (.int y3), some (.int y4), some (.int y4), some (.int 0), none] [] G I Q) : XF fI l C mX9_areLetters 0 (xent mX9_areLetters [.ref 2, .ref u, .int y2, .int y3, .int y4]) [] G I Q := by
  show XF fI l C mX9_areLetters 0 [some (.ref 2), some (.ref u), some (.int y2), some (.int y3), some (.int y4), none, none, none] [] G I Q
  refine XF.lift (pc2 := 7) (ls2 := [some (.ref 2), some (.ref u), some (.int y2), some (.int y3), some (.int y4), some (.int y4), some (.int 0), none]) (st2 := []) (I2 := I) ?_ (fun r I' hk => by
      refine XW.iload eX9_areLetters_0 rfl ?_
      refine XW.istore (ls' := [some (.ref 2), some (.ref u), some (.int y2), some (.int y3), some (.int y4), some (.int y4), none, none]) eX9_areLetters_2 (Nat.le_of_ble_eq_true rfl) rfl ?_
      refine XW.iconst (v := 0) eX9_areLetters_4 (by decide) ?_
      refine XW.istore (ls' := [some (.ref 2), some (.ref u), some (.int y2), some (.int y3), some (.int y4), some (.int y4), some (.int 0), none]) eX9_areLetters_5 (Nat.le_of_ble_eq_true rfl) rfl ?_
      exact hk)
  exact h
set_option maxRecDepth 100000 in
set_option maxHeartbeats 4000000 in
theorem VX9_areLetters_7 {l : Launch} {C : xC} {G : xG} (hs : SH G)  {u : Nat} (hu : TSh G u) (I : xI) (x2 x3 x4 x5 x6 : Int32) {Q : Int32 → xI → Prop} (h :
    ((x3 ≤ x6 → Q 1 I) ∧ (¬ (x3 ≤ x6) → vp_in (x2 + (2 * x6)) 160 ∧ (∃ Qc : Int32 → xI → Prop, XF fI l C mX9_isWithin 0 (xent mX9_isWithin [.int (I (u + 1) (x2 + (2 * x6)).toNatClampNeg), .int x5, .int 39]) [] G I Qc ∧ ∀ (v_32 : Int32) (I_32 : xI), Qc v_32 I_32 → ((v_32 = 0 → Q 0 I_32) ∧ (¬ (v_32 = 0) → vp_in ((x2 + (2 * x6)) + 1) 160 ∧ (∃ Qc : Nat → xI → Prop, XF fR l C mX6_lineAt 0 (xent mX6_lineAt [.ref 3, .int (I_32 (u + 1) ((x2 + (2 * x6)) + 1).toNatClampNeg)]) [] G I_32 Qc ∧ ∀ (v_55 : Nat) (I_55 : xI), Qc v_55 I_55 → ((v_55 = 0 → Q 0 I_55) ∧ (¬ (v_55 = 0) → XF fI l C mX9_areLetters 7 [some (.ref 2), some (.ref u), some (.int x2), some (.int x3), some (.int x4), some (.int (I (u + 1) (x2 + (2 * x6)).toNatClampNeg)), some (.int (x6 + 1)), none] [] G I_55 Q))))))))) : XF fI l C mX9_areLetters 7 [some (.ref 2), some (.ref u), some (.int x2), some (.int x3), some (.int x4), some (.int x5), some (.int x6), none] [] G I Q := by
  refine XF.lift (pc2 := 10) (ls2 := [some (.ref 2), some (.ref u), some (.int x2), some (.int x3), some (.int x4), some (.int x5), some (.int x6), none]) (st2 := [.int x3, .int x6]) (I2 := I) ?_ (fun r I' hk => by
      refine XW.iload eX9_areLetters_7 rfl ?_
      refine XW.iload_n eX9_areLetters_9 rfl ?_
      exact hk)
  obtain ⟨ht, hf⟩ := h
  refine XF.br (P := x3 ≤ x6) (fun c_10 => ?_) (fun c_10 => ?_)
  ·
    replace h := ht c_10
    refine XF.lift (pc2 := 74) (ls2 := [some (.ref 2), some (.ref u), some (.int x2), some (.int x3), some (.int x4), some (.int x5), some (.int x6), none]) (st2 := [.int 1]) (I2 := I) ?_ (fun r I' hk => by
        refine XW.icmp_ge eX9_areLetters_10 (fun _ => ?_) (fun z => absurd c_10 z)
        refine XW.iconst (v := 1) eX9_areLetters_73 (by decide) ?_
        exact hk)
    exact ⟨1, I, XW.iret eX9_areLetters_74 rfl rfl rfl rfl rfl, h⟩
  ·
    replace h := hf c_10
    obtain ⟨q_23, h⟩ := h
    refine XF.lift (pc2 := 32) (ls2 := [some (.ref 2), some (.ref u), some (.int x2), some (.int x3), some (.int x4), some (.int x5), some (.int x6), some (.int (I (u + 1) (x2 + (2 * x6)).toNatClampNeg))]) (st2 := [.int 39, .int x5, .int (I (u + 1) (x2 + (2 * x6)).toNatClampNeg)]) (I2 := I) ?_ (fun r I' hk => by
        refine XW.icmp_ge eX9_areLetters_10 (fun z => absurd z c_10) (fun _ => ?_)
        refine XW.aload_n eX9_areLetters_13 rfl ?_
        refine XW.getR (b := (u + 1)) eX9_areLetters_14 f9_144_7 rfl hu.1 hu.2.1 ?_
        refine XW.iload_n eX9_areLetters_17 rfl ?_
        refine XW.iconst (v := 2) eX9_areLetters_18 (by decide) ?_
        refine XW.iload eX9_areLetters_19 rfl ?_
        refine XW.imul eX9_areLetters_21 ?_
        refine XW.iadd eX9_areLetters_22 ?_
        refine XW.iaload eX9_areLetters_23 hu.2.2 q_23 ?_
        refine XW.istore (ls' := [some (.ref 2), some (.ref u), some (.int x2), some (.int x3), some (.int x4), some (.int x5), some (.int x6), some (.int (I (u + 1) (x2 + (2 * x6)).toNatClampNeg))]) eX9_areLetters_24 (Nat.le_of_ble_eq_true rfl) rfl ?_
        refine XW.iload eX9_areLetters_26 rfl ?_
        refine XW.iload eX9_areLetters_28 rfl ?_
        refine XW.bipush (v := 39) eX9_areLetters_30 (by decide) ?_
        exact hk)
    obtain ⟨Qc, hc, h⟩ := h
    refine XF.call (nx := 35) (st := []) hc (fun v I1 r I' hY hk => XW.callS (As := [.int (I (u + 1) (x2 + (2 * x6)).toNatClampNeg), .int x5, .int 39]) (st := []) eX9_areLetters_32 okX9_isWithin cs9_53 rfl hY (xnum rfl rfl rfl rfl rfl) hk) (fun v_32 I_32 hq => ?_)
    replace h := h v_32 I_32 hq
    obtain ⟨ht, hf⟩ := h
    refine XF.br (P := v_32 = 0) (fun c_35 => ?_) (fun c_35 => ?_)
    ·
      replace h := ht c_35
      refine XF.lift (pc2 := 62) (ls2 := [some (.ref 2), some (.ref u), some (.int x2), some (.int x3), some (.int x4), some (.int x5), some (.int x6), some (.int (I (u + 1) (x2 + (2 * x6)).toNatClampNeg))]) (st2 := [.int 0]) (I2 := I_32) ?_ (fun r I' hk => by
          refine XW.if_eq eX9_areLetters_35 (fun _ => ?_) (fun z => absurd c_35 z)
          refine XW.iconst (v := 0) eX9_areLetters_61 (by decide) ?_
          exact hk)
      exact ⟨0, I_32, XW.iret eX9_areLetters_62 rfl rfl rfl rfl rfl, h⟩
    ·
      replace h := hf c_35
      obtain ⟨q_54, h⟩ := h
      refine XF.lift (pc2 := 55) (ls2 := [some (.ref 2), some (.ref u), some (.int x2), some (.int x3), some (.int x4), some (.int x5), some (.int x6), some (.int (I (u + 1) (x2 + (2 * x6)).toNatClampNeg))]) (st2 := [.int (I_32 (u + 1) ((x2 + (2 * x6)) + 1).toNatClampNeg), .ref 3]) (I2 := I_32) ?_ (fun r I' hk => by
          refine XW.if_eq eX9_areLetters_35 (fun z => absurd z c_35) (fun _ => ?_)
          refine XW.aload_n eX9_areLetters_38 rfl ?_
          refine XW.getR (b := 3) eX9_areLetters_39 f9_10_9 rfl (so_2 hs) (sr_2_0 hs) ?_
          refine XW.aload_n eX9_areLetters_42 rfl ?_
          refine XW.getR (b := (u + 1)) eX9_areLetters_43 f9_144_7 rfl hu.1 hu.2.1 ?_
          refine XW.iload_n eX9_areLetters_46 rfl ?_
          refine XW.iconst (v := 2) eX9_areLetters_47 (by decide) ?_
          refine XW.iload eX9_areLetters_48 rfl ?_
          refine XW.imul eX9_areLetters_50 ?_
          refine XW.iadd eX9_areLetters_51 ?_
          refine XW.iconst (v := 1) eX9_areLetters_52 (by decide) ?_
          refine XW.iadd eX9_areLetters_53 ?_
          refine XW.iaload eX9_areLetters_54 hu.2.2 q_54 ?_
          exact hk)
      obtain ⟨Qc, hc, h⟩ := h
      refine XF.call (nx := 58) (st := []) hc (fun v I1 r I' hY hk => XW.callV (As := [.int (I_32 (u + 1) ((x2 + (2 * x6)) + 1).toNatClampNeg)]) (st := []) eX9_areLetters_55 okX6_lineAt cv9_77 rfl (so_3 hs) hY (xnum rfl rfl rfl rfl rfl) hk) (fun v_55 I_55 hq => ?_)
      replace h := h v_55 I_55 hq
      obtain ⟨ht, hf⟩ := h
      refine XF.br (P := v_55 = 0) (fun c_58 => ?_) (fun c_58 => ?_)
      ·
        replace h := ht c_58
        refine XF.lift (pc2 := 62) (ls2 := [some (.ref 2), some (.ref u), some (.int x2), some (.int x3), some (.int x4), some (.int x5), some (.int x6), some (.int (I (u + 1) (x2 + (2 * x6)).toNatClampNeg))]) (st2 := [.int 0]) (I2 := I_55) ?_ (fun r I' hk => by
            refine XW.ifnonnull eX9_areLetters_58 (fun z => absurd c_58 z) (fun _ => ?_)
            refine XW.iconst (v := 0) eX9_areLetters_61 (by decide) ?_
            exact hk)
        exact ⟨0, I_55, XW.iret eX9_areLetters_62 rfl rfl rfl rfl rfl, h⟩
      ·
        replace h := hf c_58
        refine XF.lift (pc2 := 7) (ls2 := [some (.ref 2), some (.ref u), some (.int x2), some (.int x3), some (.int x4), some (.int (I (u + 1) (x2 + (2 * x6)).toNatClampNeg)), some (.int (x6 + 1)), none]) (st2 := []) (I2 := I_55) ?_ (fun r I' hk => by
            refine XW.ifnonnull eX9_areLetters_58 (fun _ => ?_) (fun z => absurd z c_58)
            refine XW.iload eX9_areLetters_63 rfl ?_
            refine XW.istore (ls' := [some (.ref 2), some (.ref u), some (.int x2), some (.int x3), some (.int x4), some (.int (I (u + 1) (x2 + (2 * x6)).toNatClampNeg)), some (.int x6), some (.int (I (u + 1) (x2 + (2 * x6)).toNatClampNeg))]) eX9_areLetters_65 (Nat.le_of_ble_eq_true rfl) rfl ?_
            refine XW.iinc (y := (x6 + 1)) (ls' := [some (.ref 2), some (.ref u), some (.int x2), some (.int x3), some (.int x4), some (.int (I (u + 1) (x2 + (2 * x6)).toNatClampNeg)), some (.int (x6 + 1)), some (.int (I (u + 1) (x2 + (2 * x6)).toNatClampNeg))]) eX9_areLetters_67 rfl rfl rfl ?_
            refine XW.goto eX9_areLetters_70 ?_
            refine XW.forget 7 rfl ?_
            exact hk)
        exact h
set_option maxRecDepth 100000 in
set_option maxHeartbeats 4000000 in
theorem VX9_room {l : Launch} {C : xC} {G : xG} (hs : SH G)  (I : xI) (y1 : Int32) {Q : Int32 → xI → Prop} (h :
    (∃ Qc : Int32 → xI → Prop, XF fI l C mX9_isWithin 0 (xent mX9_isWithin [.int y1, .int 1, .int 12]) [] G I Qc ∧ ∀ (v_4 : Int32) (I_4 : xI), Qc v_4 I_4 → ((v_4 = 0 → Q (-1) I_4) ∧ (¬ (v_4 = 0) → (∃ Qc : Int32 → xI → Prop, XF fI l C mX6_partsTogether 0 (xent mX6_partsTogether [.ref 3]) [] G I_4 Qc ∧ ∀ (v_14 : Int32) (I_14 : xI), Qc v_14 I_14 → ((v_14 ≤ y1 → Q (I_14 3 2) (wI I_14 3 2 y1)) ∧ (¬ (v_14 ≤ y1) → Q (-1) I_14))))))) : XF fI l C mX9_room 0 (xent mX9_room [.ref 2, .int y1]) [] G I Q := by
  show XF fI l C mX9_room 0 [some (.ref 2), some (.int y1), none] [] G I Q
  refine XF.lift (pc2 := 4) (ls2 := [some (.ref 2), some (.int y1), none]) (st2 := [.int 12, .int 1, .int y1]) (I2 := I) ?_ (fun r I' hk => by
      refine XW.iload_n eX9_room_0 rfl ?_
      refine XW.iconst (v := 1) eX9_room_1 (by decide) ?_
      refine XW.bipush (v := 12) eX9_room_2 (by decide) ?_
      exact hk)
  obtain ⟨Qc, hc, h⟩ := h
  refine XF.call (nx := 7) (st := []) hc (fun v I1 r I' hY hk => XW.callS (As := [.int y1, .int 1, .int 12]) (st := []) eX9_room_4 okX9_isWithin cs9_53 rfl hY (xnum rfl rfl rfl rfl rfl) hk) (fun v_4 I_4 hq => ?_)
  replace h := h v_4 I_4 hq
  obtain ⟨ht, hf⟩ := h
  refine XF.br (P := v_4 = 0) (fun c_7 => ?_) (fun c_7 => ?_)
  ·
    replace h := ht c_7
    refine XF.lift (pc2 := 22) (ls2 := [some (.ref 2), some (.int y1), none]) (st2 := [.int (-1)]) (I2 := I_4) ?_ (fun r I' hk => by
        refine XW.if_eq eX9_room_7 (fun _ => ?_) (fun z => absurd c_7 z)
        refine XW.iconst (v := (-1)) eX9_room_21 (by decide) ?_
        exact hk)
    exact ⟨(-1), I_4, XW.iret eX9_room_22 rfl rfl rfl rfl rfl, h⟩
  ·
    replace h := hf c_7
    refine XF.lift (pc2 := 14) (ls2 := [some (.ref 2), some (.int y1), none]) (st2 := [.ref 3]) (I2 := I_4) ?_ (fun r I' hk => by
        refine XW.if_eq eX9_room_7 (fun z => absurd z c_7) (fun _ => ?_)
        refine XW.aload_n eX9_room_10 rfl ?_
        refine XW.getR (b := 3) eX9_room_11 f9_10_9 rfl (so_2 hs) (sr_2_0 hs) ?_
        exact hk)
    obtain ⟨Qc, hc, h⟩ := h
    refine XF.call (nx := 17) (st := []) hc (fun v I1 r I' hY hk => XW.callV (As := []) (st := []) eX9_room_14 okX6_partsTogether cv9_57 rfl (so_3 hs) hY (xnum rfl rfl rfl rfl rfl) hk) (fun v_14 I_14 hq => ?_)
    replace h := h v_14 I_14 hq
    refine XF.lift (pc2 := 18) (ls2 := [some (.ref 2), some (.int y1), none]) (st2 := [.int y1, .int v_14]) (I2 := I_14) ?_ (fun r I' hk => by
        refine XW.iload_n eX9_room_17 rfl ?_
        exact hk)
    obtain ⟨ht, hf⟩ := h
    refine XF.br (P := v_14 ≤ y1) (fun c_18 => ?_) (fun c_18 => ?_)
    ·
      replace h := ht c_18
      refine XF.lift (pc2 := 40) (ls2 := [some (.ref 2), some (.int y1), some (.int (I_14 3 2))]) (st2 := [.int (I_14 3 2)]) (I2 := (wI I_14 3 2 y1)) ?_ (fun r I' hk => by
          refine XW.icmp_le eX9_room_18 (fun _ => ?_) (fun z => absurd c_18 z)
          refine XW.aload_n eX9_room_23 rfl ?_
          refine XW.getR (b := 3) eX9_room_24 f9_10_9 rfl (so_2 hs) (sr_2_0 hs) ?_
          refine XW.getI eX9_room_27 f9_61_6 rfl (so_3 hs) ?_
          refine XW.istore_n (ls' := [some (.ref 2), some (.int y1), some (.int (I_14 3 2))]) eX9_room_30 (Nat.le_of_ble_eq_true rfl) rfl ?_
          refine XW.aload_n eX9_room_31 rfl ?_
          refine XW.getR (b := 3) eX9_room_32 f9_10_9 rfl (so_2 hs) (sr_2_0 hs) ?_
          refine XW.iload_n eX9_room_35 rfl ?_
          refine XW.putI eX9_room_36 f9_61_6 (xP_of rfl (by decide)) rfl ⟨rfl, rfl⟩ (so_3 hs) ?_
          refine XW.iload_n eX9_room_39 rfl ?_
          exact hk)
      exact ⟨(I_14 3 2), (wI I_14 3 2 y1), XW.iret eX9_room_40 rfl rfl rfl rfl rfl, h⟩
    ·
      replace h := hf c_18
      refine XF.lift (pc2 := 22) (ls2 := [some (.ref 2), some (.int y1), none]) (st2 := [.int (-1)]) (I2 := I_14) ?_ (fun r I' hk => by
          refine XW.icmp_le eX9_room_18 (fun z => absurd z c_18) (fun _ => ?_)
          refine XW.iconst (v := (-1)) eX9_room_21 (by decide) ?_
          exact hk)
      exact ⟨(-1), I_14, XW.iret eX9_room_22 rfl rfl rfl rfl rfl, h⟩
set_option maxRecDepth 100000 in
set_option maxHeartbeats 4000000 in
theorem VX9_mark {l : Launch} {C : xC} {G : xG} (hs : SH G)  (I : xI) (y1 y2 : Int32) {Q : Int32 → xI → Prop} (h :
    (∃ Qc : Nat → xI → Prop, XF fR l C mX6_lineAt 0 (xent mX6_lineAt [.ref 3, .int y1]) [] G I Qc ∧ ∀ (v_5 : Nat) (I_5 : xI), Qc v_5 I_5 → ((v_5 = 0 → Q (-1) I_5) ∧ (¬ (v_5 = 0) → (∃ Qc : Int32 → xI → Prop, XF fI l C mX9_isWithin 0 (xent mX9_isWithin [.int y2, .int 0, .int 12]) [] G I_5 Qc ∧ ∀ (v_17 : Int32) (I_17 : xI), Qc v_17 I_17 → ((v_17 = 0 → Q (-1) I_17) ∧ (¬ (v_17 = 0) → LN G v_5 ∧ Q (I_17 v_5 0) (wI I_17 v_5 0 y2)))))))) : XF fI l C mX9_mark 0 (xent mX9_mark [.ref 2, .int y1, .int y2]) [] G I Q := by
  show XF fI l C mX9_mark 0 [some (.ref 2), some (.int y1), some (.int y2), none, none] [] G I Q
  refine XF.lift (pc2 := 5) (ls2 := [some (.ref 2), some (.int y1), some (.int y2), none, none]) (st2 := [.int y1, .ref 3]) (I2 := I) ?_ (fun r I' hk => by
      refine XW.aload_n eX9_mark_0 rfl ?_
      refine XW.getR (b := 3) eX9_mark_1 f9_10_9 rfl (so_2 hs) (sr_2_0 hs) ?_
      refine XW.iload_n eX9_mark_4 rfl ?_
      exact hk)
  obtain ⟨Qc, hc, h⟩ := h
  refine XF.call (nx := 8) (st := []) hc (fun v I1 r I' hY hk => XW.callV (As := [.int y1]) (st := []) eX9_mark_5 okX6_lineAt cv9_77 rfl (so_3 hs) hY (xnum rfl rfl rfl rfl rfl) hk) (fun v_5 I_5 hq => ?_)
  replace h := h v_5 I_5 hq
  refine XF.lift (pc2 := 10) (ls2 := [some (.ref 2), some (.int y1), some (.int y2), some (.ref v_5), none]) (st2 := [.ref v_5]) (I2 := I_5) ?_ (fun r I' hk => by
      refine XW.astore_n (ls' := [some (.ref 2), some (.int y1), some (.int y2), some (.ref v_5), none]) eX9_mark_8 (Nat.le_of_ble_eq_true rfl) rfl ?_
      refine XW.aload_n eX9_mark_9 rfl ?_
      exact hk)
  obtain ⟨ht, hf⟩ := h
  refine XF.br (P := v_5 = 0) (fun c_10 => ?_) (fun c_10 => ?_)
  ·
    replace h := ht c_10
    refine XF.lift (pc2 := 24) (ls2 := [some (.ref 2), some (.int y1), some (.int y2), some (.ref v_5), none]) (st2 := [.int (-1)]) (I2 := I_5) ?_ (fun r I' hk => by
        refine XW.ifnull eX9_mark_10 (fun _ => ?_) (fun z => absurd c_10 z)
        refine XW.iconst (v := (-1)) eX9_mark_23 (by decide) ?_
        exact hk)
    exact ⟨(-1), I_5, XW.iret eX9_mark_24 rfl rfl rfl rfl rfl, h⟩
  ·
    replace h := hf c_10
    refine XF.lift (pc2 := 17) (ls2 := [some (.ref 2), some (.int y1), some (.int y2), some (.ref v_5), none]) (st2 := [.int 12, .int 0, .int y2]) (I2 := I_5) ?_ (fun r I' hk => by
        refine XW.ifnull eX9_mark_10 (fun z => absurd z c_10) (fun _ => ?_)
        refine XW.iload_n eX9_mark_13 rfl ?_
        refine XW.iconst (v := 0) eX9_mark_14 (by decide) ?_
        refine XW.bipush (v := 12) eX9_mark_15 (by decide) ?_
        exact hk)
    obtain ⟨Qc, hc, h⟩ := h
    refine XF.call (nx := 20) (st := []) hc (fun v I1 r I' hY hk => XW.callS (As := [.int y2, .int 0, .int 12]) (st := []) eX9_mark_17 okX9_isWithin cs9_53 rfl hY (xnum rfl rfl rfl rfl rfl) hk) (fun v_17 I_17 hq => ?_)
    replace h := h v_17 I_17 hq
    obtain ⟨ht, hf⟩ := h
    refine XF.br (P := v_17 = 0) (fun c_20 => ?_) (fun c_20 => ?_)
    ·
      replace h := ht c_20
      refine XF.lift (pc2 := 24) (ls2 := [some (.ref 2), some (.int y1), some (.int y2), some (.ref v_5), none]) (st2 := [.int (-1)]) (I2 := I_17) ?_ (fun r I' hk => by
          refine XW.if_ne eX9_mark_20 (fun z => absurd c_20 z) (fun _ => ?_)
          refine XW.iconst (v := (-1)) eX9_mark_23 (by decide) ?_
          exact hk)
      exact ⟨(-1), I_17, XW.iret eX9_mark_24 rfl rfl rfl rfl rfl, h⟩
    ·
      replace h := hf c_20
      obtain ⟨n_26, h⟩ := h
      refine XF.lift (pc2 := 38) (ls2 := [some (.ref 2), some (.int y1), some (.int y2), some (.ref v_5), some (.int (I_17 v_5 0))]) (st2 := [.int (I_17 v_5 0)]) (I2 := (wI I_17 v_5 0 y2)) ?_ (fun r I' hk => by
          refine XW.if_ne eX9_mark_20 (fun _ => ?_) (fun z => absurd z c_20)
          refine XW.aload_n eX9_mark_25 rfl ?_
          refine XW.getL eX9_mark_26 f9_81_2 f9_81_8 f9_81_1 (by decide) n_26 ?_
          refine XW.istore (ls' := [some (.ref 2), some (.int y1), some (.int y2), some (.ref v_5), some (.int (I_17 v_5 0))]) eX9_mark_29 (Nat.le_of_ble_eq_true rfl) rfl ?_
          refine XW.aload_n eX9_mark_31 rfl ?_
          refine XW.iload_n eX9_mark_32 rfl ?_
          refine XW.putL eX9_mark_33 f9_81_2 f9_81_8 f9_81_1 (by decide) n_26 ?_
          refine XW.iload eX9_mark_36 rfl ?_
          exact hk)
      exact ⟨(I_17 v_5 0), (wI I_17 v_5 0 y2), XW.iret eX9_mark_38 rfl rfl rfl rfl rfl, h⟩
set_option maxRecDepth 100000 in
set_option maxHeartbeats 4000000 in
theorem VX9_pace {l : Launch} {C : xC} {G : xG} (hs : SH G)  (I : xI) (y1 y2 : Int32) {Q : Int32 → xI → Prop} (h :
    (∃ Qc : Nat → xI → Prop, XF fR l C mX6_lineAt 0 (xent mX6_lineAt [.ref 3, .int y1]) [] G I Qc ∧ ∀ (v_5 : Nat) (I_5 : xI), Qc v_5 I_5 → ((v_5 = 0 → Q (-1) I_5) ∧ (¬ (v_5 = 0) → (∃ Qc : Int32 → xI → Prop, XF fI l C mX9_isWithin 0 (xent mX9_isWithin [.int y2, .int 1, .int 5]) [] G I_5 Qc ∧ ∀ (v_16 : Int32) (I_16 : xI), Qc v_16 I_16 → ((v_16 = 0 → Q (-1) I_16) ∧ (¬ (v_16 = 0) → LN G v_5 ∧ Q (I_16 v_5 1) (wI I_16 v_5 1 y2)))))))) : XF fI l C mX9_pace 0 (xent mX9_pace [.ref 2, .int y1, .int y2]) [] G I Q := by
  show XF fI l C mX9_pace 0 [some (.ref 2), some (.int y1), some (.int y2), none, none] [] G I Q
  refine XF.lift (pc2 := 5) (ls2 := [some (.ref 2), some (.int y1), some (.int y2), none, none]) (st2 := [.int y1, .ref 3]) (I2 := I) ?_ (fun r I' hk => by
      refine XW.aload_n eX9_pace_0 rfl ?_
      refine XW.getR (b := 3) eX9_pace_1 f9_10_9 rfl (so_2 hs) (sr_2_0 hs) ?_
      refine XW.iload_n eX9_pace_4 rfl ?_
      exact hk)
  obtain ⟨Qc, hc, h⟩ := h
  refine XF.call (nx := 8) (st := []) hc (fun v I1 r I' hY hk => XW.callV (As := [.int y1]) (st := []) eX9_pace_5 okX6_lineAt cv9_77 rfl (so_3 hs) hY (xnum rfl rfl rfl rfl rfl) hk) (fun v_5 I_5 hq => ?_)
  replace h := h v_5 I_5 hq
  refine XF.lift (pc2 := 10) (ls2 := [some (.ref 2), some (.int y1), some (.int y2), some (.ref v_5), none]) (st2 := [.ref v_5]) (I2 := I_5) ?_ (fun r I' hk => by
      refine XW.astore_n (ls' := [some (.ref 2), some (.int y1), some (.int y2), some (.ref v_5), none]) eX9_pace_8 (Nat.le_of_ble_eq_true rfl) rfl ?_
      refine XW.aload_n eX9_pace_9 rfl ?_
      exact hk)
  obtain ⟨ht, hf⟩ := h
  refine XF.br (P := v_5 = 0) (fun c_10 => ?_) (fun c_10 => ?_)
  ·
    replace h := ht c_10
    refine XF.lift (pc2 := 23) (ls2 := [some (.ref 2), some (.int y1), some (.int y2), some (.ref v_5), none]) (st2 := [.int (-1)]) (I2 := I_5) ?_ (fun r I' hk => by
        refine XW.ifnull eX9_pace_10 (fun _ => ?_) (fun z => absurd c_10 z)
        refine XW.iconst (v := (-1)) eX9_pace_22 (by decide) ?_
        exact hk)
    exact ⟨(-1), I_5, XW.iret eX9_pace_23 rfl rfl rfl rfl rfl, h⟩
  ·
    replace h := hf c_10
    refine XF.lift (pc2 := 16) (ls2 := [some (.ref 2), some (.int y1), some (.int y2), some (.ref v_5), none]) (st2 := [.int 5, .int 1, .int y2]) (I2 := I_5) ?_ (fun r I' hk => by
        refine XW.ifnull eX9_pace_10 (fun z => absurd z c_10) (fun _ => ?_)
        refine XW.iload_n eX9_pace_13 rfl ?_
        refine XW.iconst (v := 1) eX9_pace_14 (by decide) ?_
        refine XW.iconst (v := 5) eX9_pace_15 (by decide) ?_
        exact hk)
    obtain ⟨Qc, hc, h⟩ := h
    refine XF.call (nx := 19) (st := []) hc (fun v I1 r I' hY hk => XW.callS (As := [.int y2, .int 1, .int 5]) (st := []) eX9_pace_16 okX9_isWithin cs9_53 rfl hY (xnum rfl rfl rfl rfl rfl) hk) (fun v_16 I_16 hq => ?_)
    replace h := h v_16 I_16 hq
    obtain ⟨ht, hf⟩ := h
    refine XF.br (P := v_16 = 0) (fun c_19 => ?_) (fun c_19 => ?_)
    ·
      replace h := ht c_19
      refine XF.lift (pc2 := 23) (ls2 := [some (.ref 2), some (.int y1), some (.int y2), some (.ref v_5), none]) (st2 := [.int (-1)]) (I2 := I_16) ?_ (fun r I' hk => by
          refine XW.if_ne eX9_pace_19 (fun z => absurd c_19 z) (fun _ => ?_)
          refine XW.iconst (v := (-1)) eX9_pace_22 (by decide) ?_
          exact hk)
      exact ⟨(-1), I_16, XW.iret eX9_pace_23 rfl rfl rfl rfl rfl, h⟩
    ·
      replace h := hf c_19
      obtain ⟨n_25, h⟩ := h
      refine XF.lift (pc2 := 37) (ls2 := [some (.ref 2), some (.int y1), some (.int y2), some (.ref v_5), some (.int (I_16 v_5 1))]) (st2 := [.int (I_16 v_5 1)]) (I2 := (wI I_16 v_5 1 y2)) ?_ (fun r I' hk => by
          refine XW.if_ne eX9_pace_19 (fun _ => ?_) (fun z => absurd z c_19)
          refine XW.aload_n eX9_pace_24 rfl ?_
          refine XW.getL eX9_pace_25 f9_86_2 f9_86_8 f9_86_1 (by decide) n_25 ?_
          refine XW.istore (ls' := [some (.ref 2), some (.int y1), some (.int y2), some (.ref v_5), some (.int (I_16 v_5 1))]) eX9_pace_28 (Nat.le_of_ble_eq_true rfl) rfl ?_
          refine XW.aload_n eX9_pace_30 rfl ?_
          refine XW.iload_n eX9_pace_31 rfl ?_
          refine XW.putL eX9_pace_32 f9_86_2 f9_86_8 f9_86_1 (by decide) n_25 ?_
          refine XW.iload eX9_pace_35 rfl ?_
          exact hk)
      exact ⟨(I_16 v_5 1), (wI I_16 v_5 1 y2), XW.iret eX9_pace_37 rfl rfl rfl rfl rfl, h⟩
set_option maxRecDepth 100000 in
set_option maxHeartbeats 4000000 in
theorem VX9_part {l : Launch} {C : xC} {G : xG} (hs : SH G)  (I : xI) (y1 y2 : Int32) {Q : Int32 → xI → Prop} (h :
    (∃ Qc : Nat → xI → Prop, XF fR l C mX6_lineAt 0 (xent mX6_lineAt [.ref 3, .int y1]) [] G I Qc ∧ ∀ (v_5 : Nat) (I_5 : xI), Qc v_5 I_5 → ((v_5 = 0 → Q (-1) I_5) ∧ (¬ (v_5 = 0) → (∃ Qc : Int32 → xI → Prop, XF fI l C mX9_isWithin 0 (xent mX9_isWithin [.int y2, .int 0, .int 12]) [] G I_5 Qc ∧ ∀ (v_17 : Int32) (I_17 : xI), Qc v_17 I_17 → ((v_17 = 0 → Q (-1) I_17) ∧ (¬ (v_17 = 0) → LN G v_5 ∧ ((¬ gT G v_5 = 2 → (∃ Qc : Int32 → xI → Prop, XF fI l C mX6_partsTogether 0 (xent mX6_partsTogether [.ref 3]) [] G I_17 Qc ∧ ∀ (v_42 : Int32) (I_42 : xI), Qc v_42 I_42 → ((((v_42 - (I_42 v_5 2)) + y2) ≤ (I_42 3 2) → Q (I_42 v_5 2) (wI I_42 v_5 2 y2)) ∧ (¬ (((v_42 - (I_42 v_5 2)) + y2) ≤ (I_42 3 2)) → Q (-2) I_42)))) ∧ (¬ (¬ gT G v_5 = 2) → Q (-12) I_17))))))))) : XF fI l C mX9_part 0 (xent mX9_part [.ref 2, .int y1, .int y2]) [] G I Q := by
  show XF fI l C mX9_part 0 [some (.ref 2), some (.int y1), some (.int y2), none, none, none] [] G I Q
  refine XF.lift (pc2 := 5) (ls2 := [some (.ref 2), some (.int y1), some (.int y2), none, none, none]) (st2 := [.int y1, .ref 3]) (I2 := I) ?_ (fun r I' hk => by
      refine XW.aload_n eX9_part_0 rfl ?_
      refine XW.getR (b := 3) eX9_part_1 f9_10_9 rfl (so_2 hs) (sr_2_0 hs) ?_
      refine XW.iload_n eX9_part_4 rfl ?_
      exact hk)
  obtain ⟨Qc, hc, h⟩ := h
  refine XF.call (nx := 8) (st := []) hc (fun v I1 r I' hY hk => XW.callV (As := [.int y1]) (st := []) eX9_part_5 okX6_lineAt cv9_77 rfl (so_3 hs) hY (xnum rfl rfl rfl rfl rfl) hk) (fun v_5 I_5 hq => ?_)
  replace h := h v_5 I_5 hq
  refine XF.lift (pc2 := 10) (ls2 := [some (.ref 2), some (.int y1), some (.int y2), some (.ref v_5), none, none]) (st2 := [.ref v_5]) (I2 := I_5) ?_ (fun r I' hk => by
      refine XW.astore_n (ls' := [some (.ref 2), some (.int y1), some (.int y2), some (.ref v_5), none, none]) eX9_part_8 (Nat.le_of_ble_eq_true rfl) rfl ?_
      refine XW.aload_n eX9_part_9 rfl ?_
      exact hk)
  obtain ⟨ht, hf⟩ := h
  refine XF.br (P := v_5 = 0) (fun c_10 => ?_) (fun c_10 => ?_)
  ·
    replace h := ht c_10
    refine XF.lift (pc2 := 24) (ls2 := [some (.ref 2), some (.int y1), some (.int y2), some (.ref v_5), none, none]) (st2 := [.int (-1)]) (I2 := I_5) ?_ (fun r I' hk => by
        refine XW.ifnull eX9_part_10 (fun _ => ?_) (fun z => absurd c_10 z)
        refine XW.iconst (v := (-1)) eX9_part_23 (by decide) ?_
        exact hk)
    exact ⟨(-1), I_5, XW.iret eX9_part_24 rfl rfl rfl rfl rfl, h⟩
  ·
    replace h := hf c_10
    refine XF.lift (pc2 := 17) (ls2 := [some (.ref 2), some (.int y1), some (.int y2), some (.ref v_5), none, none]) (st2 := [.int 12, .int 0, .int y2]) (I2 := I_5) ?_ (fun r I' hk => by
        refine XW.ifnull eX9_part_10 (fun z => absurd z c_10) (fun _ => ?_)
        refine XW.iload_n eX9_part_13 rfl ?_
        refine XW.iconst (v := 0) eX9_part_14 (by decide) ?_
        refine XW.bipush (v := 12) eX9_part_15 (by decide) ?_
        exact hk)
    obtain ⟨Qc, hc, h⟩ := h
    refine XF.call (nx := 20) (st := []) hc (fun v I1 r I' hY hk => XW.callS (As := [.int y2, .int 0, .int 12]) (st := []) eX9_part_17 okX9_isWithin cs9_53 rfl hY (xnum rfl rfl rfl rfl rfl) hk) (fun v_17 I_17 hq => ?_)
    replace h := h v_17 I_17 hq
    obtain ⟨ht, hf⟩ := h
    refine XF.br (P := v_17 = 0) (fun c_20 => ?_) (fun c_20 => ?_)
    ·
      replace h := ht c_20
      refine XF.lift (pc2 := 24) (ls2 := [some (.ref 2), some (.int y1), some (.int y2), some (.ref v_5), none, none]) (st2 := [.int (-1)]) (I2 := I_17) ?_ (fun r I' hk => by
          refine XW.if_ne eX9_part_20 (fun z => absurd c_20 z) (fun _ => ?_)
          refine XW.iconst (v := (-1)) eX9_part_23 (by decide) ?_
          exact hk)
      exact ⟨(-1), I_17, XW.iret eX9_part_24 rfl rfl rfl rfl rfl, h⟩
    ·
      replace h := hf c_20
      obtain ⟨n_26, h⟩ := h
      refine XF.lift (pc2 := 29) (ls2 := [some (.ref 2), some (.int y1), some (.int y2), some (.ref v_5), none, none]) (st2 := [.int (bI (¬ gT G v_5 = 2))]) (I2 := I_17) ?_ (fun r I' hk => by
          refine XW.if_ne eX9_part_20 (fun _ => ?_) (fun z => absurd z c_20)
          refine XW.aload_n eX9_part_25 rfl ?_
          refine XW.isSure eX9_part_26 cl9_64 n_26 ?_
          exact hk)
      obtain ⟨ht, hf⟩ := h
      refine XF.br (P := ¬ gT G v_5 = 2) (fun c_29 => ?_) (fun c_29 => ?_)
      ·
        replace h := ht c_29
        refine XF.lift (pc2 := 42) (ls2 := [some (.ref 2), some (.int y1), some (.int y2), some (.ref v_5), some (.ref v_5), none]) (st2 := [.ref 3]) (I2 := I_17) ?_ (fun r I' hk => by
            refine XW.if_eqB eX9_part_29 (fun z => absurd c_29 z) (fun _ => ?_)
            refine XW.aload_n eX9_part_32 rfl ?_
            refine XW.castS eX9_part_33 cl9_64 (n_26.sure c_29) ?_
            refine XW.astore (ls' := [some (.ref 2), some (.int y1), some (.int y2), some (.ref v_5), some (.ref v_5), none]) eX9_part_36 (Nat.le_of_ble_eq_true rfl) rfl ?_
            refine XW.aload_n eX9_part_38 rfl ?_
            refine XW.getR (b := 3) eX9_part_39 f9_10_9 rfl (so_2 hs) (sr_2_0 hs) ?_
            exact hk)
        obtain ⟨Qc, hc, h⟩ := h
        refine XF.call (nx := 45) (st := []) hc (fun v I1 r I' hY hk => XW.callV (As := []) (st := []) eX9_part_42 okX6_partsTogether cv9_57 rfl (so_3 hs) hY (xnum rfl rfl rfl rfl rfl) hk) (fun v_42 I_42 hq => ?_)
        replace h := h v_42 I_42 hq
        refine XF.lift (pc2 := 60) (ls2 := [some (.ref 2), some (.int y1), some (.int y2), some (.ref v_5), some (.ref v_5), none]) (st2 := [.int (I_42 3 2), .int ((v_42 - (I_42 v_5 2)) + y2)]) (I2 := I_42) ?_ (fun r I' hk => by
            refine XW.aload eX9_part_45 rfl ?_
            refine XW.getS eX9_part_47 f9_89_8 f9_89_1 (by decide) (n_26.sure c_29) ?_
            refine XW.isub eX9_part_50 ?_
            refine XW.iload_n eX9_part_51 rfl ?_
            refine XW.iadd eX9_part_52 ?_
            refine XW.aload_n eX9_part_53 rfl ?_
            refine XW.getR (b := 3) eX9_part_54 f9_10_9 rfl (so_2 hs) (sr_2_0 hs) ?_
            refine XW.getI eX9_part_57 f9_61_6 rfl (so_3 hs) ?_
            exact hk)
        obtain ⟨ht, hf⟩ := h
        refine XF.br (P := ((v_42 - (I_42 v_5 2)) + y2) ≤ (I_42 3 2)) (fun c_60 => ?_) (fun c_60 => ?_)
        ·
          replace h := ht c_60
          refine XF.lift (pc2 := 81) (ls2 := [some (.ref 2), some (.int y1), some (.int y2), some (.ref v_5), some (.ref v_5), some (.int (I_42 v_5 2))]) (st2 := [.int (I_42 v_5 2)]) (I2 := (wI I_42 v_5 2 y2)) ?_ (fun r I' hk => by
              refine XW.icmp_le eX9_part_60 (fun _ => ?_) (fun z => absurd c_60 z)
              refine XW.aload eX9_part_66 rfl ?_
              refine XW.getS eX9_part_68 f9_89_8 f9_89_1 (by decide) (n_26.sure c_29) ?_
              refine XW.istore (ls' := [some (.ref 2), some (.int y1), some (.int y2), some (.ref v_5), some (.ref v_5), some (.int (I_42 v_5 2))]) eX9_part_71 (Nat.le_of_ble_eq_true rfl) rfl ?_
              refine XW.aload eX9_part_73 rfl ?_
              refine XW.iload_n eX9_part_75 rfl ?_
              refine XW.putS eX9_part_76 f9_89_8 f9_89_1 (by decide) (n_26.sure c_29) ?_
              refine XW.iload eX9_part_79 rfl ?_
              exact hk)
          exact ⟨(I_42 v_5 2), (wI I_42 v_5 2 y2), XW.iret eX9_part_81 rfl rfl rfl rfl rfl, h⟩
        ·
          replace h := hf c_60
          refine XF.lift (pc2 := 65) (ls2 := [some (.ref 2), some (.int y1), some (.int y2), some (.ref v_5), some (.ref v_5), none]) (st2 := [.int (-2)]) (I2 := I_42) ?_ (fun r I' hk => by
              refine XW.icmp_le eX9_part_60 (fun z => absurd z c_60) (fun _ => ?_)
              refine XW.bipush (v := (-2)) eX9_part_63 (by decide) ?_
              exact hk)
          exact ⟨(-2), I_42, XW.iret eX9_part_65 rfl rfl rfl rfl rfl, h⟩
      ·
        replace h := hf c_29
        refine XF.lift (pc2 := 84) (ls2 := [some (.ref 2), some (.int y1), some (.int y2), some (.ref v_5), none, none]) (st2 := [.int (-12)]) (I2 := I_17) ?_ (fun r I' hk => by
            refine XW.if_eqB eX9_part_29 (fun _ => ?_) (fun z => absurd z c_29)
            refine XW.bipush (v := (-12)) eX9_part_82 (by decide) ?_
            exact hk)
        exact ⟨(-12), I_17, XW.iret eX9_part_84 rfl rfl rfl rfl rfl, h⟩
set_option maxRecDepth 100000 in
set_option maxHeartbeats 4000000 in
theorem VX9_hold {l : Launch} {C : xC} {G : xG} (hs : SH G)  (I : xI) (y1 y2 y3 y4 : Int32) {Q : Int32 → xI → Prop} (h :
    (∃ Qc : Nat → xI → Prop, XF fR l C mX6_lineAt 0 (xent mX6_lineAt [.ref 3, .int y1]) [] G I Qc ∧ ∀ (v_5 : Nat) (I_5 : xI), Qc v_5 I_5 → ((v_5 = 0 → Q (-1) I_5) ∧ (¬ (v_5 = 0) → (∃ Qc : Int32 → xI → Prop, XF fI l C mX9_isWithin 0 (xent mX9_isWithin [.int y2, .int 1, .int 12]) [] G I_5 Qc ∧ ∀ (v_19 : Int32) (I_19 : xI), Qc v_19 I_19 → ((v_19 = 0 → Q (-1) I_19) ∧ (¬ (v_19 = 0) → (∃ Qc : Int32 → xI → Prop, XF fI l C mX9_isWithin 0 (xent mX9_isWithin [.int y3, .int 0, .int (y2 - 1)]) [] G I_19 Qc ∧ ∀ (v_30 : Int32) (I_30 : xI), Qc v_30 I_30 → ((v_30 = 0 → Q (-1) I_30) ∧ (¬ (v_30 = 0) → (∃ Qc : Int32 → xI → Prop, XF fI l C mX9_isWithin 0 (xent mX9_isWithin [.int y4, .int 0, .int 5]) [] G I_30 Qc ∧ ∀ (v_40 : Int32) (I_40 : xI), Qc v_40 I_40 → ((v_40 = 0 → Q (-1) I_40) ∧ (¬ (v_40 = 0) → LN G v_5 ∧ ((gT G v_5 = 1 → Q 1 (wI (wI (wI I_40 v_5 3 y2) v_5 4 y3) v_5 5 y4)) ∧ (¬ (gT G v_5 = 1) → Q (-12) I_40))))))))))))))) : XF fI l C mX9_hold 0 (xent mX9_hold [.ref 2, .int y1, .int y2, .int y3, .int y4]) [] G I Q := by
  show XF fI l C mX9_hold 0 [some (.ref 2), some (.int y1), some (.int y2), some (.int y3), some (.int y4), none, none] [] G I Q
  refine XF.lift (pc2 := 5) (ls2 := [some (.ref 2), some (.int y1), some (.int y2), some (.int y3), some (.int y4), none, none]) (st2 := [.int y1, .ref 3]) (I2 := I) ?_ (fun r I' hk => by
      refine XW.aload_n eX9_hold_0 rfl ?_
      refine XW.getR (b := 3) eX9_hold_1 f9_10_9 rfl (so_2 hs) (sr_2_0 hs) ?_
      refine XW.iload_n eX9_hold_4 rfl ?_
      exact hk)
  obtain ⟨Qc, hc, h⟩ := h
  refine XF.call (nx := 8) (st := []) hc (fun v I1 r I' hY hk => XW.callV (As := [.int y1]) (st := []) eX9_hold_5 okX6_lineAt cv9_77 rfl (so_3 hs) hY (xnum rfl rfl rfl rfl rfl) hk) (fun v_5 I_5 hq => ?_)
  replace h := h v_5 I_5 hq
  refine XF.lift (pc2 := 12) (ls2 := [some (.ref 2), some (.int y1), some (.int y2), some (.int y3), some (.int y4), some (.ref v_5), none]) (st2 := [.ref v_5]) (I2 := I_5) ?_ (fun r I' hk => by
      refine XW.astore (ls' := [some (.ref 2), some (.int y1), some (.int y2), some (.int y3), some (.int y4), some (.ref v_5), none]) eX9_hold_8 (Nat.le_of_ble_eq_true rfl) rfl ?_
      refine XW.aload eX9_hold_10 rfl ?_
      exact hk)
  obtain ⟨ht, hf⟩ := h
  refine XF.br (P := v_5 = 0) (fun c_12 => ?_) (fun c_12 => ?_)
  ·
    replace h := ht c_12
    refine XF.lift (pc2 := 47) (ls2 := [some (.ref 2), some (.int y1), some (.int y2), some (.int y3), some (.int y4), some (.ref v_5), none]) (st2 := [.int (-1)]) (I2 := I_5) ?_ (fun r I' hk => by
        refine XW.ifnull eX9_hold_12 (fun _ => ?_) (fun z => absurd c_12 z)
        refine XW.iconst (v := (-1)) eX9_hold_46 (by decide) ?_
        exact hk)
    exact ⟨(-1), I_5, XW.iret eX9_hold_47 rfl rfl rfl rfl rfl, h⟩
  ·
    replace h := hf c_12
    refine XF.lift (pc2 := 19) (ls2 := [some (.ref 2), some (.int y1), some (.int y2), some (.int y3), some (.int y4), some (.ref v_5), none]) (st2 := [.int 12, .int 1, .int y2]) (I2 := I_5) ?_ (fun r I' hk => by
        refine XW.ifnull eX9_hold_12 (fun z => absurd z c_12) (fun _ => ?_)
        refine XW.iload_n eX9_hold_15 rfl ?_
        refine XW.iconst (v := 1) eX9_hold_16 (by decide) ?_
        refine XW.bipush (v := 12) eX9_hold_17 (by decide) ?_
        exact hk)
    obtain ⟨Qc, hc, h⟩ := h
    refine XF.call (nx := 22) (st := []) hc (fun v I1 r I' hY hk => XW.callS (As := [.int y2, .int 1, .int 12]) (st := []) eX9_hold_19 okX9_isWithin cs9_53 rfl hY (xnum rfl rfl rfl rfl rfl) hk) (fun v_19 I_19 hq => ?_)
    replace h := h v_19 I_19 hq
    obtain ⟨ht, hf⟩ := h
    refine XF.br (P := v_19 = 0) (fun c_22 => ?_) (fun c_22 => ?_)
    ·
      replace h := ht c_22
      refine XF.lift (pc2 := 47) (ls2 := [some (.ref 2), some (.int y1), some (.int y2), some (.int y3), some (.int y4), some (.ref v_5), none]) (st2 := [.int (-1)]) (I2 := I_19) ?_ (fun r I' hk => by
          refine XW.if_eq eX9_hold_22 (fun _ => ?_) (fun z => absurd c_22 z)
          refine XW.iconst (v := (-1)) eX9_hold_46 (by decide) ?_
          exact hk)
      exact ⟨(-1), I_19, XW.iret eX9_hold_47 rfl rfl rfl rfl rfl, h⟩
    ·
      replace h := hf c_22
      refine XF.lift (pc2 := 30) (ls2 := [some (.ref 2), some (.int y1), some (.int y2), some (.int y3), some (.int y4), some (.ref v_5), none]) (st2 := [.int (y2 - 1), .int 0, .int y3]) (I2 := I_19) ?_ (fun r I' hk => by
          refine XW.if_eq eX9_hold_22 (fun z => absurd z c_22) (fun _ => ?_)
          refine XW.iload_n eX9_hold_25 rfl ?_
          refine XW.iconst (v := 0) eX9_hold_26 (by decide) ?_
          refine XW.iload_n eX9_hold_27 rfl ?_
          refine XW.iconst (v := 1) eX9_hold_28 (by decide) ?_
          refine XW.isub eX9_hold_29 ?_
          exact hk)
      obtain ⟨Qc, hc, h⟩ := h
      refine XF.call (nx := 33) (st := []) hc (fun v I1 r I' hY hk => XW.callS (As := [.int y3, .int 0, .int (y2 - 1)]) (st := []) eX9_hold_30 okX9_isWithin cs9_53 rfl hY (xnum rfl rfl rfl rfl rfl) hk) (fun v_30 I_30 hq => ?_)
      replace h := h v_30 I_30 hq
      obtain ⟨ht, hf⟩ := h
      refine XF.br (P := v_30 = 0) (fun c_33 => ?_) (fun c_33 => ?_)
      ·
        replace h := ht c_33
        refine XF.lift (pc2 := 47) (ls2 := [some (.ref 2), some (.int y1), some (.int y2), some (.int y3), some (.int y4), some (.ref v_5), none]) (st2 := [.int (-1)]) (I2 := I_30) ?_ (fun r I' hk => by
            refine XW.if_eq eX9_hold_33 (fun _ => ?_) (fun z => absurd c_33 z)
            refine XW.iconst (v := (-1)) eX9_hold_46 (by decide) ?_
            exact hk)
        exact ⟨(-1), I_30, XW.iret eX9_hold_47 rfl rfl rfl rfl rfl, h⟩
      ·
        replace h := hf c_33
        refine XF.lift (pc2 := 40) (ls2 := [some (.ref 2), some (.int y1), some (.int y2), some (.int y3), some (.int y4), some (.ref v_5), none]) (st2 := [.int 5, .int 0, .int y4]) (I2 := I_30) ?_ (fun r I' hk => by
            refine XW.if_eq eX9_hold_33 (fun z => absurd z c_33) (fun _ => ?_)
            refine XW.iload eX9_hold_36 rfl ?_
            refine XW.iconst (v := 0) eX9_hold_38 (by decide) ?_
            refine XW.iconst (v := 5) eX9_hold_39 (by decide) ?_
            exact hk)
        obtain ⟨Qc, hc, h⟩ := h
        refine XF.call (nx := 43) (st := []) hc (fun v I1 r I' hY hk => XW.callS (As := [.int y4, .int 0, .int 5]) (st := []) eX9_hold_40 okX9_isWithin cs9_53 rfl hY (xnum rfl rfl rfl rfl rfl) hk) (fun v_40 I_40 hq => ?_)
        replace h := h v_40 I_40 hq
        obtain ⟨ht, hf⟩ := h
        refine XF.br (P := v_40 = 0) (fun c_43 => ?_) (fun c_43 => ?_)
        ·
          replace h := ht c_43
          refine XF.lift (pc2 := 47) (ls2 := [some (.ref 2), some (.int y1), some (.int y2), some (.int y3), some (.int y4), some (.ref v_5), none]) (st2 := [.int (-1)]) (I2 := I_40) ?_ (fun r I' hk => by
              refine XW.if_ne eX9_hold_43 (fun z => absurd c_43 z) (fun _ => ?_)
              refine XW.iconst (v := (-1)) eX9_hold_46 (by decide) ?_
              exact hk)
          exact ⟨(-1), I_40, XW.iret eX9_hold_47 rfl rfl rfl rfl rfl, h⟩
        ·
          replace h := hf c_43
          obtain ⟨n_50, h⟩ := h
          refine XF.lift (pc2 := 53) (ls2 := [some (.ref 2), some (.int y1), some (.int y2), some (.int y3), some (.int y4), some (.ref v_5), none]) (st2 := [.int (bI (gT G v_5 = 1))]) (I2 := I_40) ?_ (fun r I' hk => by
              refine XW.if_ne eX9_hold_43 (fun _ => ?_) (fun z => absurd z c_43)
              refine XW.aload eX9_hold_48 rfl ?_
              refine XW.isHeld eX9_hold_50 cl9_92 n_50 ?_
              exact hk)
          obtain ⟨ht, hf⟩ := h
          refine XF.br (P := gT G v_5 = 1) (fun c_53 => ?_) (fun c_53 => ?_)
          ·
            replace h := ht c_53
            refine XF.lift (pc2 := 83) (ls2 := [some (.ref 2), some (.int y1), some (.int y2), some (.int y3), some (.int y4), some (.ref v_5), some (.ref v_5)]) (st2 := [.int 1]) (I2 := (wI (wI (wI I_40 v_5 3 y2) v_5 4 y3) v_5 5 y4)) ?_ (fun r I' hk => by
                refine XW.if_eqB eX9_hold_53 (fun z => absurd c_53 z) (fun _ => ?_)
                refine XW.aload eX9_hold_56 rfl ?_
                refine XW.cast (q := (RX1, TX1, 6)) eX9_hold_58 (n_50.held c_53) rfl cl9_92 (Or.inl rfl) ?_
                refine XW.astore (ls' := [some (.ref 2), some (.int y1), some (.int y2), some (.int y3), some (.int y4), some (.ref v_5), some (.ref v_5)]) eX9_hold_61 (Nat.le_of_ble_eq_true rfl) rfl ?_
                refine XW.aload eX9_hold_63 rfl ?_
                refine XW.iload_n eX9_hold_65 rfl ?_
                refine XW.putI eX9_hold_66 f9_94_1 (xP_of rfl (by decide)) rfl ⟨rfl, rfl⟩ (n_50.held c_53) ?_
                refine XW.aload eX9_hold_69 rfl ?_
                refine XW.iload_n eX9_hold_71 rfl ?_
                refine XW.putI eX9_hold_72 f9_97_1 (xP_of rfl (by decide)) rfl ⟨rfl, rfl⟩ (n_50.held c_53) ?_
                refine XW.aload eX9_hold_75 rfl ?_
                refine XW.iload eX9_hold_77 rfl ?_
                refine XW.putI eX9_hold_79 f9_100_1 (xP_of rfl (by decide)) rfl ⟨rfl, rfl⟩ (n_50.held c_53) ?_
                refine XW.iconst (v := 1) eX9_hold_82 (by decide) ?_
                exact hk)
            exact ⟨1, (wI (wI (wI I_40 v_5 3 y2) v_5 4 y3) v_5 5 y4), XW.iret eX9_hold_83 rfl rfl rfl rfl rfl, h⟩
          ·
            replace h := hf c_53
            refine XF.lift (pc2 := 86) (ls2 := [some (.ref 2), some (.int y1), some (.int y2), some (.int y3), some (.int y4), some (.ref v_5), none]) (st2 := [.int (-12)]) (I2 := I_40) ?_ (fun r I' hk => by
                refine XW.if_eqB eX9_hold_53 (fun _ => ?_) (fun z => absurd z c_53)
                refine XW.bipush (v := (-12)) eX9_hold_84 (by decide) ?_
                exact hk)
            exact ⟨(-12), I_40, XW.iret eX9_hold_86 rfl rfl rfl rfl rfl, h⟩
set_option maxRecDepth 100000 in
set_option maxHeartbeats 4000000 in
theorem VX9_told {l : Launch} {C : xC} {G : xG} (hs : SH G)  (I : xI) (y1 y2 : Int32) {Q : Int32 → xI → Prop} (h :
    (∃ Qc : Nat → xI → Prop, XF fR l C mX6_lineAt 0 (xent mX6_lineAt [.ref 3, .int y1]) [] G I Qc ∧ ∀ (v_5 : Nat) (I_5 : xI), Qc v_5 I_5 → ((v_5 = 0 → Q (-1) I_5) ∧ (¬ (v_5 = 0) → ((y2 = 0 → LN G v_5 ∧ Q (knd G v_5) I_5) ∧ (¬ (y2 = 0) → ((y2 = 1 → LN G v_5 ∧ Q (I_5 v_5 0) I_5) ∧ (¬ (y2 = 1) → ((y2 = 2 → LN G v_5 ∧ Q (kpt G I_5 v_5) I_5) ∧ (¬ (y2 = 2) → ((y2 = 3 → LN G v_5 ∧ ((gT G v_5 = 1 → (∃ Qc : Int32 → xI → Prop, XF fI l C mX1_bound 0 (xent mX1_bound [.ref v_5, .int y2]) [] G I_5 Qc ∧ ∀ (v_95 : Int32) (I_95 : xI), Qc v_95 I_95 → Q v_95 I_95)) ∧ (¬ (gT G v_5 = 1) → Q 0 I_5))) ∧ (¬ (y2 = 3) → ((y2 = 4 → LN G v_5 ∧ ((gT G v_5 = 1 → (∃ Qc : Int32 → xI → Prop, XF fI l C mX1_bound 0 (xent mX1_bound [.ref v_5, .int y2]) [] G I_5 Qc ∧ ∀ (v_95 : Int32) (I_95 : xI), Qc v_95 I_95 → Q v_95 I_95)) ∧ (¬ (gT G v_5 = 1) → Q 0 I_5))) ∧ (¬ (y2 = 4) → ((y2 = 5 → LN G v_5 ∧ ((gT G v_5 = 1 → (∃ Qc : Int32 → xI → Prop, XF fI l C mX1_bound 0 (xent mX1_bound [.ref v_5, .int y2]) [] G I_5 Qc ∧ ∀ (v_95 : Int32) (I_95 : xI), Qc v_95 I_95 → Q v_95 I_95)) ∧ (¬ (gT G v_5 = 1) → Q 0 I_5))) ∧ (¬ (y2 = 5) → ((y2 = 6 → LN G v_5 ∧ ((gT G v_5 = 1 → (∃ Qc : Int32 → xI → Prop, XF fI l C mX1_bound 0 (xent mX1_bound [.ref v_5, .int y2]) [] G I_5 Qc ∧ ∀ (v_95 : Int32) (I_95 : xI), Qc v_95 I_95 → Q v_95 I_95)) ∧ (¬ (gT G v_5 = 1) → Q 0 I_5))) ∧ (¬ (y2 = 6) → ((y2 = 7 → LN G v_5 ∧ Q (I_5 v_5 1) I_5) ∧ (¬ (y2 = 7) → Q (-1) I_5)))))))))))))))))))) : XF fI l C mX9_told 0 (xent mX9_told [.ref 2, .int y1, .int y2]) [] G I Q := by
  show XF fI l C mX9_told 0 [some (.ref 2), some (.int y1), some (.int y2), none, none] [] G I Q
  refine XF.lift (pc2 := 5) (ls2 := [some (.ref 2), some (.int y1), some (.int y2), none, none]) (st2 := [.int y1, .ref 3]) (I2 := I) ?_ (fun r I' hk => by
      refine XW.aload_n eX9_told_0 rfl ?_
      refine XW.getR (b := 3) eX9_told_1 f9_10_9 rfl (so_2 hs) (sr_2_0 hs) ?_
      refine XW.iload_n eX9_told_4 rfl ?_
      exact hk)
  obtain ⟨Qc, hc, h⟩ := h
  refine XF.call (nx := 8) (st := []) hc (fun v I1 r I' hY hk => XW.callV (As := [.int y1]) (st := []) eX9_told_5 okX6_lineAt cv9_77 rfl (so_3 hs) hY (xnum rfl rfl rfl rfl rfl) hk) (fun v_5 I_5 hq => ?_)
  replace h := h v_5 I_5 hq
  refine XF.lift (pc2 := 10) (ls2 := [some (.ref 2), some (.int y1), some (.int y2), some (.ref v_5), none]) (st2 := [.ref v_5]) (I2 := I_5) ?_ (fun r I' hk => by
      refine XW.astore_n (ls' := [some (.ref 2), some (.int y1), some (.int y2), some (.ref v_5), none]) eX9_told_8 (Nat.le_of_ble_eq_true rfl) rfl ?_
      refine XW.aload_n eX9_told_9 rfl ?_
      exact hk)
  obtain ⟨ht, hf⟩ := h
  refine XF.br (P := v_5 = 0) (fun c_10 => ?_) (fun c_10 => ?_)
  ·
    replace h := ht c_10
    refine XF.lift (pc2 := 14) (ls2 := [some (.ref 2), some (.int y1), some (.int y2), some (.ref v_5), none]) (st2 := [.int (-1)]) (I2 := I_5) ?_ (fun r I' hk => by
        refine XW.ifnonnull eX9_told_10 (fun z => absurd c_10 z) (fun _ => ?_)
        refine XW.iconst (v := (-1)) eX9_told_13 (by decide) ?_
        exact hk)
    exact ⟨(-1), I_5, XW.iret eX9_told_14 rfl rfl rfl rfl rfl, h⟩
  ·
    replace h := hf c_10
    refine XF.lift (pc2 := 16) (ls2 := [some (.ref 2), some (.int y1), some (.int y2), some (.ref v_5), none]) (st2 := [.int y2]) (I2 := I_5) ?_ (fun r I' hk => by
        refine XW.ifnonnull eX9_told_10 (fun _ => ?_) (fun z => absurd z c_10)
        refine XW.iload_n eX9_told_15 rfl ?_
        exact hk)
    obtain ⟨ht, hf⟩ := h
    refine XF.br (P := y2 = 0) (fun c_16_0 => ?_) (fun c_16_0 => ?_)
    ·
      replace h := ht c_16_0
      obtain ⟨n_65, h⟩ := h
      refine XF.lift (pc2 := 68) (ls2 := [some (.ref 2), some (.int y1), some (.int y2), some (.ref v_5), none]) (st2 := [.int (knd G v_5)]) (I2 := I_5) ?_ (fun r I' hk => by
          refine XW.tabIn (off := 48) (tgt := 64) dX9_told_16 (by rw [c_16_0]; decide) (by rw [c_16_0]; decide) (by rw [c_16_0]; rfl) (by decide) ?_
          refine XW.aload_n eX9_told_64 rfl ?_
          refine XW.kindNo eX9_told_65 co9_103_2 co9_103_8 co9_103_1 n_65 (Nat.le_of_ble_eq_true rfl) (Nat.le_of_ble_eq_true rfl) ?_
          exact hk)
      exact ⟨(knd G v_5), I_5, XW.iret eX9_told_68 rfl rfl rfl rfl rfl, h⟩
    replace h := hf c_16_0
    obtain ⟨ht, hf⟩ := h
    refine XF.br (P := y2 = 1) (fun c_16_1 => ?_) (fun c_16_1 => ?_)
    ·
      replace h := ht c_16_1
      obtain ⟨n_70, h⟩ := h
      refine XF.lift (pc2 := 73) (ls2 := [some (.ref 2), some (.int y1), some (.int y2), some (.ref v_5), none]) (st2 := [.int (I_5 v_5 0)]) (I2 := I_5) ?_ (fun r I' hk => by
          refine XW.tabIn (off := 53) (tgt := 69) dX9_told_16 (by rw [c_16_1]; decide) (by rw [c_16_1]; decide) (by rw [c_16_1]; rfl) (by decide) ?_
          refine XW.aload_n eX9_told_69 rfl ?_
          refine XW.getL eX9_told_70 f9_81_2 f9_81_8 f9_81_1 (by decide) n_70 ?_
          exact hk)
      exact ⟨(I_5 v_5 0), I_5, XW.iret eX9_told_73 rfl rfl rfl rfl rfl, h⟩
    replace h := hf c_16_1
    obtain ⟨ht, hf⟩ := h
    refine XF.br (P := y2 = 2) (fun c_16_2 => ?_) (fun c_16_2 => ?_)
    ·
      replace h := ht c_16_2
      obtain ⟨n_75, h⟩ := h
      refine XF.lift (pc2 := 78) (ls2 := [some (.ref 2), some (.int y1), some (.int y2), some (.ref v_5), none]) (st2 := [.int (kpt G I_5 v_5)]) (I2 := I_5) ?_ (fun r I' hk => by
          refine XW.tabIn (off := 58) (tgt := 74) dX9_told_16 (by rw [c_16_2]; decide) (by rw [c_16_2]; decide) (by rw [c_16_2]; rfl) (by decide) ?_
          refine XW.aload_n eX9_told_74 rfl ?_
          refine XW.kept eX9_told_75 co9_106_2 co9_106_8 co9_106_1 n_75 (Nat.le_of_ble_eq_true rfl) (Nat.le_of_ble_eq_true rfl) ?_
          exact hk)
      exact ⟨(kpt G I_5 v_5), I_5, XW.iret eX9_told_78 rfl rfl rfl rfl rfl, h⟩
    replace h := hf c_16_2
    obtain ⟨ht, hf⟩ := h
    refine XF.br (P := y2 = 3) (fun c_16_3 => ?_) (fun c_16_3 => ?_)
    ·
      replace h := ht c_16_3
      obtain ⟨n_80, h⟩ := h
      refine XF.lift (pc2 := 83) (ls2 := [some (.ref 2), some (.int y1), some (.int y2), some (.ref v_5), none]) (st2 := [.int (bI (gT G v_5 = 1))]) (I2 := I_5) ?_ (fun r I' hk => by
          refine XW.tabIn (off := 63) (tgt := 79) dX9_told_16 (by rw [c_16_3]; decide) (by rw [c_16_3]; decide) (by rw [c_16_3]; rfl) (by decide) ?_
          refine XW.aload_n eX9_told_79 rfl ?_
          refine XW.isHeld eX9_told_80 cl9_92 n_80 ?_
          exact hk)
      obtain ⟨ht, hf⟩ := h
      refine XF.br (P := gT G v_5 = 1) (fun c_83 => ?_) (fun c_83 => ?_)
      ·
        replace h := ht c_83
        refine XF.lift (pc2 := 95) (ls2 := [some (.ref 2), some (.int y1), some (.int y2), some (.ref v_5), some (.ref v_5)]) (st2 := [.int y2, .ref v_5]) (I2 := I_5) ?_ (fun r I' hk => by
            refine XW.if_eqB eX9_told_83 (fun z => absurd c_83 z) (fun _ => ?_)
            refine XW.aload_n eX9_told_86 rfl ?_
            refine XW.cast (q := (RX1, TX1, 6)) eX9_told_87 (n_80.held c_83) rfl cl9_92 (Or.inl rfl) ?_
            refine XW.astore (ls' := [some (.ref 2), some (.int y1), some (.int y2), some (.ref v_5), some (.ref v_5)]) eX9_told_90 (Nat.le_of_ble_eq_true rfl) rfl ?_
            refine XW.aload eX9_told_92 rfl ?_
            refine XW.iload_n eX9_told_94 rfl ?_
            exact hk)
        obtain ⟨Qc, hc, h⟩ := h
        refine XF.call (nx := 98) (st := []) hc (fun v I1 r I' hY hk => XW.callV (As := [.int y2]) (st := []) eX9_told_95 okX1_bound cv9_109 rfl (n_80.held c_83) hY (xnum rfl rfl rfl rfl rfl) hk) (fun v_95 I_95 hq => ?_)
        replace h := h v_95 I_95 hq
        refine XF.lift (pc2 := 102) (ls2 := [some (.ref 2), some (.int y1), some (.int y2), some (.ref v_5), some (.ref v_5)]) (st2 := [.int v_95]) (I2 := I_95) ?_ (fun r I' hk => by
            refine XW.goto eX9_told_98 ?_
            exact hk)
        exact ⟨v_95, I_95, XW.iret eX9_told_102 rfl rfl rfl rfl rfl, h⟩
      ·
        replace h := hf c_83
        refine XF.lift (pc2 := 102) (ls2 := [some (.ref 2), some (.int y1), some (.int y2), some (.ref v_5), none]) (st2 := [.int 0]) (I2 := I_5) ?_ (fun r I' hk => by
            refine XW.if_eqB eX9_told_83 (fun _ => ?_) (fun z => absurd z c_83)
            refine XW.iconst (v := 0) eX9_told_101 (by decide) ?_
            exact hk)
        exact ⟨0, I_5, XW.iret eX9_told_102 rfl rfl rfl rfl rfl, h⟩
    replace h := hf c_16_3
    obtain ⟨ht, hf⟩ := h
    refine XF.br (P := y2 = 4) (fun c_16_4 => ?_) (fun c_16_4 => ?_)
    ·
      replace h := ht c_16_4
      obtain ⟨n_80, h⟩ := h
      refine XF.lift (pc2 := 83) (ls2 := [some (.ref 2), some (.int y1), some (.int y2), some (.ref v_5), none]) (st2 := [.int (bI (gT G v_5 = 1))]) (I2 := I_5) ?_ (fun r I' hk => by
          refine XW.tabIn (off := 63) (tgt := 79) dX9_told_16 (by rw [c_16_4]; decide) (by rw [c_16_4]; decide) (by rw [c_16_4]; rfl) (by decide) ?_
          refine XW.aload_n eX9_told_79 rfl ?_
          refine XW.isHeld eX9_told_80 cl9_92 n_80 ?_
          exact hk)
      obtain ⟨ht, hf⟩ := h
      refine XF.br (P := gT G v_5 = 1) (fun c_83 => ?_) (fun c_83 => ?_)
      ·
        replace h := ht c_83
        refine XF.lift (pc2 := 95) (ls2 := [some (.ref 2), some (.int y1), some (.int y2), some (.ref v_5), some (.ref v_5)]) (st2 := [.int y2, .ref v_5]) (I2 := I_5) ?_ (fun r I' hk => by
            refine XW.if_eqB eX9_told_83 (fun z => absurd c_83 z) (fun _ => ?_)
            refine XW.aload_n eX9_told_86 rfl ?_
            refine XW.cast (q := (RX1, TX1, 6)) eX9_told_87 (n_80.held c_83) rfl cl9_92 (Or.inl rfl) ?_
            refine XW.astore (ls' := [some (.ref 2), some (.int y1), some (.int y2), some (.ref v_5), some (.ref v_5)]) eX9_told_90 (Nat.le_of_ble_eq_true rfl) rfl ?_
            refine XW.aload eX9_told_92 rfl ?_
            refine XW.iload_n eX9_told_94 rfl ?_
            exact hk)
        obtain ⟨Qc, hc, h⟩ := h
        refine XF.call (nx := 98) (st := []) hc (fun v I1 r I' hY hk => XW.callV (As := [.int y2]) (st := []) eX9_told_95 okX1_bound cv9_109 rfl (n_80.held c_83) hY (xnum rfl rfl rfl rfl rfl) hk) (fun v_95 I_95 hq => ?_)
        replace h := h v_95 I_95 hq
        refine XF.lift (pc2 := 102) (ls2 := [some (.ref 2), some (.int y1), some (.int y2), some (.ref v_5), some (.ref v_5)]) (st2 := [.int v_95]) (I2 := I_95) ?_ (fun r I' hk => by
            refine XW.goto eX9_told_98 ?_
            exact hk)
        exact ⟨v_95, I_95, XW.iret eX9_told_102 rfl rfl rfl rfl rfl, h⟩
      ·
        replace h := hf c_83
        refine XF.lift (pc2 := 102) (ls2 := [some (.ref 2), some (.int y1), some (.int y2), some (.ref v_5), none]) (st2 := [.int 0]) (I2 := I_5) ?_ (fun r I' hk => by
            refine XW.if_eqB eX9_told_83 (fun _ => ?_) (fun z => absurd z c_83)
            refine XW.iconst (v := 0) eX9_told_101 (by decide) ?_
            exact hk)
        exact ⟨0, I_5, XW.iret eX9_told_102 rfl rfl rfl rfl rfl, h⟩
    replace h := hf c_16_4
    obtain ⟨ht, hf⟩ := h
    refine XF.br (P := y2 = 5) (fun c_16_5 => ?_) (fun c_16_5 => ?_)
    ·
      replace h := ht c_16_5
      obtain ⟨n_80, h⟩ := h
      refine XF.lift (pc2 := 83) (ls2 := [some (.ref 2), some (.int y1), some (.int y2), some (.ref v_5), none]) (st2 := [.int (bI (gT G v_5 = 1))]) (I2 := I_5) ?_ (fun r I' hk => by
          refine XW.tabIn (off := 63) (tgt := 79) dX9_told_16 (by rw [c_16_5]; decide) (by rw [c_16_5]; decide) (by rw [c_16_5]; rfl) (by decide) ?_
          refine XW.aload_n eX9_told_79 rfl ?_
          refine XW.isHeld eX9_told_80 cl9_92 n_80 ?_
          exact hk)
      obtain ⟨ht, hf⟩ := h
      refine XF.br (P := gT G v_5 = 1) (fun c_83 => ?_) (fun c_83 => ?_)
      ·
        replace h := ht c_83
        refine XF.lift (pc2 := 95) (ls2 := [some (.ref 2), some (.int y1), some (.int y2), some (.ref v_5), some (.ref v_5)]) (st2 := [.int y2, .ref v_5]) (I2 := I_5) ?_ (fun r I' hk => by
            refine XW.if_eqB eX9_told_83 (fun z => absurd c_83 z) (fun _ => ?_)
            refine XW.aload_n eX9_told_86 rfl ?_
            refine XW.cast (q := (RX1, TX1, 6)) eX9_told_87 (n_80.held c_83) rfl cl9_92 (Or.inl rfl) ?_
            refine XW.astore (ls' := [some (.ref 2), some (.int y1), some (.int y2), some (.ref v_5), some (.ref v_5)]) eX9_told_90 (Nat.le_of_ble_eq_true rfl) rfl ?_
            refine XW.aload eX9_told_92 rfl ?_
            refine XW.iload_n eX9_told_94 rfl ?_
            exact hk)
        obtain ⟨Qc, hc, h⟩ := h
        refine XF.call (nx := 98) (st := []) hc (fun v I1 r I' hY hk => XW.callV (As := [.int y2]) (st := []) eX9_told_95 okX1_bound cv9_109 rfl (n_80.held c_83) hY (xnum rfl rfl rfl rfl rfl) hk) (fun v_95 I_95 hq => ?_)
        replace h := h v_95 I_95 hq
        refine XF.lift (pc2 := 102) (ls2 := [some (.ref 2), some (.int y1), some (.int y2), some (.ref v_5), some (.ref v_5)]) (st2 := [.int v_95]) (I2 := I_95) ?_ (fun r I' hk => by
            refine XW.goto eX9_told_98 ?_
            exact hk)
        exact ⟨v_95, I_95, XW.iret eX9_told_102 rfl rfl rfl rfl rfl, h⟩
      ·
        replace h := hf c_83
        refine XF.lift (pc2 := 102) (ls2 := [some (.ref 2), some (.int y1), some (.int y2), some (.ref v_5), none]) (st2 := [.int 0]) (I2 := I_5) ?_ (fun r I' hk => by
            refine XW.if_eqB eX9_told_83 (fun _ => ?_) (fun z => absurd z c_83)
            refine XW.iconst (v := 0) eX9_told_101 (by decide) ?_
            exact hk)
        exact ⟨0, I_5, XW.iret eX9_told_102 rfl rfl rfl rfl rfl, h⟩
    replace h := hf c_16_5
    obtain ⟨ht, hf⟩ := h
    refine XF.br (P := y2 = 6) (fun c_16_6 => ?_) (fun c_16_6 => ?_)
    ·
      replace h := ht c_16_6
      obtain ⟨n_80, h⟩ := h
      refine XF.lift (pc2 := 83) (ls2 := [some (.ref 2), some (.int y1), some (.int y2), some (.ref v_5), none]) (st2 := [.int (bI (gT G v_5 = 1))]) (I2 := I_5) ?_ (fun r I' hk => by
          refine XW.tabIn (off := 63) (tgt := 79) dX9_told_16 (by rw [c_16_6]; decide) (by rw [c_16_6]; decide) (by rw [c_16_6]; rfl) (by decide) ?_
          refine XW.aload_n eX9_told_79 rfl ?_
          refine XW.isHeld eX9_told_80 cl9_92 n_80 ?_
          exact hk)
      obtain ⟨ht, hf⟩ := h
      refine XF.br (P := gT G v_5 = 1) (fun c_83 => ?_) (fun c_83 => ?_)
      ·
        replace h := ht c_83
        refine XF.lift (pc2 := 95) (ls2 := [some (.ref 2), some (.int y1), some (.int y2), some (.ref v_5), some (.ref v_5)]) (st2 := [.int y2, .ref v_5]) (I2 := I_5) ?_ (fun r I' hk => by
            refine XW.if_eqB eX9_told_83 (fun z => absurd c_83 z) (fun _ => ?_)
            refine XW.aload_n eX9_told_86 rfl ?_
            refine XW.cast (q := (RX1, TX1, 6)) eX9_told_87 (n_80.held c_83) rfl cl9_92 (Or.inl rfl) ?_
            refine XW.astore (ls' := [some (.ref 2), some (.int y1), some (.int y2), some (.ref v_5), some (.ref v_5)]) eX9_told_90 (Nat.le_of_ble_eq_true rfl) rfl ?_
            refine XW.aload eX9_told_92 rfl ?_
            refine XW.iload_n eX9_told_94 rfl ?_
            exact hk)
        obtain ⟨Qc, hc, h⟩ := h
        refine XF.call (nx := 98) (st := []) hc (fun v I1 r I' hY hk => XW.callV (As := [.int y2]) (st := []) eX9_told_95 okX1_bound cv9_109 rfl (n_80.held c_83) hY (xnum rfl rfl rfl rfl rfl) hk) (fun v_95 I_95 hq => ?_)
        replace h := h v_95 I_95 hq
        refine XF.lift (pc2 := 102) (ls2 := [some (.ref 2), some (.int y1), some (.int y2), some (.ref v_5), some (.ref v_5)]) (st2 := [.int v_95]) (I2 := I_95) ?_ (fun r I' hk => by
            refine XW.goto eX9_told_98 ?_
            exact hk)
        exact ⟨v_95, I_95, XW.iret eX9_told_102 rfl rfl rfl rfl rfl, h⟩
      ·
        replace h := hf c_83
        refine XF.lift (pc2 := 102) (ls2 := [some (.ref 2), some (.int y1), some (.int y2), some (.ref v_5), none]) (st2 := [.int 0]) (I2 := I_5) ?_ (fun r I' hk => by
            refine XW.if_eqB eX9_told_83 (fun _ => ?_) (fun z => absurd z c_83)
            refine XW.iconst (v := 0) eX9_told_101 (by decide) ?_
            exact hk)
        exact ⟨0, I_5, XW.iret eX9_told_102 rfl rfl rfl rfl rfl, h⟩
    replace h := hf c_16_6
    obtain ⟨ht, hf⟩ := h
    refine XF.br (P := y2 = 7) (fun c_16_7 => ?_) (fun c_16_7 => ?_)
    ·
      replace h := ht c_16_7
      obtain ⟨n_104, h⟩ := h
      refine XF.lift (pc2 := 107) (ls2 := [some (.ref 2), some (.int y1), some (.int y2), some (.ref v_5), none]) (st2 := [.int (I_5 v_5 1)]) (I2 := I_5) ?_ (fun r I' hk => by
          refine XW.tabIn (off := 87) (tgt := 103) dX9_told_16 (by rw [c_16_7]; decide) (by rw [c_16_7]; decide) (by rw [c_16_7]; rfl) (by decide) ?_
          refine XW.aload_n eX9_told_103 rfl ?_
          refine XW.getL eX9_told_104 f9_86_2 f9_86_8 f9_86_1 (by decide) n_104 ?_
          exact hk)
      exact ⟨(I_5 v_5 1), I_5, XW.iret eX9_told_107 rfl rfl rfl rfl rfl, h⟩
    replace h := hf c_16_7
    refine XF.lift (pc2 := 109) (ls2 := [some (.ref 2), some (.int y1), some (.int y2), some (.ref v_5), none]) (st2 := [.int (-1)]) (I2 := I_5) ?_ (fun r I' hk => by
        refine XW.tabOut (tgt := 108) dX9_told_16 (tab_out 8 (by decide) (by intro k hk; rcases (show k = 0 ∨ k = 1 ∨ k = 2 ∨ k = 3 ∨ k = 4 ∨ k = 5 ∨ k = 6 ∨ k = 7 by omega) with rfl | rfl | rfl | rfl | rfl | rfl | rfl | rfl <;> first | exact c_16_0 | exact c_16_1 | exact c_16_2 | exact c_16_3 | exact c_16_4 | exact c_16_5 | exact c_16_6 | exact c_16_7)) (by decide) ?_
        refine XW.iconst (v := (-1)) eX9_told_108 (by decide) ?_
        exact hk)
    exact ⟨(-1), I_5, XW.iret eX9_told_109 rfl rfl rfl rfl rfl, h⟩
set_option maxRecDepth 100000 in
set_option maxHeartbeats 4000000 in
theorem VX9_share {l : Launch} {C : xC} {G : xG} (hs : SH G)  (I : xI) (y1 : Int32) {Q : Int32 → xI → Prop} (h :
    (∃ Qc : Int32 → xI → Prop, XF fI l C mX9_isWithin 0 (xent mX9_isWithin [.int y1, .int 1, .int 160]) [] G I Qc ∧ ∀ (v_5 : Int32) (I_5 : xI), Qc v_5 I_5 → ((v_5 = 0 → Q (-1) I_5) ∧ (¬ (v_5 = 0) → Q (I_5 3 3) (wI I_5 3 3 y1))))) : XF fI l C mX9_share 0 (xent mX9_share [.ref 2, .int y1]) [] G I Q := by
  show XF fI l C mX9_share 0 [some (.ref 2), some (.int y1), none] [] G I Q
  refine XF.lift (pc2 := 5) (ls2 := [some (.ref 2), some (.int y1), none]) (st2 := [.int 160, .int 1, .int y1]) (I2 := I) ?_ (fun r I' hk => by
      refine XW.iload_n eX9_share_0 rfl ?_
      refine XW.iconst (v := 1) eX9_share_1 (by decide) ?_
      refine XW.sipush (v := 160) eX9_share_2 (by decide) ?_
      exact hk)
  obtain ⟨Qc, hc, h⟩ := h
  refine XF.call (nx := 8) (st := []) hc (fun v I1 r I' hY hk => XW.callS (As := [.int y1, .int 1, .int 160]) (st := []) eX9_share_5 okX9_isWithin cs9_53 rfl hY (xnum rfl rfl rfl rfl rfl) hk) (fun v_5 I_5 hq => ?_)
  replace h := h v_5 I_5 hq
  obtain ⟨ht, hf⟩ := h
  refine XF.br (P := v_5 = 0) (fun c_8 => ?_) (fun c_8 => ?_)
  ·
    replace h := ht c_8
    refine XF.lift (pc2 := 12) (ls2 := [some (.ref 2), some (.int y1), none]) (st2 := [.int (-1)]) (I2 := I_5) ?_ (fun r I' hk => by
        refine XW.if_ne eX9_share_8 (fun z => absurd c_8 z) (fun _ => ?_)
        refine XW.iconst (v := (-1)) eX9_share_11 (by decide) ?_
        exact hk)
    exact ⟨(-1), I_5, XW.iret eX9_share_12 rfl rfl rfl rfl rfl, h⟩
  ·
    replace h := hf c_8
    refine XF.lift (pc2 := 30) (ls2 := [some (.ref 2), some (.int y1), some (.int (I_5 3 3))]) (st2 := [.int (I_5 3 3)]) (I2 := (wI I_5 3 3 y1)) ?_ (fun r I' hk => by
        refine XW.if_ne eX9_share_8 (fun _ => ?_) (fun z => absurd z c_8)
        refine XW.aload_n eX9_share_13 rfl ?_
        refine XW.getR (b := 3) eX9_share_14 f9_10_9 rfl (so_2 hs) (sr_2_0 hs) ?_
        refine XW.getI eX9_share_17 f9_113_6 rfl (so_3 hs) ?_
        refine XW.istore_n (ls' := [some (.ref 2), some (.int y1), some (.int (I_5 3 3))]) eX9_share_20 (Nat.le_of_ble_eq_true rfl) rfl ?_
        refine XW.aload_n eX9_share_21 rfl ?_
        refine XW.getR (b := 3) eX9_share_22 f9_10_9 rfl (so_2 hs) (sr_2_0 hs) ?_
        refine XW.iload_n eX9_share_25 rfl ?_
        refine XW.putI eX9_share_26 f9_113_6 (xP_of rfl (by decide)) rfl ⟨rfl, rfl⟩ (so_3 hs) ?_
        refine XW.iload_n eX9_share_29 rfl ?_
        exact hk)
    exact ⟨(I_5 3 3), (wI I_5 3 3 y1), XW.iret eX9_share_30 rfl rfl rfl rfl rfl, h⟩
set_option maxRecDepth 100000 in
set_option maxHeartbeats 4000000 in
theorem VX9_sheet {l : Launch} {C : xC} {G : xG} (hs : SH G)  (I : xI) (y1 y2 y3 : Int32) {Q : Int32 → xI → Prop} (h :
    (∃ Qc : Int32 → xI → Prop, XF fI l C mX9_isSheetNumber 0 (xent mX9_isSheetNumber [.int y1]) [] G I Qc ∧ ∀ (v_1 : Int32) (I_1 : xI), Qc v_1 I_1 → ((v_1 = 0 → Q (-1) I_1) ∧ (¬ (v_1 = 0) → (∃ Qc : Int32 → xI → Prop, XF fI l C mX9_isLane 0 (xent mX9_isLane [.int y2]) [] G I_1 Qc ∧ ∀ (v_8 : Int32) (I_8 : xI), Qc v_8 I_8 → ((v_8 = 0 → Q (-1) I_8) ∧ (¬ (v_8 = 0) → ((y3 ≤ 160 → ((0 ≤ y3 → vp_in y1 4 ∧ (∃ Qc : Unit → xI → Prop, XF fV l C mX7_beginRow 0 (xent mX7_beginRow [.ref (61 + 2 * y1.toNatClampNeg), .int y2, .int y3]) [] G I_8 Qc ∧ ∀ (u_38 : Unit) (I_38 : xI), Qc u_38 I_38 → Q y3 I_38)) ∧ (¬ (0 ≤ y3) → Q (-14) I_8))) ∧ (¬ (y3 ≤ 160) → Q (-1) I_8))))))))) : XF fI l C mX9_sheet 0 (xent mX9_sheet [.ref 2, .int y1, .int y2, .int y3]) [] G I Q := by
  show XF fI l C mX9_sheet 0 [some (.ref 2), some (.int y1), some (.int y2), some (.int y3)] [] G I Q
  refine XF.lift (pc2 := 1) (ls2 := [some (.ref 2), some (.int y1), some (.int y2), some (.int y3)]) (st2 := [.int y1]) (I2 := I) ?_ (fun r I' hk => by
      refine XW.iload_n eX9_sheet_0 rfl ?_
      exact hk)
  obtain ⟨Qc, hc, h⟩ := h
  refine XF.call (nx := 4) (st := []) hc (fun v I1 r I' hY hk => XW.callS (As := [.int y1]) (st := []) eX9_sheet_1 okX9_isSheetNumber cs9_116 rfl hY (xnum rfl rfl rfl rfl rfl) hk) (fun v_1 I_1 hq => ?_)
  replace h := h v_1 I_1 hq
  obtain ⟨ht, hf⟩ := h
  refine XF.br (P := v_1 = 0) (fun c_4 => ?_) (fun c_4 => ?_)
  ·
    replace h := ht c_4
    refine XF.lift (pc2 := 22) (ls2 := [some (.ref 2), some (.int y1), some (.int y2), some (.int y3)]) (st2 := [.int (-1)]) (I2 := I_1) ?_ (fun r I' hk => by
        refine XW.if_eq eX9_sheet_4 (fun _ => ?_) (fun z => absurd c_4 z)
        refine XW.iconst (v := (-1)) eX9_sheet_21 (by decide) ?_
        exact hk)
    exact ⟨(-1), I_1, XW.iret eX9_sheet_22 rfl rfl rfl rfl rfl, h⟩
  ·
    replace h := hf c_4
    refine XF.lift (pc2 := 8) (ls2 := [some (.ref 2), some (.int y1), some (.int y2), some (.int y3)]) (st2 := [.int y2]) (I2 := I_1) ?_ (fun r I' hk => by
        refine XW.if_eq eX9_sheet_4 (fun z => absurd z c_4) (fun _ => ?_)
        refine XW.iload_n eX9_sheet_7 rfl ?_
        exact hk)
    obtain ⟨Qc, hc, h⟩ := h
    refine XF.call (nx := 11) (st := []) hc (fun v I1 r I' hY hk => XW.callS (As := [.int y2]) (st := []) eX9_sheet_8 okX9_isLane cs9_120 rfl hY (xnum rfl rfl rfl rfl rfl) hk) (fun v_8 I_8 hq => ?_)
    replace h := h v_8 I_8 hq
    obtain ⟨ht, hf⟩ := h
    refine XF.br (P := v_8 = 0) (fun c_11 => ?_) (fun c_11 => ?_)
    ·
      replace h := ht c_11
      refine XF.lift (pc2 := 22) (ls2 := [some (.ref 2), some (.int y1), some (.int y2), some (.int y3)]) (st2 := [.int (-1)]) (I2 := I_8) ?_ (fun r I' hk => by
          refine XW.if_eq eX9_sheet_11 (fun _ => ?_) (fun z => absurd c_11 z)
          refine XW.iconst (v := (-1)) eX9_sheet_21 (by decide) ?_
          exact hk)
      exact ⟨(-1), I_8, XW.iret eX9_sheet_22 rfl rfl rfl rfl rfl, h⟩
    ·
      replace h := hf c_11
      refine XF.lift (pc2 := 18) (ls2 := [some (.ref 2), some (.int y1), some (.int y2), some (.int y3)]) (st2 := [.int 160, .int y3]) (I2 := I_8) ?_ (fun r I' hk => by
          refine XW.if_eq eX9_sheet_11 (fun z => absurd z c_11) (fun _ => ?_)
          refine XW.iload_n eX9_sheet_14 rfl ?_
          refine XW.sipush (v := 160) eX9_sheet_15 (by decide) ?_
          exact hk)
      obtain ⟨ht, hf⟩ := h
      refine XF.br (P := y3 ≤ 160) (fun c_18 => ?_) (fun c_18 => ?_)
      ·
        replace h := ht c_18
        refine XF.lift (pc2 := 24) (ls2 := [some (.ref 2), some (.int y1), some (.int y2), some (.int y3)]) (st2 := [.int y3]) (I2 := I_8) ?_ (fun r I' hk => by
            refine XW.icmp_le eX9_sheet_18 (fun _ => ?_) (fun z => absurd c_18 z)
            refine XW.iload_n eX9_sheet_23 rfl ?_
            exact hk)
        obtain ⟨ht, hf⟩ := h
        refine XF.br (P := 0 ≤ y3) (fun c_24 => ?_) (fun c_24 => ?_)
        ·
          replace h := ht c_24
          obtain ⟨q_35, h⟩ := h
          refine XF.lift (pc2 := 38) (ls2 := [some (.ref 2), some (.int y1), some (.int y2), some (.int y3)]) (st2 := [.int y3, .int y2, .ref (61 + 2 * y1.toNatClampNeg)]) (I2 := I_8) ?_ (fun r I' hk => by
              refine XW.if_ge eX9_sheet_24 (fun _ => ?_) (fun z => absurd c_24 z)
              refine XW.aload_n eX9_sheet_30 rfl ?_
              refine XW.getR (b := 7) eX9_sheet_31 f9_24_9 rfl (so_2 hs) (sr_2_2 hs) ?_
              refine XW.iload_n eX9_sheet_34 rfl ?_
              refine XW.aaload (b := (61 + 2 * y1.toNatClampNeg)) eX9_sheet_35 (sa_7 hs) ⟨by decide, rfl⟩ q_35 (sq7 hs q_35) ?_
              refine XW.iload_n eX9_sheet_36 rfl ?_
              refine XW.iload_n eX9_sheet_37 rfl ?_
              exact hk)
          obtain ⟨Qc, hc, h⟩ := h
          refine XF.call (nx := 41) (st := []) hc (fun v I1 r I' hY hk => XW.callV (As := [.int y2, .int y3]) (st := []) eX9_sheet_38 okX7_beginRow cv9_123 rfl (so7 hs q_35).1 hY (xnum rfl rfl rfl rfl rfl) hk) (fun _ I_38 hq => ?_)
          replace h := h () I_38 hq
          refine XF.lift (pc2 := 42) (ls2 := [some (.ref 2), some (.int y1), some (.int y2), some (.int y3)]) (st2 := [.int y3]) (I2 := I_38) ?_ (fun r I' hk => by
              refine XW.iload_n eX9_sheet_41 rfl ?_
              exact hk)
          exact ⟨y3, I_38, XW.iret eX9_sheet_42 rfl rfl rfl rfl rfl, h⟩
        ·
          replace h := hf c_24
          refine XF.lift (pc2 := 29) (ls2 := [some (.ref 2), some (.int y1), some (.int y2), some (.int y3)]) (st2 := [.int (-14)]) (I2 := I_8) ?_ (fun r I' hk => by
              refine XW.if_ge eX9_sheet_24 (fun z => absurd z c_24) (fun _ => ?_)
              refine XW.bipush (v := (-14)) eX9_sheet_27 (by decide) ?_
              exact hk)
          exact ⟨(-14), I_8, XW.iret eX9_sheet_29 rfl rfl rfl rfl rfl, h⟩
      ·
        replace h := hf c_18
        refine XF.lift (pc2 := 22) (ls2 := [some (.ref 2), some (.int y1), some (.int y2), some (.int y3)]) (st2 := [.int (-1)]) (I2 := I_8) ?_ (fun r I' hk => by
            refine XW.icmp_le eX9_sheet_18 (fun z => absurd z c_18) (fun _ => ?_)
            refine XW.iconst (v := (-1)) eX9_sheet_21 (by decide) ?_
            exact hk)
        exact ⟨(-1), I_8, XW.iret eX9_sheet_22 rfl rfl rfl rfl rfl, h⟩
set_option maxRecDepth 100000 in
set_option maxHeartbeats 4000000 in
theorem VX9_drop {l : Launch} {C : xC} {G : xG} (hs : SH G)  (I : xI) (y1 : Int32) {Q : Int32 → xI → Prop} (h :
    (∃ Qc : Int32 → xI → Prop, XF fI l C mX9_isSheetNumber 0 (xent mX9_isSheetNumber [.int y1]) [] G I Qc ∧ ∀ (v_1 : Int32) (I_1 : xI), Qc v_1 I_1 → ((v_1 = 0 → Q (-1) I_1) ∧ (¬ (v_1 = 0) → vp_in y1 4 ∧ (((I_1 (61 + 2 * y1.toNatClampNeg) 2) = 0 → Q (-11) I_1) ∧ (¬ ((I_1 (61 + 2 * y1.toNatClampNeg) 2) = 0) → Q ((wI I_1 (61 + 2 * y1.toNatClampNeg) 2 0) (61 + 2 * y1.toNatClampNeg) 3) (wI I_1 (61 + 2 * y1.toNatClampNeg) 2 0))))))) : XF fI l C mX9_drop 0 (xent mX9_drop [.ref 2, .int y1]) [] G I Q := by
  show XF fI l C mX9_drop 0 [some (.ref 2), some (.int y1), none] [] G I Q
  refine XF.lift (pc2 := 1) (ls2 := [some (.ref 2), some (.int y1), none]) (st2 := [.int y1]) (I2 := I) ?_ (fun r I' hk => by
      refine XW.iload_n eX9_drop_0 rfl ?_
      exact hk)
  obtain ⟨Qc, hc, h⟩ := h
  refine XF.call (nx := 4) (st := []) hc (fun v I1 r I' hY hk => XW.callS (As := [.int y1]) (st := []) eX9_drop_1 okX9_isSheetNumber cs9_116 rfl hY (xnum rfl rfl rfl rfl rfl) hk) (fun v_1 I_1 hq => ?_)
  replace h := h v_1 I_1 hq
  obtain ⟨ht, hf⟩ := h
  refine XF.br (P := v_1 = 0) (fun c_4 => ?_) (fun c_4 => ?_)
  ·
    replace h := ht c_4
    refine XF.lift (pc2 := 8) (ls2 := [some (.ref 2), some (.int y1), none]) (st2 := [.int (-1)]) (I2 := I_1) ?_ (fun r I' hk => by
        refine XW.if_ne eX9_drop_4 (fun z => absurd c_4 z) (fun _ => ?_)
        refine XW.iconst (v := (-1)) eX9_drop_7 (by decide) ?_
        exact hk)
    exact ⟨(-1), I_1, XW.iret eX9_drop_8 rfl rfl rfl rfl rfl, h⟩
  ·
    replace h := hf c_4
    obtain ⟨q_14, h⟩ := h
    refine XF.lift (pc2 := 20) (ls2 := [some (.ref 2), some (.int y1), some (.ref (61 + 2 * y1.toNatClampNeg))]) (st2 := [.int (I_1 (61 + 2 * y1.toNatClampNeg) 2)]) (I2 := I_1) ?_ (fun r I' hk => by
        refine XW.if_ne eX9_drop_4 (fun _ => ?_) (fun z => absurd z c_4)
        refine XW.aload_n eX9_drop_9 rfl ?_
        refine XW.getR (b := 7) eX9_drop_10 f9_24_9 rfl (so_2 hs) (sr_2_2 hs) ?_
        refine XW.iload_n eX9_drop_13 rfl ?_
        refine XW.aaload (b := (61 + 2 * y1.toNatClampNeg)) eX9_drop_14 (sa_7 hs) ⟨by decide, rfl⟩ q_14 (sq7 hs q_14) ?_
        refine XW.astore_n (ls' := [some (.ref 2), some (.int y1), some (.ref (61 + 2 * y1.toNatClampNeg))]) eX9_drop_15 (Nat.le_of_ble_eq_true rfl) rfl ?_
        refine XW.aload_n eX9_drop_16 rfl ?_
        refine XW.getI eX9_drop_17 f9_127_7 rfl (so7 hs q_14).1 ?_
        exact hk)
    obtain ⟨ht, hf⟩ := h
    refine XF.br (P := (I_1 (61 + 2 * y1.toNatClampNeg) 2) = 0) (fun c_20 => ?_) (fun c_20 => ?_)
    ·
      replace h := ht c_20
      refine XF.lift (pc2 := 25) (ls2 := [some (.ref 2), some (.int y1), some (.ref (61 + 2 * y1.toNatClampNeg))]) (st2 := [.int (-11)]) (I2 := I_1) ?_ (fun r I' hk => by
          refine XW.if_ne eX9_drop_20 (fun z => absurd c_20 z) (fun _ => ?_)
          refine XW.bipush (v := (-11)) eX9_drop_23 (by decide) ?_
          exact hk)
      exact ⟨(-11), I_1, XW.iret eX9_drop_25 rfl rfl rfl rfl rfl, h⟩
    ·
      replace h := hf c_20
      refine XF.lift (pc2 := 35) (ls2 := [some (.ref 2), some (.int y1), some (.ref (61 + 2 * y1.toNatClampNeg))]) (st2 := [.int ((wI I_1 (61 + 2 * y1.toNatClampNeg) 2 0) (61 + 2 * y1.toNatClampNeg) 3)]) (I2 := (wI I_1 (61 + 2 * y1.toNatClampNeg) 2 0)) ?_ (fun r I' hk => by
          refine XW.if_ne eX9_drop_20 (fun _ => ?_) (fun z => absurd z c_20)
          refine XW.aload_n eX9_drop_26 rfl ?_
          refine XW.iconst (v := 0) eX9_drop_27 (by decide) ?_
          refine XW.putI eX9_drop_28 f9_127_7 (xP_of rfl (by decide)) rfl ⟨rfl, rfl⟩ (so7 hs q_14).1 ?_
          refine XW.aload_n eX9_drop_31 rfl ?_
          refine XW.getI eX9_drop_32 f9_131_7 rfl (so7 hs q_14).1 ?_
          exact hk)
      exact ⟨((wI I_1 (61 + 2 * y1.toNatClampNeg) 2 0) (61 + 2 * y1.toNatClampNeg) 3), (wI I_1 (61 + 2 * y1.toNatClampNeg) 2 0), XW.iret eX9_drop_35 rfl rfl rfl rfl rfl, h⟩
set_option maxRecDepth 100000 in
set_option maxHeartbeats 4000000 in
theorem VX9_item {l : Launch} {C : xC} {G : xG} (hs : SH G)  (I : xI) (y1 y2 y3 y4 : Int32) {Q : Int32 → xI → Prop} (h :
    (∃ Qc : Int32 → xI → Prop, XF fI l C mX9_isSheetNumber 0 (xent mX9_isSheetNumber [.int y1]) [] G I Qc ∧ ∀ (v_1 : Int32) (I_1 : xI), Qc v_1 I_1 → ((v_1 = 0 → Q (-1) I_1) ∧ (¬ (v_1 = 0) → (∃ Qc : Int32 → xI → Prop, XF fI l C mX9_isLane 0 (xent mX9_isLane [.int y2]) [] G I_1 Qc ∧ ∀ (v_8 : Int32) (I_8 : xI), Qc v_8 I_8 → ((v_8 = 0 → Q (-1) I_8) ∧ (¬ (v_8 = 0) → vp_in y1 4 ∧ (((I_8 (61 + 2 * y1.toNatClampNeg) 2) = 0 → Q (-11) I_8) ∧ (¬ ((I_8 (61 + 2 * y1.toNatClampNeg) 2) = 0) → (((I_8 (61 + 2 * y1.toNatClampNeg) 0) = y2 → (∃ Qc : Int32 → xI → Prop, XF fI l C mX7_hasItems 0 (xent mX7_hasItems [.ref (61 + 2 * y1.toNatClampNeg), .int y3, .int 1]) [] G I_8 Qc ∧ ∀ (v_51 : Int32) (I_51 : xI), Qc v_51 I_51 → ((v_51 = 0 → Q (-13) I_51) ∧ (¬ (v_51 = 0) → (∃ Qc : Unit → xI → Prop, XF fV l C mX7_put 0 (xent mX7_put [.ref (61 + 2 * y1.toNatClampNeg), .int y3, .int y4]) [] G I_51 Qc ∧ ∀ (u_65 : Unit) (I_65 : xI), Qc u_65 I_65 → Q 1 I_65))))) ∧ (¬ ((I_8 (61 + 2 * y1.toNatClampNeg) 0) = y2) → Q (-12) I_8))))))))))) : XF fI l C mX9_item 0 (xent mX9_item [.ref 2, .int y1, .int y2, .int y3, .int y4]) [] G I Q := by
  show XF fI l C mX9_item 0 [some (.ref 2), some (.int y1), some (.int y2), some (.int y3), some (.int y4), none] [] G I Q
  refine XF.lift (pc2 := 1) (ls2 := [some (.ref 2), some (.int y1), some (.int y2), some (.int y3), some (.int y4), none]) (st2 := [.int y1]) (I2 := I) ?_ (fun r I' hk => by
      refine XW.iload_n eX9_item_0 rfl ?_
      exact hk)
  obtain ⟨Qc, hc, h⟩ := h
  refine XF.call (nx := 4) (st := []) hc (fun v I1 r I' hY hk => XW.callS (As := [.int y1]) (st := []) eX9_item_1 okX9_isSheetNumber cs9_116 rfl hY (xnum rfl rfl rfl rfl rfl) hk) (fun v_1 I_1 hq => ?_)
  replace h := h v_1 I_1 hq
  obtain ⟨ht, hf⟩ := h
  refine XF.br (P := v_1 = 0) (fun c_4 => ?_) (fun c_4 => ?_)
  ·
    replace h := ht c_4
    refine XF.lift (pc2 := 15) (ls2 := [some (.ref 2), some (.int y1), some (.int y2), some (.int y3), some (.int y4), none]) (st2 := [.int (-1)]) (I2 := I_1) ?_ (fun r I' hk => by
        refine XW.if_eq eX9_item_4 (fun _ => ?_) (fun z => absurd c_4 z)
        refine XW.iconst (v := (-1)) eX9_item_14 (by decide) ?_
        exact hk)
    exact ⟨(-1), I_1, XW.iret eX9_item_15 rfl rfl rfl rfl rfl, h⟩
  ·
    replace h := hf c_4
    refine XF.lift (pc2 := 8) (ls2 := [some (.ref 2), some (.int y1), some (.int y2), some (.int y3), some (.int y4), none]) (st2 := [.int y2]) (I2 := I_1) ?_ (fun r I' hk => by
        refine XW.if_eq eX9_item_4 (fun z => absurd z c_4) (fun _ => ?_)
        refine XW.iload_n eX9_item_7 rfl ?_
        exact hk)
    obtain ⟨Qc, hc, h⟩ := h
    refine XF.call (nx := 11) (st := []) hc (fun v I1 r I' hY hk => XW.callS (As := [.int y2]) (st := []) eX9_item_8 okX9_isLane cs9_120 rfl hY (xnum rfl rfl rfl rfl rfl) hk) (fun v_8 I_8 hq => ?_)
    replace h := h v_8 I_8 hq
    obtain ⟨ht, hf⟩ := h
    refine XF.br (P := v_8 = 0) (fun c_11 => ?_) (fun c_11 => ?_)
    ·
      replace h := ht c_11
      refine XF.lift (pc2 := 15) (ls2 := [some (.ref 2), some (.int y1), some (.int y2), some (.int y3), some (.int y4), none]) (st2 := [.int (-1)]) (I2 := I_8) ?_ (fun r I' hk => by
          refine XW.if_ne eX9_item_11 (fun z => absurd c_11 z) (fun _ => ?_)
          refine XW.iconst (v := (-1)) eX9_item_14 (by decide) ?_
          exact hk)
      exact ⟨(-1), I_8, XW.iret eX9_item_15 rfl rfl rfl rfl rfl, h⟩
    ·
      replace h := hf c_11
      obtain ⟨q_21, h⟩ := h
      refine XF.lift (pc2 := 29) (ls2 := [some (.ref 2), some (.int y1), some (.int y2), some (.int y3), some (.int y4), some (.ref (61 + 2 * y1.toNatClampNeg))]) (st2 := [.int (I_8 (61 + 2 * y1.toNatClampNeg) 2)]) (I2 := I_8) ?_ (fun r I' hk => by
          refine XW.if_ne eX9_item_11 (fun _ => ?_) (fun z => absurd z c_11)
          refine XW.aload_n eX9_item_16 rfl ?_
          refine XW.getR (b := 7) eX9_item_17 f9_24_9 rfl (so_2 hs) (sr_2_2 hs) ?_
          refine XW.iload_n eX9_item_20 rfl ?_
          refine XW.aaload (b := (61 + 2 * y1.toNatClampNeg)) eX9_item_21 (sa_7 hs) ⟨by decide, rfl⟩ q_21 (sq7 hs q_21) ?_
          refine XW.astore (ls' := [some (.ref 2), some (.int y1), some (.int y2), some (.int y3), some (.int y4), some (.ref (61 + 2 * y1.toNatClampNeg))]) eX9_item_22 (Nat.le_of_ble_eq_true rfl) rfl ?_
          refine XW.aload eX9_item_24 rfl ?_
          refine XW.getI eX9_item_26 f9_127_7 rfl (so7 hs q_21).1 ?_
          exact hk)
      obtain ⟨ht, hf⟩ := h
      refine XF.br (P := (I_8 (61 + 2 * y1.toNatClampNeg) 2) = 0) (fun c_29 => ?_) (fun c_29 => ?_)
      ·
        replace h := ht c_29
        refine XF.lift (pc2 := 34) (ls2 := [some (.ref 2), some (.int y1), some (.int y2), some (.int y3), some (.int y4), some (.ref (61 + 2 * y1.toNatClampNeg))]) (st2 := [.int (-11)]) (I2 := I_8) ?_ (fun r I' hk => by
            refine XW.if_ne eX9_item_29 (fun z => absurd c_29 z) (fun _ => ?_)
            refine XW.bipush (v := (-11)) eX9_item_32 (by decide) ?_
            exact hk)
        exact ⟨(-11), I_8, XW.iret eX9_item_34 rfl rfl rfl rfl rfl, h⟩
      ·
        replace h := hf c_29
        refine XF.lift (pc2 := 41) (ls2 := [some (.ref 2), some (.int y1), some (.int y2), some (.int y3), some (.int y4), some (.ref (61 + 2 * y1.toNatClampNeg))]) (st2 := [.int y2, .int (I_8 (61 + 2 * y1.toNatClampNeg) 0)]) (I2 := I_8) ?_ (fun r I' hk => by
            refine XW.if_ne eX9_item_29 (fun _ => ?_) (fun z => absurd z c_29)
            refine XW.aload eX9_item_35 rfl ?_
            refine XW.getI eX9_item_37 f9_134_7 rfl (so7 hs q_21).1 ?_
            refine XW.iload_n eX9_item_40 rfl ?_
            exact hk)
        obtain ⟨ht, hf⟩ := h
        refine XF.br (P := (I_8 (61 + 2 * y1.toNatClampNeg) 0) = y2) (fun c_41 => ?_) (fun c_41 => ?_)
        ·
          replace h := ht c_41
          refine XF.lift (pc2 := 51) (ls2 := [some (.ref 2), some (.int y1), some (.int y2), some (.int y3), some (.int y4), some (.ref (61 + 2 * y1.toNatClampNeg))]) (st2 := [.int 1, .int y3, .ref (61 + 2 * y1.toNatClampNeg)]) (I2 := I_8) ?_ (fun r I' hk => by
              refine XW.icmp_eq eX9_item_41 (fun _ => ?_) (fun z => absurd c_41 z)
              refine XW.aload eX9_item_47 rfl ?_
              refine XW.iload_n eX9_item_49 rfl ?_
              refine XW.iconst (v := 1) eX9_item_50 (by decide) ?_
              exact hk)
          obtain ⟨Qc, hc, h⟩ := h
          refine XF.call (nx := 54) (st := []) hc (fun v I1 r I' hY hk => XW.callV (As := [.int y3, .int 1]) (st := []) eX9_item_51 okX7_hasItems cv9_137 rfl (so7 hs q_21).1 hY (xnum rfl rfl rfl rfl rfl) hk) (fun v_51 I_51 hq => ?_)
          replace h := h v_51 I_51 hq
          obtain ⟨ht, hf⟩ := h
          refine XF.br (P := v_51 = 0) (fun c_54 => ?_) (fun c_54 => ?_)
          ·
            replace h := ht c_54
            refine XF.lift (pc2 := 59) (ls2 := [some (.ref 2), some (.int y1), some (.int y2), some (.int y3), some (.int y4), some (.ref (61 + 2 * y1.toNatClampNeg))]) (st2 := [.int (-13)]) (I2 := I_51) ?_ (fun r I' hk => by
                refine XW.if_ne eX9_item_54 (fun z => absurd c_54 z) (fun _ => ?_)
                refine XW.bipush (v := (-13)) eX9_item_57 (by decide) ?_
                exact hk)
            exact ⟨(-13), I_51, XW.iret eX9_item_59 rfl rfl rfl rfl rfl, h⟩
          ·
            replace h := hf c_54
            refine XF.lift (pc2 := 65) (ls2 := [some (.ref 2), some (.int y1), some (.int y2), some (.int y3), some (.int y4), some (.ref (61 + 2 * y1.toNatClampNeg))]) (st2 := [.int y4, .int y3, .ref (61 + 2 * y1.toNatClampNeg)]) (I2 := I_51) ?_ (fun r I' hk => by
                refine XW.if_ne eX9_item_54 (fun _ => ?_) (fun z => absurd z c_54)
                refine XW.aload eX9_item_60 rfl ?_
                refine XW.iload_n eX9_item_62 rfl ?_
                refine XW.iload eX9_item_63 rfl ?_
                exact hk)
            obtain ⟨Qc, hc, h⟩ := h
            refine XF.call (nx := 68) (st := []) hc (fun v I1 r I' hY hk => XW.callV (As := [.int y3, .int y4]) (st := []) eX9_item_65 okX7_put cv9_141 rfl (so7 hs q_21).1 hY (xnum rfl rfl rfl rfl rfl) hk) (fun _ I_65 hq => ?_)
            replace h := h () I_65 hq
            refine XF.lift (pc2 := 69) (ls2 := [some (.ref 2), some (.int y1), some (.int y2), some (.int y3), some (.int y4), some (.ref (61 + 2 * y1.toNatClampNeg))]) (st2 := [.int 1]) (I2 := I_65) ?_ (fun r I' hk => by
                refine XW.iconst (v := 1) eX9_item_68 (by decide) ?_
                exact hk)
            exact ⟨1, I_65, XW.iret eX9_item_69 rfl rfl rfl rfl rfl, h⟩
        ·
          replace h := hf c_41
          refine XF.lift (pc2 := 46) (ls2 := [some (.ref 2), some (.int y1), some (.int y2), some (.int y3), some (.int y4), some (.ref (61 + 2 * y1.toNatClampNeg))]) (st2 := [.int (-12)]) (I2 := I_8) ?_ (fun r I' hk => by
              refine XW.icmp_eq eX9_item_41 (fun z => absurd z c_41) (fun _ => ?_)
              refine XW.bipush (v := (-12)) eX9_item_44 (by decide) ?_
              exact hk)
          exact ⟨(-12), I_8, XW.iret eX9_item_46 rfl rfl rfl rfl rfl, h⟩
set_option maxRecDepth 100000 in
set_option maxHeartbeats 4000000 in
theorem VX9_copy {l : Launch} {C : xC} {G : xG} (hs : SH G)  (I : xI) (y1 y2 y3 y4 y5 : Int32) {Q : Int32 → xI → Prop} (h :
    (∃ Qc : Int32 → xI → Prop, XF fI l C mX9_isSheetNumber 0 (xent mX9_isSheetNumber [.int y1]) [] G I Qc ∧ ∀ (v_1 : Int32) (I_1 : xI), Qc v_1 I_1 → ((v_1 = 0 → Q (-1) I_1) ∧ (¬ (v_1 = 0) → (∃ Qc : Int32 → xI → Prop, XF fI l C mX9_isSheetNumber 0 (xent mX9_isSheetNumber [.int y3]) [] G I_1 Qc ∧ ∀ (v_8 : Int32) (I_8 : xI), Qc v_8 I_8 → ((v_8 = 0 → Q (-1) I_8) ∧ (¬ (v_8 = 0) → vp_in y1 4 ∧ vp_in y3 4 ∧ (((I_8 (61 + 2 * y1.toNatClampNeg) 2) = 0 → Q (-11) I_8) ∧ (¬ ((I_8 (61 + 2 * y1.toNatClampNeg) 2) = 0) → (((I_8 (61 + 2 * y3.toNatClampNeg) 2) = 0 → Q (-11) I_8) ∧ (¬ ((I_8 (61 + 2 * y3.toNatClampNeg) 2) = 0) → (((I_8 (61 + 2 * y1.toNatClampNeg) 0) = (I_8 (61 + 2 * y3.toNatClampNeg) 0) → (∃ Qc : Int32 → xI → Prop, XF fI l C mX7_hasItems 0 (xent mX7_hasItems [.ref (61 + 2 * y1.toNatClampNeg), .int y2, .int y5]) [] G I_8 Qc ∧ ∀ (v_72 : Int32) (I_72 : xI), Qc v_72 I_72 → ((v_72 = 0 → Q (-13) I_72) ∧ (¬ (v_72 = 0) → (∃ Qc : Int32 → xI → Prop, XF fI l C mX7_hasItems 0 (xent mX7_hasItems [.ref (61 + 2 * y3.toNatClampNeg), .int y4, .int y5]) [] G I_72 Qc ∧ ∀ (v_84 : Int32) (I_84 : xI), Qc v_84 I_84 → ((v_84 = 0 → Q (-13) I_84) ∧ (¬ (v_84 = 0) → (¬ y2 < 0 ∧ ¬ y4 < 0 ∧ ¬ y5 < 0 ∧ y2.toNatClampNeg + y5.toNatClampNeg ≤ 160 ∧ y4.toNatClampNeg + y5.toNatClampNeg ≤ 160) ∧ Q y5 (wA I_84 ((61 + 2 * y3.toNatClampNeg) + 1) (va_cpy (I_84 ((61 + 2 * y1.toNatClampNeg) + 1)) (I_84 ((61 + 2 * y3.toNatClampNeg) + 1)) y2.toNatClampNeg y4.toNatClampNeg y5.toNatClampNeg))))))))) ∧ (¬ ((I_8 (61 + 2 * y1.toNatClampNeg) 0) = (I_8 (61 + 2 * y3.toNatClampNeg) 0)) → Q (-12) I_8))))))))))))) : XF fI l C mX9_copy 0 (xent mX9_copy [.ref 2, .int y1, .int y2, .int y3, .int y4, .int y5]) [] G I Q := by
  show XF fI l C mX9_copy 0 [some (.ref 2), some (.int y1), some (.int y2), some (.int y3), some (.int y4), some (.int y5), none, none] [] G I Q
  refine XF.lift (pc2 := 1) (ls2 := [some (.ref 2), some (.int y1), some (.int y2), some (.int y3), some (.int y4), some (.int y5), none, none]) (st2 := [.int y1]) (I2 := I) ?_ (fun r I' hk => by
      refine XW.iload_n eX9_copy_0 rfl ?_
      exact hk)
  obtain ⟨Qc, hc, h⟩ := h
  refine XF.call (nx := 4) (st := []) hc (fun v I1 r I' hY hk => XW.callS (As := [.int y1]) (st := []) eX9_copy_1 okX9_isSheetNumber cs9_116 rfl hY (xnum rfl rfl rfl rfl rfl) hk) (fun v_1 I_1 hq => ?_)
  replace h := h v_1 I_1 hq
  obtain ⟨ht, hf⟩ := h
  refine XF.br (P := v_1 = 0) (fun c_4 => ?_) (fun c_4 => ?_)
  ·
    replace h := ht c_4
    refine XF.lift (pc2 := 15) (ls2 := [some (.ref 2), some (.int y1), some (.int y2), some (.int y3), some (.int y4), some (.int y5), none, none]) (st2 := [.int (-1)]) (I2 := I_1) ?_ (fun r I' hk => by
        refine XW.if_eq eX9_copy_4 (fun _ => ?_) (fun z => absurd c_4 z)
        refine XW.iconst (v := (-1)) eX9_copy_14 (by decide) ?_
        exact hk)
    exact ⟨(-1), I_1, XW.iret eX9_copy_15 rfl rfl rfl rfl rfl, h⟩
  ·
    replace h := hf c_4
    refine XF.lift (pc2 := 8) (ls2 := [some (.ref 2), some (.int y1), some (.int y2), some (.int y3), some (.int y4), some (.int y5), none, none]) (st2 := [.int y3]) (I2 := I_1) ?_ (fun r I' hk => by
        refine XW.if_eq eX9_copy_4 (fun z => absurd z c_4) (fun _ => ?_)
        refine XW.iload_n eX9_copy_7 rfl ?_
        exact hk)
    obtain ⟨Qc, hc, h⟩ := h
    refine XF.call (nx := 11) (st := []) hc (fun v I1 r I' hY hk => XW.callS (As := [.int y3]) (st := []) eX9_copy_8 okX9_isSheetNumber cs9_116 rfl hY (xnum rfl rfl rfl rfl rfl) hk) (fun v_8 I_8 hq => ?_)
    replace h := h v_8 I_8 hq
    obtain ⟨ht, hf⟩ := h
    refine XF.br (P := v_8 = 0) (fun c_11 => ?_) (fun c_11 => ?_)
    ·
      replace h := ht c_11
      refine XF.lift (pc2 := 15) (ls2 := [some (.ref 2), some (.int y1), some (.int y2), some (.int y3), some (.int y4), some (.int y5), none, none]) (st2 := [.int (-1)]) (I2 := I_8) ?_ (fun r I' hk => by
          refine XW.if_ne eX9_copy_11 (fun z => absurd c_11 z) (fun _ => ?_)
          refine XW.iconst (v := (-1)) eX9_copy_14 (by decide) ?_
          exact hk)
      exact ⟨(-1), I_8, XW.iret eX9_copy_15 rfl rfl rfl rfl rfl, h⟩
    ·
      replace h := hf c_11
      obtain ⟨q_21, h⟩ := h
      obtain ⟨q_29, h⟩ := h
      refine XF.lift (pc2 := 37) (ls2 := [some (.ref 2), some (.int y1), some (.int y2), some (.int y3), some (.int y4), some (.int y5), some (.ref (61 + 2 * y1.toNatClampNeg)), some (.ref (61 + 2 * y3.toNatClampNeg))]) (st2 := [.int (I_8 (61 + 2 * y1.toNatClampNeg) 2)]) (I2 := I_8) ?_ (fun r I' hk => by
          refine XW.if_ne eX9_copy_11 (fun _ => ?_) (fun z => absurd z c_11)
          refine XW.aload_n eX9_copy_16 rfl ?_
          refine XW.getR (b := 7) eX9_copy_17 f9_24_9 rfl (so_2 hs) (sr_2_2 hs) ?_
          refine XW.iload_n eX9_copy_20 rfl ?_
          refine XW.aaload (b := (61 + 2 * y1.toNatClampNeg)) eX9_copy_21 (sa_7 hs) ⟨by decide, rfl⟩ q_21 (sq7 hs q_21) ?_
          refine XW.astore (ls' := [some (.ref 2), some (.int y1), some (.int y2), some (.int y3), some (.int y4), some (.int y5), some (.ref (61 + 2 * y1.toNatClampNeg)), none]) eX9_copy_22 (Nat.le_of_ble_eq_true rfl) rfl ?_
          refine XW.aload_n eX9_copy_24 rfl ?_
          refine XW.getR (b := 7) eX9_copy_25 f9_24_9 rfl (so_2 hs) (sr_2_2 hs) ?_
          refine XW.iload_n eX9_copy_28 rfl ?_
          refine XW.aaload (b := (61 + 2 * y3.toNatClampNeg)) eX9_copy_29 (sa_7 hs) ⟨by decide, rfl⟩ q_29 (sq7 hs q_29) ?_
          refine XW.astore (ls' := [some (.ref 2), some (.int y1), some (.int y2), some (.int y3), some (.int y4), some (.int y5), some (.ref (61 + 2 * y1.toNatClampNeg)), some (.ref (61 + 2 * y3.toNatClampNeg))]) eX9_copy_30 (Nat.le_of_ble_eq_true rfl) rfl ?_
          refine XW.aload eX9_copy_32 rfl ?_
          refine XW.getI eX9_copy_34 f9_127_7 rfl (so7 hs q_21).1 ?_
          exact hk)
      obtain ⟨ht, hf⟩ := h
      refine XF.br (P := (I_8 (61 + 2 * y1.toNatClampNeg) 2) = 0) (fun c_37 => ?_) (fun c_37 => ?_)
      ·
        replace h := ht c_37
        refine XF.lift (pc2 := 50) (ls2 := [some (.ref 2), some (.int y1), some (.int y2), some (.int y3), some (.int y4), some (.int y5), some (.ref (61 + 2 * y1.toNatClampNeg)), some (.ref (61 + 2 * y3.toNatClampNeg))]) (st2 := [.int (-11)]) (I2 := I_8) ?_ (fun r I' hk => by
            refine XW.if_eq eX9_copy_37 (fun _ => ?_) (fun z => absurd c_37 z)
            refine XW.bipush (v := (-11)) eX9_copy_48 (by decide) ?_
            exact hk)
        exact ⟨(-11), I_8, XW.iret eX9_copy_50 rfl rfl rfl rfl rfl, h⟩
      ·
        replace h := hf c_37
        refine XF.lift (pc2 := 45) (ls2 := [some (.ref 2), some (.int y1), some (.int y2), some (.int y3), some (.int y4), some (.int y5), some (.ref (61 + 2 * y1.toNatClampNeg)), some (.ref (61 + 2 * y3.toNatClampNeg))]) (st2 := [.int (I_8 (61 + 2 * y3.toNatClampNeg) 2)]) (I2 := I_8) ?_ (fun r I' hk => by
            refine XW.if_eq eX9_copy_37 (fun z => absurd z c_37) (fun _ => ?_)
            refine XW.aload eX9_copy_40 rfl ?_
            refine XW.getI eX9_copy_42 f9_127_7 rfl (so7 hs q_29).1 ?_
            exact hk)
        obtain ⟨ht, hf⟩ := h
        refine XF.br (P := (I_8 (61 + 2 * y3.toNatClampNeg) 2) = 0) (fun c_45 => ?_) (fun c_45 => ?_)
        ·
          replace h := ht c_45
          refine XF.lift (pc2 := 50) (ls2 := [some (.ref 2), some (.int y1), some (.int y2), some (.int y3), some (.int y4), some (.int y5), some (.ref (61 + 2 * y1.toNatClampNeg)), some (.ref (61 + 2 * y3.toNatClampNeg))]) (st2 := [.int (-11)]) (I2 := I_8) ?_ (fun r I' hk => by
              refine XW.if_ne eX9_copy_45 (fun z => absurd c_45 z) (fun _ => ?_)
              refine XW.bipush (v := (-11)) eX9_copy_48 (by decide) ?_
              exact hk)
          exact ⟨(-11), I_8, XW.iret eX9_copy_50 rfl rfl rfl rfl rfl, h⟩
        ·
          replace h := hf c_45
          refine XF.lift (pc2 := 61) (ls2 := [some (.ref 2), some (.int y1), some (.int y2), some (.int y3), some (.int y4), some (.int y5), some (.ref (61 + 2 * y1.toNatClampNeg)), some (.ref (61 + 2 * y3.toNatClampNeg))]) (st2 := [.int (I_8 (61 + 2 * y3.toNatClampNeg) 0), .int (I_8 (61 + 2 * y1.toNatClampNeg) 0)]) (I2 := I_8) ?_ (fun r I' hk => by
              refine XW.if_ne eX9_copy_45 (fun _ => ?_) (fun z => absurd z c_45)
              refine XW.aload eX9_copy_51 rfl ?_
              refine XW.getI eX9_copy_53 f9_134_7 rfl (so7 hs q_21).1 ?_
              refine XW.aload eX9_copy_56 rfl ?_
              refine XW.getI eX9_copy_58 f9_134_7 rfl (so7 hs q_29).1 ?_
              exact hk)
          obtain ⟨ht, hf⟩ := h
          refine XF.br (P := (I_8 (61 + 2 * y1.toNatClampNeg) 0) = (I_8 (61 + 2 * y3.toNatClampNeg) 0)) (fun c_61 => ?_) (fun c_61 => ?_)
          ·
            replace h := ht c_61
            refine XF.lift (pc2 := 72) (ls2 := [some (.ref 2), some (.int y1), some (.int y2), some (.int y3), some (.int y4), some (.int y5), some (.ref (61 + 2 * y1.toNatClampNeg)), some (.ref (61 + 2 * y3.toNatClampNeg))]) (st2 := [.int y5, .int y2, .ref (61 + 2 * y1.toNatClampNeg)]) (I2 := I_8) ?_ (fun r I' hk => by
                refine XW.icmp_eq eX9_copy_61 (fun _ => ?_) (fun z => absurd c_61 z)
                refine XW.aload eX9_copy_67 rfl ?_
                refine XW.iload_n eX9_copy_69 rfl ?_
                refine XW.iload eX9_copy_70 rfl ?_
                exact hk)
            obtain ⟨Qc, hc, h⟩ := h
            refine XF.call (nx := 75) (st := []) hc (fun v I1 r I' hY hk => XW.callV (As := [.int y2, .int y5]) (st := []) eX9_copy_72 okX7_hasItems cv9_137 rfl (so7 hs q_21).1 hY (xnum rfl rfl rfl rfl rfl) hk) (fun v_72 I_72 hq => ?_)
            replace h := h v_72 I_72 hq
            obtain ⟨ht, hf⟩ := h
            refine XF.br (P := v_72 = 0) (fun c_75 => ?_) (fun c_75 => ?_)
            ·
              replace h := ht c_75
              refine XF.lift (pc2 := 92) (ls2 := [some (.ref 2), some (.int y1), some (.int y2), some (.int y3), some (.int y4), some (.int y5), some (.ref (61 + 2 * y1.toNatClampNeg)), some (.ref (61 + 2 * y3.toNatClampNeg))]) (st2 := [.int (-13)]) (I2 := I_72) ?_ (fun r I' hk => by
                  refine XW.if_eq eX9_copy_75 (fun _ => ?_) (fun z => absurd c_75 z)
                  refine XW.bipush (v := (-13)) eX9_copy_90 (by decide) ?_
                  exact hk)
              exact ⟨(-13), I_72, XW.iret eX9_copy_92 rfl rfl rfl rfl rfl, h⟩
            ·
              replace h := hf c_75
              refine XF.lift (pc2 := 84) (ls2 := [some (.ref 2), some (.int y1), some (.int y2), some (.int y3), some (.int y4), some (.int y5), some (.ref (61 + 2 * y1.toNatClampNeg)), some (.ref (61 + 2 * y3.toNatClampNeg))]) (st2 := [.int y5, .int y4, .ref (61 + 2 * y3.toNatClampNeg)]) (I2 := I_72) ?_ (fun r I' hk => by
                  refine XW.if_eq eX9_copy_75 (fun z => absurd z c_75) (fun _ => ?_)
                  refine XW.aload eX9_copy_78 rfl ?_
                  refine XW.iload eX9_copy_80 rfl ?_
                  refine XW.iload eX9_copy_82 rfl ?_
                  exact hk)
              obtain ⟨Qc, hc, h⟩ := h
              refine XF.call (nx := 87) (st := []) hc (fun v I1 r I' hY hk => XW.callV (As := [.int y4, .int y5]) (st := []) eX9_copy_84 okX7_hasItems cv9_137 rfl (so7 hs q_29).1 hY (xnum rfl rfl rfl rfl rfl) hk) (fun v_84 I_84 hq => ?_)
              replace h := h v_84 I_84 hq
              obtain ⟨ht, hf⟩ := h
              refine XF.br (P := v_84 = 0) (fun c_87 => ?_) (fun c_87 => ?_)
              ·
                replace h := ht c_87
                refine XF.lift (pc2 := 92) (ls2 := [some (.ref 2), some (.int y1), some (.int y2), some (.int y3), some (.int y4), some (.int y5), some (.ref (61 + 2 * y1.toNatClampNeg)), some (.ref (61 + 2 * y3.toNatClampNeg))]) (st2 := [.int (-13)]) (I2 := I_84) ?_ (fun r I' hk => by
                    refine XW.if_ne eX9_copy_87 (fun z => absurd c_87 z) (fun _ => ?_)
                    refine XW.bipush (v := (-13)) eX9_copy_90 (by decide) ?_
                    exact hk)
                exact ⟨(-13), I_84, XW.iret eX9_copy_92 rfl rfl rfl rfl rfl, h⟩
              ·
                replace h := hf c_87
                obtain ⟨q_108, h⟩ := h
                refine XF.lift (pc2 := 113) (ls2 := [some (.ref 2), some (.int y1), some (.int y2), some (.int y3), some (.int y4), some (.int y5), some (.ref (61 + 2 * y1.toNatClampNeg)), some (.ref (61 + 2 * y3.toNatClampNeg))]) (st2 := [.int y5]) (I2 := (wA I_84 ((61 + 2 * y3.toNatClampNeg) + 1) (va_cpy (I_84 ((61 + 2 * y1.toNatClampNeg) + 1)) (I_84 ((61 + 2 * y3.toNatClampNeg) + 1)) y2.toNatClampNeg y4.toNatClampNeg y5.toNatClampNeg))) ?_ (fun r I' hk => by
                    refine XW.if_ne eX9_copy_87 (fun _ => ?_) (fun z => absurd z c_87)
                    refine XW.aload eX9_copy_93 rfl ?_
                    refine XW.getR (b := ((61 + 2 * y1.toNatClampNeg) + 1)) eX9_copy_95 f9_144_7 rfl (so7 hs q_21).1 (so7 hs q_21).2.1 ?_
                    refine XW.iload_n eX9_copy_98 rfl ?_
                    refine XW.aload eX9_copy_99 rfl ?_
                    refine XW.getR (b := ((61 + 2 * y3.toNatClampNeg) + 1)) eX9_copy_101 f9_144_7 rfl (so7 hs q_29).1 (so7 hs q_29).2.1 ?_
                    refine XW.iload eX9_copy_104 rfl ?_
                    refine XW.iload eX9_copy_106 rfl ?_
                    refine XW.acopy eX9_copy_108 ac9_148 (so7 hs q_21).2.2 (so7 hs q_29).2.2 q_108.1 q_108.2.1 q_108.2.2.1 q_108.2.2.2.1 q_108.2.2.2.2 (Nat.le_of_ble_eq_true rfl) (Nat.le_of_ble_eq_true rfl) ?_
                    refine XW.iload eX9_copy_111 rfl ?_
                    exact hk)
                exact ⟨y5, (wA I_84 ((61 + 2 * y3.toNatClampNeg) + 1) (va_cpy (I_84 ((61 + 2 * y1.toNatClampNeg) + 1)) (I_84 ((61 + 2 * y3.toNatClampNeg) + 1)) y2.toNatClampNeg y4.toNatClampNeg y5.toNatClampNeg)), XW.iret eX9_copy_113 rfl rfl rfl rfl rfl, h⟩
          ·
            replace h := hf c_61
            refine XF.lift (pc2 := 66) (ls2 := [some (.ref 2), some (.int y1), some (.int y2), some (.int y3), some (.int y4), some (.int y5), some (.ref (61 + 2 * y1.toNatClampNeg)), some (.ref (61 + 2 * y3.toNatClampNeg))]) (st2 := [.int (-12)]) (I2 := I_8) ?_ (fun r I' hk => by
                refine XW.icmp_eq eX9_copy_61 (fun z => absurd z c_61) (fun _ => ?_)
                refine XW.bipush (v := (-12)) eX9_copy_64 (by decide) ?_
                exact hk)
            exact ⟨(-12), I_8, XW.iret eX9_copy_66 rfl rfl rfl rfl rfl, h⟩
set_option maxRecDepth 100000 in
set_option maxHeartbeats 4000000 in
theorem VX9_letters {l : Launch} {C : xC} {G : xG} (hs : SH G)  (I : xI) (y1 y2 y3 y4 y5 : Int32) {Q : Int32 → xI → Prop} (h :
    (∃ Qc : Nat → xI → Prop, XF fR l C mX9_rowAt 0 (xent mX9_rowAt [.ref 2, .int y1]) [] G I Qc ∧ ∀ (v_2 : Nat) (I_2 : xI), Qc v_2 I_2 → ((v_2 = 0 → Q (-1) I_2) ∧ (¬ (v_2 = 0) → (∃ Qc : Int32 → xI → Prop, XF fI l C mX9_isSheetNumber 0 (xent mX9_isSheetNumber [.int y2]) [] G I_2 Qc ∧ ∀ (v_13 : Int32) (I_13 : xI), Qc v_13 I_13 → ((v_13 = 0 → Q (-1) I_13) ∧ (¬ (v_13 = 0) → (∃ Qc : Int32 → xI → Prop, XF fI l C mX9_isLane 0 (xent mX9_isLane [.int y3]) [] G I_13 Qc ∧ ∀ (v_20 : Int32) (I_20 : xI), Qc v_20 I_20 → ((v_20 = 0 → Q (-1) I_20) ∧ (¬ (v_20 = 0) → (∃ Qc : Int32 → xI → Prop, XF fI l C mX9_isWithin 0 (xent mX9_isWithin [.int y5, .int 0, .int 80]) [] G I_20 Qc ∧ ∀ (v_31 : Int32) (I_31 : xI), Qc v_31 I_31 → ((v_31 = 0 → Q (-1) I_31) ∧ (¬ (v_31 = 0) → vp_in y2 4 ∧ (((I_31 (61 + 2 * y2.toNatClampNeg) 2) = 0 → Q (-11) I_31) ∧ (¬ ((I_31 (61 + 2 * y2.toNatClampNeg) 2) = 0) → (((I_31 (61 + 2 * y2.toNatClampNeg) 0) = y3 → (∃ Qc : Int32 → xI → Prop, XF fI l C mX7_hasItems 0 (xent mX7_hasItems [.ref (61 + 2 * y2.toNatClampNeg), .int y4, .int (2 * y5)]) [] G I_31 Qc ∧ ∀ (v_78 : Int32) (I_78 : xI), Qc v_78 I_78 → ((v_78 = 0 → Q (-13) I_78) ∧ (¬ (v_78 = 0) → gO G v_2 4 ∧ (∃ Qc : Int32 → xI → Prop, XF fI l C mX4_lastTick 0 (xent mX4_lastTick [.ref v_2]) [] G I_78 Qc ∧ ∀ (v_96 : Int32) (I_96 : xI), Qc v_96 I_96 → (∃ Qc : Int32 → xI → Prop, XF fI l C mX9_areLetters 0 (xent mX9_areLetters [.ref 2, .ref (61 + 2 * y2.toNatClampNeg), .int y4, .int y5, .int v_96]) [] G I_96 Qc ∧ ∀ (v_99 : Int32) (I_99 : xI), Qc v_99 I_99 → ((v_99 = 0 → Q (-2) I_99) ∧ (¬ (v_99 = 0) → ((((I_99 v_2 2) + y5) ≤ 80 → (∃ Qc : Unit → xI → Prop, XF fV l C mX4_addLetters 0 (xent mX4_addLetters [.ref v_2, .ref (61 + 2 * y2.toNatClampNeg), .int y4, .int y5]) [] G I_99 Qc ∧ ∀ (u_132 : Unit) (I_132 : xI), Qc u_132 I_132 → Q (I_132 v_2 2) I_132)) ∧ (¬ (((I_99 v_2 2) + y5) ≤ 80) → Q (-3) I_99)))))))))) ∧ (¬ ((I_31 (61 + 2 * y2.toNatClampNeg) 0) = y3) → Q (-12) I_31))))))))))))))))) : XF fI l C mX9_letters 0 (xent mX9_letters [.ref 2, .int y1, .int y2, .int y3, .int y4, .int y5]) [] G I Q := by
  show XF fI l C mX9_letters 0 [some (.ref 2), some (.int y1), some (.int y2), some (.int y3), some (.int y4), some (.int y5), none, none] [] G I Q
  refine XF.lift (pc2 := 2) (ls2 := [some (.ref 2), some (.int y1), some (.int y2), some (.int y3), some (.int y4), some (.int y5), none, none]) (st2 := [.int y1, .ref 2]) (I2 := I) ?_ (fun r I' hk => by
      refine XW.aload_n eX9_letters_0 rfl ?_
      refine XW.iload_n eX9_letters_1 rfl ?_
      exact hk)
  obtain ⟨Qc, hc, h⟩ := h
  refine XF.call (nx := 5) (st := []) hc (fun v I1 r I' hY hk => XW.callV (As := [.int y1]) (st := []) eX9_letters_2 okX9_rowAt cv9_154 rfl (so_2 hs) hY (xnum rfl rfl rfl rfl rfl) hk) (fun v_2 I_2 hq => ?_)
  replace h := h v_2 I_2 hq
  refine XF.lift (pc2 := 9) (ls2 := [some (.ref 2), some (.int y1), some (.int y2), some (.int y3), some (.int y4), some (.int y5), some (.ref v_2), none]) (st2 := [.ref v_2]) (I2 := I_2) ?_ (fun r I' hk => by
      refine XW.astore (ls' := [some (.ref 2), some (.int y1), some (.int y2), some (.int y3), some (.int y4), some (.int y5), some (.ref v_2), none]) eX9_letters_5 (Nat.le_of_ble_eq_true rfl) rfl ?_
      refine XW.aload eX9_letters_7 rfl ?_
      exact hk)
  obtain ⟨ht, hf⟩ := h
  refine XF.br (P := v_2 = 0) (fun c_9 => ?_) (fun c_9 => ?_)
  ·
    replace h := ht c_9
    refine XF.lift (pc2 := 38) (ls2 := [some (.ref 2), some (.int y1), some (.int y2), some (.int y3), some (.int y4), some (.int y5), some (.ref v_2), none]) (st2 := [.int (-1)]) (I2 := I_2) ?_ (fun r I' hk => by
        refine XW.ifnull eX9_letters_9 (fun _ => ?_) (fun z => absurd c_9 z)
        refine XW.iconst (v := (-1)) eX9_letters_37 (by decide) ?_
        exact hk)
    exact ⟨(-1), I_2, XW.iret eX9_letters_38 rfl rfl rfl rfl rfl, h⟩
  ·
    replace h := hf c_9
    refine XF.lift (pc2 := 13) (ls2 := [some (.ref 2), some (.int y1), some (.int y2), some (.int y3), some (.int y4), some (.int y5), some (.ref v_2), none]) (st2 := [.int y2]) (I2 := I_2) ?_ (fun r I' hk => by
        refine XW.ifnull eX9_letters_9 (fun z => absurd z c_9) (fun _ => ?_)
        refine XW.iload_n eX9_letters_12 rfl ?_
        exact hk)
    obtain ⟨Qc, hc, h⟩ := h
    refine XF.call (nx := 16) (st := []) hc (fun v I1 r I' hY hk => XW.callS (As := [.int y2]) (st := []) eX9_letters_13 okX9_isSheetNumber cs9_116 rfl hY (xnum rfl rfl rfl rfl rfl) hk) (fun v_13 I_13 hq => ?_)
    replace h := h v_13 I_13 hq
    obtain ⟨ht, hf⟩ := h
    refine XF.br (P := v_13 = 0) (fun c_16 => ?_) (fun c_16 => ?_)
    ·
      replace h := ht c_16
      refine XF.lift (pc2 := 38) (ls2 := [some (.ref 2), some (.int y1), some (.int y2), some (.int y3), some (.int y4), some (.int y5), some (.ref v_2), none]) (st2 := [.int (-1)]) (I2 := I_13) ?_ (fun r I' hk => by
          refine XW.if_eq eX9_letters_16 (fun _ => ?_) (fun z => absurd c_16 z)
          refine XW.iconst (v := (-1)) eX9_letters_37 (by decide) ?_
          exact hk)
      exact ⟨(-1), I_13, XW.iret eX9_letters_38 rfl rfl rfl rfl rfl, h⟩
    ·
      replace h := hf c_16
      refine XF.lift (pc2 := 20) (ls2 := [some (.ref 2), some (.int y1), some (.int y2), some (.int y3), some (.int y4), some (.int y5), some (.ref v_2), none]) (st2 := [.int y3]) (I2 := I_13) ?_ (fun r I' hk => by
          refine XW.if_eq eX9_letters_16 (fun z => absurd z c_16) (fun _ => ?_)
          refine XW.iload_n eX9_letters_19 rfl ?_
          exact hk)
      obtain ⟨Qc, hc, h⟩ := h
      refine XF.call (nx := 23) (st := []) hc (fun v I1 r I' hY hk => XW.callS (As := [.int y3]) (st := []) eX9_letters_20 okX9_isLane cs9_120 rfl hY (xnum rfl rfl rfl rfl rfl) hk) (fun v_20 I_20 hq => ?_)
      replace h := h v_20 I_20 hq
      obtain ⟨ht, hf⟩ := h
      refine XF.br (P := v_20 = 0) (fun c_23 => ?_) (fun c_23 => ?_)
      ·
        replace h := ht c_23
        refine XF.lift (pc2 := 38) (ls2 := [some (.ref 2), some (.int y1), some (.int y2), some (.int y3), some (.int y4), some (.int y5), some (.ref v_2), none]) (st2 := [.int (-1)]) (I2 := I_20) ?_ (fun r I' hk => by
            refine XW.if_eq eX9_letters_23 (fun _ => ?_) (fun z => absurd c_23 z)
            refine XW.iconst (v := (-1)) eX9_letters_37 (by decide) ?_
            exact hk)
        exact ⟨(-1), I_20, XW.iret eX9_letters_38 rfl rfl rfl rfl rfl, h⟩
      ·
        replace h := hf c_23
        refine XF.lift (pc2 := 31) (ls2 := [some (.ref 2), some (.int y1), some (.int y2), some (.int y3), some (.int y4), some (.int y5), some (.ref v_2), none]) (st2 := [.int 80, .int 0, .int y5]) (I2 := I_20) ?_ (fun r I' hk => by
            refine XW.if_eq eX9_letters_23 (fun z => absurd z c_23) (fun _ => ?_)
            refine XW.iload eX9_letters_26 rfl ?_
            refine XW.iconst (v := 0) eX9_letters_28 (by decide) ?_
            refine XW.bipush (v := 80) eX9_letters_29 (by decide) ?_
            exact hk)
        obtain ⟨Qc, hc, h⟩ := h
        refine XF.call (nx := 34) (st := []) hc (fun v I1 r I' hY hk => XW.callS (As := [.int y5, .int 0, .int 80]) (st := []) eX9_letters_31 okX9_isWithin cs9_53 rfl hY (xnum rfl rfl rfl rfl rfl) hk) (fun v_31 I_31 hq => ?_)
        replace h := h v_31 I_31 hq
        obtain ⟨ht, hf⟩ := h
        refine XF.br (P := v_31 = 0) (fun c_34 => ?_) (fun c_34 => ?_)
        ·
          replace h := ht c_34
          refine XF.lift (pc2 := 38) (ls2 := [some (.ref 2), some (.int y1), some (.int y2), some (.int y3), some (.int y4), some (.int y5), some (.ref v_2), none]) (st2 := [.int (-1)]) (I2 := I_31) ?_ (fun r I' hk => by
              refine XW.if_ne eX9_letters_34 (fun z => absurd c_34 z) (fun _ => ?_)
              refine XW.iconst (v := (-1)) eX9_letters_37 (by decide) ?_
              exact hk)
          exact ⟨(-1), I_31, XW.iret eX9_letters_38 rfl rfl rfl rfl rfl, h⟩
        ·
          replace h := hf c_34
          obtain ⟨q_44, h⟩ := h
          refine XF.lift (pc2 := 52) (ls2 := [some (.ref 2), some (.int y1), some (.int y2), some (.int y3), some (.int y4), some (.int y5), some (.ref v_2), some (.ref (61 + 2 * y2.toNatClampNeg))]) (st2 := [.int (I_31 (61 + 2 * y2.toNatClampNeg) 2)]) (I2 := I_31) ?_ (fun r I' hk => by
              refine XW.if_ne eX9_letters_34 (fun _ => ?_) (fun z => absurd z c_34)
              refine XW.aload_n eX9_letters_39 rfl ?_
              refine XW.getR (b := 7) eX9_letters_40 f9_24_9 rfl (so_2 hs) (sr_2_2 hs) ?_
              refine XW.iload_n eX9_letters_43 rfl ?_
              refine XW.aaload (b := (61 + 2 * y2.toNatClampNeg)) eX9_letters_44 (sa_7 hs) ⟨by decide, rfl⟩ q_44 (sq7 hs q_44) ?_
              refine XW.astore (ls' := [some (.ref 2), some (.int y1), some (.int y2), some (.int y3), some (.int y4), some (.int y5), some (.ref v_2), some (.ref (61 + 2 * y2.toNatClampNeg))]) eX9_letters_45 (Nat.le_of_ble_eq_true rfl) rfl ?_
              refine XW.aload eX9_letters_47 rfl ?_
              refine XW.getI eX9_letters_49 f9_127_7 rfl (so7 hs q_44).1 ?_
              exact hk)
          obtain ⟨ht, hf⟩ := h
          refine XF.br (P := (I_31 (61 + 2 * y2.toNatClampNeg) 2) = 0) (fun c_52 => ?_) (fun c_52 => ?_)
          ·
            replace h := ht c_52
            refine XF.lift (pc2 := 57) (ls2 := [some (.ref 2), some (.int y1), some (.int y2), some (.int y3), some (.int y4), some (.int y5), some (.ref v_2), some (.ref (61 + 2 * y2.toNatClampNeg))]) (st2 := [.int (-11)]) (I2 := I_31) ?_ (fun r I' hk => by
                refine XW.if_ne eX9_letters_52 (fun z => absurd c_52 z) (fun _ => ?_)
                refine XW.bipush (v := (-11)) eX9_letters_55 (by decide) ?_
                exact hk)
            exact ⟨(-11), I_31, XW.iret eX9_letters_57 rfl rfl rfl rfl rfl, h⟩
          ·
            replace h := hf c_52
            refine XF.lift (pc2 := 64) (ls2 := [some (.ref 2), some (.int y1), some (.int y2), some (.int y3), some (.int y4), some (.int y5), some (.ref v_2), some (.ref (61 + 2 * y2.toNatClampNeg))]) (st2 := [.int y3, .int (I_31 (61 + 2 * y2.toNatClampNeg) 0)]) (I2 := I_31) ?_ (fun r I' hk => by
                refine XW.if_ne eX9_letters_52 (fun _ => ?_) (fun z => absurd z c_52)
                refine XW.aload eX9_letters_58 rfl ?_
                refine XW.getI eX9_letters_60 f9_134_7 rfl (so7 hs q_44).1 ?_
                refine XW.iload_n eX9_letters_63 rfl ?_
                exact hk)
            obtain ⟨ht, hf⟩ := h
            refine XF.br (P := (I_31 (61 + 2 * y2.toNatClampNeg) 0) = y3) (fun c_64 => ?_) (fun c_64 => ?_)
            ·
              replace h := ht c_64
              refine XF.lift (pc2 := 78) (ls2 := [some (.ref 2), some (.int y1), some (.int y2), some (.int y3), some (.int y4), some (.int y5), some (.ref v_2), some (.ref (61 + 2 * y2.toNatClampNeg))]) (st2 := [.int (2 * y5), .int y4, .ref (61 + 2 * y2.toNatClampNeg)]) (I2 := I_31) ?_ (fun r I' hk => by
                  refine XW.icmp_eq eX9_letters_64 (fun _ => ?_) (fun z => absurd c_64 z)
                  refine XW.aload eX9_letters_70 rfl ?_
                  refine XW.iload eX9_letters_72 rfl ?_
                  refine XW.iconst (v := 2) eX9_letters_74 (by decide) ?_
                  refine XW.iload eX9_letters_75 rfl ?_
                  refine XW.imul eX9_letters_77 ?_
                  exact hk)
              obtain ⟨Qc, hc, h⟩ := h
              refine XF.call (nx := 81) (st := []) hc (fun v I1 r I' hY hk => XW.callV (As := [.int y4, .int (2 * y5)]) (st := []) eX9_letters_78 okX7_hasItems cv9_137 rfl (so7 hs q_44).1 hY (xnum rfl rfl rfl rfl rfl) hk) (fun v_78 I_78 hq => ?_)
              replace h := h v_78 I_78 hq
              obtain ⟨ht, hf⟩ := h
              refine XF.br (P := v_78 = 0) (fun c_81 => ?_) (fun c_81 => ?_)
              ·
                replace h := ht c_81
                refine XF.lift (pc2 := 86) (ls2 := [some (.ref 2), some (.int y1), some (.int y2), some (.int y3), some (.int y4), some (.int y5), some (.ref v_2), some (.ref (61 + 2 * y2.toNatClampNeg))]) (st2 := [.int (-13)]) (I2 := I_78) ?_ (fun r I' hk => by
                    refine XW.if_ne eX9_letters_81 (fun z => absurd c_81 z) (fun _ => ?_)
                    refine XW.bipush (v := (-13)) eX9_letters_84 (by decide) ?_
                    exact hk)
                exact ⟨(-13), I_78, XW.iret eX9_letters_86 rfl rfl rfl rfl rfl, h⟩
              ·
                replace h := hf c_81
                obtain ⟨o_96, h⟩ := h
                refine XF.lift (pc2 := 96) (ls2 := [some (.ref 2), some (.int y1), some (.int y2), some (.int y3), some (.int y4), some (.int y5), some (.ref v_2), some (.ref (61 + 2 * y2.toNatClampNeg))]) (st2 := [.ref v_2, .int y5, .int y4, .ref (61 + 2 * y2.toNatClampNeg), .ref 2]) (I2 := I_78) ?_ (fun r I' hk => by
                    refine XW.if_ne eX9_letters_81 (fun _ => ?_) (fun z => absurd z c_81)
                    refine XW.aload_n eX9_letters_87 rfl ?_
                    refine XW.aload eX9_letters_88 rfl ?_
                    refine XW.iload eX9_letters_90 rfl ?_
                    refine XW.iload eX9_letters_92 rfl ?_
                    refine XW.aload eX9_letters_94 rfl ?_
                    exact hk)
                obtain ⟨Qc, hc, h⟩ := h
                refine XF.call (nx := 99) (st := [.int y5, .int y4, .ref (61 + 2 * y2.toNatClampNeg), .ref 2]) hc (fun v I1 r I' hY hk => XW.callV (As := []) (st := [.int y5, .int y4, .ref (61 + 2 * y2.toNatClampNeg), .ref 2]) eX9_letters_96 okX4_lastTick cv9_158 rfl o_96 hY (xnum rfl rfl rfl rfl rfl) hk) (fun v_96 I_96 hq => ?_)
                replace h := h v_96 I_96 hq
                obtain ⟨Qc, hc, h⟩ := h
                refine XF.call (nx := 102) (st := []) hc (fun v I1 r I' hY hk => XW.callV (As := [.ref (61 + 2 * y2.toNatClampNeg), .int y4, .int y5, .int v_96]) (st := []) eX9_letters_99 okX9_areLetters cv9_161 rfl (so_2 hs) hY (xnum rfl rfl rfl rfl rfl) hk) (fun v_99 I_99 hq => ?_)
                replace h := h v_99 I_99 hq
                obtain ⟨ht, hf⟩ := h
                refine XF.br (P := v_99 = 0) (fun c_102 => ?_) (fun c_102 => ?_)
                ·
                  replace h := ht c_102
                  refine XF.lift (pc2 := 107) (ls2 := [some (.ref 2), some (.int y1), some (.int y2), some (.int y3), some (.int y4), some (.int y5), some (.ref v_2), some (.ref (61 + 2 * y2.toNatClampNeg))]) (st2 := [.int (-2)]) (I2 := I_99) ?_ (fun r I' hk => by
                      refine XW.if_ne eX9_letters_102 (fun z => absurd c_102 z) (fun _ => ?_)
                      refine XW.bipush (v := (-2)) eX9_letters_105 (by decide) ?_
                      exact hk)
                  exact ⟨(-2), I_99, XW.iret eX9_letters_107 rfl rfl rfl rfl rfl, h⟩
                ·
                  replace h := hf c_102
                  refine XF.lift (pc2 := 118) (ls2 := [some (.ref 2), some (.int y1), some (.int y2), some (.int y3), some (.int y4), some (.int y5), some (.ref v_2), some (.ref (61 + 2 * y2.toNatClampNeg))]) (st2 := [.int 80, .int ((I_99 v_2 2) + y5)]) (I2 := I_99) ?_ (fun r I' hk => by
                      refine XW.if_ne eX9_letters_102 (fun _ => ?_) (fun z => absurd z c_102)
                      refine XW.aload eX9_letters_108 rfl ?_
                      refine XW.getI eX9_letters_110 f9_165_4 rfl o_96 ?_
                      refine XW.iload eX9_letters_113 rfl ?_
                      refine XW.iadd eX9_letters_115 ?_
                      refine XW.bipush (v := 80) eX9_letters_116 (by decide) ?_
                      exact hk)
                  obtain ⟨ht, hf⟩ := h
                  refine XF.br (P := ((I_99 v_2 2) + y5) ≤ 80) (fun c_118 => ?_) (fun c_118 => ?_)
                  ·
                    replace h := ht c_118
                    refine XF.lift (pc2 := 132) (ls2 := [some (.ref 2), some (.int y1), some (.int y2), some (.int y3), some (.int y4), some (.int y5), some (.ref v_2), some (.ref (61 + 2 * y2.toNatClampNeg))]) (st2 := [.int y5, .int y4, .ref (61 + 2 * y2.toNatClampNeg), .ref v_2]) (I2 := I_99) ?_ (fun r I' hk => by
                        refine XW.icmp_le eX9_letters_118 (fun _ => ?_) (fun z => absurd c_118 z)
                        refine XW.aload eX9_letters_124 rfl ?_
                        refine XW.aload eX9_letters_126 rfl ?_
                        refine XW.iload eX9_letters_128 rfl ?_
                        refine XW.iload eX9_letters_130 rfl ?_
                        exact hk)
                    obtain ⟨Qc, hc, h⟩ := h
                    refine XF.call (nx := 135) (st := []) hc (fun v I1 r I' hY hk => XW.callV (As := [.ref (61 + 2 * y2.toNatClampNeg), .int y4, .int y5]) (st := []) eX9_letters_132 okX4_addLetters cv9_166 rfl o_96 hY (xnum rfl rfl rfl rfl rfl) hk) (fun _ I_132 hq => ?_)
                    replace h := h () I_132 hq
                    refine XF.lift (pc2 := 140) (ls2 := [some (.ref 2), some (.int y1), some (.int y2), some (.int y3), some (.int y4), some (.int y5), some (.ref v_2), some (.ref (61 + 2 * y2.toNatClampNeg))]) (st2 := [.int (I_132 v_2 2)]) (I2 := I_132) ?_ (fun r I' hk => by
                        refine XW.aload eX9_letters_135 rfl ?_
                        refine XW.getI eX9_letters_137 f9_165_4 rfl o_96 ?_
                        exact hk)
                    exact ⟨(I_132 v_2 2), I_132, XW.iret eX9_letters_140 rfl rfl rfl rfl rfl, h⟩
                  ·
                    replace h := hf c_118
                    refine XF.lift (pc2 := 123) (ls2 := [some (.ref 2), some (.int y1), some (.int y2), some (.int y3), some (.int y4), some (.int y5), some (.ref v_2), some (.ref (61 + 2 * y2.toNatClampNeg))]) (st2 := [.int (-3)]) (I2 := I_99) ?_ (fun r I' hk => by
                        refine XW.icmp_le eX9_letters_118 (fun z => absurd z c_118) (fun _ => ?_)
                        refine XW.bipush (v := (-3)) eX9_letters_121 (by decide) ?_
                        exact hk)
                    exact ⟨(-3), I_99, XW.iret eX9_letters_123 rfl rfl rfl rfl rfl, h⟩
            ·
              replace h := hf c_64
              refine XF.lift (pc2 := 69) (ls2 := [some (.ref 2), some (.int y1), some (.int y2), some (.int y3), some (.int y4), some (.int y5), some (.ref v_2), some (.ref (61 + 2 * y2.toNatClampNeg))]) (st2 := [.int (-12)]) (I2 := I_31) ?_ (fun r I' hk => by
                  refine XW.icmp_eq eX9_letters_64 (fun z => absurd z c_64) (fun _ => ?_)
                  refine XW.bipush (v := (-12)) eX9_letters_67 (by decide) ?_
                  exact hk)
              exact ⟨(-12), I_31, XW.iret eX9_letters_69 rfl rfl rfl rfl rfl, h⟩
set_option maxRecDepth 100000 in
set_option maxHeartbeats 4000000 in
theorem VX9_clear {l : Launch} {C : xC} {G : xG} (hs : SH G)  (I : xI) (y1 : Int32) {Q : Int32 → xI → Prop} (h :
    (∃ Qc : Nat → xI → Prop, XF fR l C mX9_rowAt 0 (xent mX9_rowAt [.ref 2, .int y1]) [] G I Qc ∧ ∀ (v_2 : Nat) (I_2 : xI), Qc v_2 I_2 → ((v_2 = 0 → Q (-1) I_2) ∧ (¬ (v_2 = 0) → gO G v_2 4 ∧ Q (I_2 v_2 2) (wI (wI I_2 v_2 2 0) v_2 3 0))))) : XF fI l C mX9_clear 0 (xent mX9_clear [.ref 2, .int y1]) [] G I Q := by
  show XF fI l C mX9_clear 0 [some (.ref 2), some (.int y1), none, none] [] G I Q
  refine XF.lift (pc2 := 2) (ls2 := [some (.ref 2), some (.int y1), none, none]) (st2 := [.int y1, .ref 2]) (I2 := I) ?_ (fun r I' hk => by
      refine XW.aload_n eX9_clear_0 rfl ?_
      refine XW.iload_n eX9_clear_1 rfl ?_
      exact hk)
  obtain ⟨Qc, hc, h⟩ := h
  refine XF.call (nx := 5) (st := []) hc (fun v I1 r I' hY hk => XW.callV (As := [.int y1]) (st := []) eX9_clear_2 okX9_rowAt cv9_154 rfl (so_2 hs) hY (xnum rfl rfl rfl rfl rfl) hk) (fun v_2 I_2 hq => ?_)
  replace h := h v_2 I_2 hq
  refine XF.lift (pc2 := 7) (ls2 := [some (.ref 2), some (.int y1), some (.ref v_2), none]) (st2 := [.ref v_2]) (I2 := I_2) ?_ (fun r I' hk => by
      refine XW.astore_n (ls' := [some (.ref 2), some (.int y1), some (.ref v_2), none]) eX9_clear_5 (Nat.le_of_ble_eq_true rfl) rfl ?_
      refine XW.aload_n eX9_clear_6 rfl ?_
      exact hk)
  obtain ⟨ht, hf⟩ := h
  refine XF.br (P := v_2 = 0) (fun c_7 => ?_) (fun c_7 => ?_)
  ·
    replace h := ht c_7
    refine XF.lift (pc2 := 11) (ls2 := [some (.ref 2), some (.int y1), some (.ref v_2), none]) (st2 := [.int (-1)]) (I2 := I_2) ?_ (fun r I' hk => by
        refine XW.ifnonnull eX9_clear_7 (fun z => absurd c_7 z) (fun _ => ?_)
        refine XW.iconst (v := (-1)) eX9_clear_10 (by decide) ?_
        exact hk)
    exact ⟨(-1), I_2, XW.iret eX9_clear_11 rfl rfl rfl rfl rfl, h⟩
  ·
    replace h := hf c_7
    obtain ⟨o_13, h⟩ := h
    refine XF.lift (pc2 := 28) (ls2 := [some (.ref 2), some (.int y1), some (.ref v_2), some (.int (I_2 v_2 2))]) (st2 := [.int (I_2 v_2 2)]) (I2 := (wI (wI I_2 v_2 2 0) v_2 3 0)) ?_ (fun r I' hk => by
        refine XW.ifnonnull eX9_clear_7 (fun _ => ?_) (fun z => absurd z c_7)
        refine XW.aload_n eX9_clear_12 rfl ?_
        refine XW.getI eX9_clear_13 f9_165_4 rfl o_13 ?_
        refine XW.istore_n (ls' := [some (.ref 2), some (.int y1), some (.ref v_2), some (.int (I_2 v_2 2))]) eX9_clear_16 (Nat.le_of_ble_eq_true rfl) rfl ?_
        refine XW.aload_n eX9_clear_17 rfl ?_
        refine XW.iconst (v := 0) eX9_clear_18 (by decide) ?_
        refine XW.putI eX9_clear_19 f9_165_4 (xP_of rfl (by decide)) rfl ⟨rfl, rfl⟩ o_13 ?_
        refine XW.aload_n eX9_clear_22 rfl ?_
        refine XW.iconst (v := 0) eX9_clear_23 (by decide) ?_
        refine XW.putI eX9_clear_24 f9_170_4 (xP_of rfl (by decide)) rfl ⟨rfl, rfl⟩ o_13 ?_
        refine XW.iload_n eX9_clear_27 rfl ?_
        exact hk)
    exact ⟨(I_2 v_2 2), (wI (wI I_2 v_2 2 0) v_2 3 0), XW.iret eX9_clear_28 rfl rfl rfl rfl rfl, h⟩
set_option maxRecDepth 100000 in
set_option maxHeartbeats 4000000 in
theorem VX9_letter {l : Launch} {C : xC} {G : xG} (hs : SH G)  (I : xI) (y1 y2 y3 : Int32) {Q : Int32 → xI → Prop} (h :
    (∃ Qc : Nat → xI → Prop, XF fR l C mX9_rowAt 0 (xent mX9_rowAt [.ref 2, .int y1]) [] G I Qc ∧ ∀ (v_2 : Nat) (I_2 : xI), Qc v_2 I_2 → ((v_2 = 0 → Q (-1) I_2) ∧ (¬ (v_2 = 0) → ((y2 = (-1) → gO G v_2 4 ∧ Q (I_2 v_2 2) I_2) ∧ (¬ (y2 = (-1)) → gO G v_2 4 ∧ (∃ Qc : Int32 → xI → Prop, XF fI l C mX9_isWithin 0 (xent mX9_isWithin [.int y2, .int 0, .int ((I_2 v_2 2) - 1)]) [] G I_2 Qc ∧ ∀ (v_34 : Int32) (I_34 : xI), Qc v_34 I_34 → ((v_34 = 0 → Q (-1) I_34) ∧ (¬ (v_34 = 0) → (∃ Qc : Int32 → xI → Prop, XF fI l C mX9_isWithin 0 (xent mX9_isWithin [.int y3, .int 0, .int 1]) [] G I_34 Qc ∧ ∀ (v_43 : Int32) (I_43 : xI), Qc v_43 I_43 → ((v_43 = 0 → Q (-1) I_43) ∧ (¬ (v_43 = 0) → ((y3 = 0 → ∃ m_61 : Nat, gA G (gR G v_2 0) 100 m_61 ∧ vp_in y2 m_61 ∧ Q (I_43 (gR G v_2 0) y2.toNatClampNeg) I_43) ∧ (¬ (y3 = 0) → ∃ m_71 : Nat, gA G (gR G v_2 1) 100 m_71 ∧ vp_in y2 m_71 ∧ Q (I_43 (gR G v_2 1) y2.toNatClampNeg) I_43)))))))))))))) : XF fI l C mX9_letter 0 (xent mX9_letter [.ref 2, .int y1, .int y2, .int y3]) [] G I Q := by
  show XF fI l C mX9_letter 0 [some (.ref 2), some (.int y1), some (.int y2), some (.int y3), none] [] G I Q
  refine XF.lift (pc2 := 2) (ls2 := [some (.ref 2), some (.int y1), some (.int y2), some (.int y3), none]) (st2 := [.int y1, .ref 2]) (I2 := I) ?_ (fun r I' hk => by
      refine XW.aload_n eX9_letter_0 rfl ?_
      refine XW.iload_n eX9_letter_1 rfl ?_
      exact hk)
  obtain ⟨Qc, hc, h⟩ := h
  refine XF.call (nx := 5) (st := []) hc (fun v I1 r I' hY hk => XW.callV (As := [.int y1]) (st := []) eX9_letter_2 okX9_rowAt cv9_154 rfl (so_2 hs) hY (xnum rfl rfl rfl rfl rfl) hk) (fun v_2 I_2 hq => ?_)
  replace h := h v_2 I_2 hq
  refine XF.lift (pc2 := 9) (ls2 := [some (.ref 2), some (.int y1), some (.int y2), some (.int y3), some (.ref v_2)]) (st2 := [.ref v_2]) (I2 := I_2) ?_ (fun r I' hk => by
      refine XW.astore (ls' := [some (.ref 2), some (.int y1), some (.int y2), some (.int y3), some (.ref v_2)]) eX9_letter_5 (Nat.le_of_ble_eq_true rfl) rfl ?_
      refine XW.aload eX9_letter_7 rfl ?_
      exact hk)
  obtain ⟨ht, hf⟩ := h
  refine XF.br (P := v_2 = 0) (fun c_9 => ?_) (fun c_9 => ?_)
  ·
    replace h := ht c_9
    refine XF.lift (pc2 := 13) (ls2 := [some (.ref 2), some (.int y1), some (.int y2), some (.int y3), some (.ref v_2)]) (st2 := [.int (-1)]) (I2 := I_2) ?_ (fun r I' hk => by
        refine XW.ifnonnull eX9_letter_9 (fun z => absurd c_9 z) (fun _ => ?_)
        refine XW.iconst (v := (-1)) eX9_letter_12 (by decide) ?_
        exact hk)
    exact ⟨(-1), I_2, XW.iret eX9_letter_13 rfl rfl rfl rfl rfl, h⟩
  ·
    replace h := hf c_9
    refine XF.lift (pc2 := 16) (ls2 := [some (.ref 2), some (.int y1), some (.int y2), some (.int y3), some (.ref v_2)]) (st2 := [.int (-1), .int y2]) (I2 := I_2) ?_ (fun r I' hk => by
        refine XW.ifnonnull eX9_letter_9 (fun _ => ?_) (fun z => absurd z c_9)
        refine XW.iload_n eX9_letter_14 rfl ?_
        refine XW.iconst (v := (-1)) eX9_letter_15 (by decide) ?_
        exact hk)
    obtain ⟨ht, hf⟩ := h
    refine XF.br (P := y2 = (-1)) (fun c_16 => ?_) (fun c_16 => ?_)
    ·
      replace h := ht c_16
      obtain ⟨o_21, h⟩ := h
      refine XF.lift (pc2 := 24) (ls2 := [some (.ref 2), some (.int y1), some (.int y2), some (.int y3), some (.ref v_2)]) (st2 := [.int (I_2 v_2 2)]) (I2 := I_2) ?_ (fun r I' hk => by
          refine XW.icmp_ne eX9_letter_16 (fun z => absurd c_16 z) (fun _ => ?_)
          refine XW.aload eX9_letter_19 rfl ?_
          refine XW.getI eX9_letter_21 f9_165_4 rfl o_21 ?_
          exact hk)
      exact ⟨(I_2 v_2 2), I_2, XW.iret eX9_letter_24 rfl rfl rfl rfl rfl, h⟩
    ·
      replace h := hf c_16
      obtain ⟨o_29, h⟩ := h
      refine XF.lift (pc2 := 34) (ls2 := [some (.ref 2), some (.int y1), some (.int y2), some (.int y3), some (.ref v_2)]) (st2 := [.int ((I_2 v_2 2) - 1), .int 0, .int y2]) (I2 := I_2) ?_ (fun r I' hk => by
          refine XW.icmp_ne eX9_letter_16 (fun _ => ?_) (fun z => absurd z c_16)
          refine XW.iload_n eX9_letter_25 rfl ?_
          refine XW.iconst (v := 0) eX9_letter_26 (by decide) ?_
          refine XW.aload eX9_letter_27 rfl ?_
          refine XW.getI eX9_letter_29 f9_165_4 rfl o_29 ?_
          refine XW.iconst (v := 1) eX9_letter_32 (by decide) ?_
          refine XW.isub eX9_letter_33 ?_
          exact hk)
      obtain ⟨Qc, hc, h⟩ := h
      refine XF.call (nx := 37) (st := []) hc (fun v I1 r I' hY hk => XW.callS (As := [.int y2, .int 0, .int ((I_2 v_2 2) - 1)]) (st := []) eX9_letter_34 okX9_isWithin cs9_53 rfl hY (xnum rfl rfl rfl rfl rfl) hk) (fun v_34 I_34 hq => ?_)
      replace h := h v_34 I_34 hq
      obtain ⟨ht, hf⟩ := h
      refine XF.br (P := v_34 = 0) (fun c_37 => ?_) (fun c_37 => ?_)
      ·
        replace h := ht c_37
        refine XF.lift (pc2 := 50) (ls2 := [some (.ref 2), some (.int y1), some (.int y2), some (.int y3), some (.ref v_2)]) (st2 := [.int (-1)]) (I2 := I_34) ?_ (fun r I' hk => by
            refine XW.if_eq eX9_letter_37 (fun _ => ?_) (fun z => absurd c_37 z)
            refine XW.iconst (v := (-1)) eX9_letter_49 (by decide) ?_
            exact hk)
        exact ⟨(-1), I_34, XW.iret eX9_letter_50 rfl rfl rfl rfl rfl, h⟩
      ·
        replace h := hf c_37
        refine XF.lift (pc2 := 43) (ls2 := [some (.ref 2), some (.int y1), some (.int y2), some (.int y3), some (.ref v_2)]) (st2 := [.int 1, .int 0, .int y3]) (I2 := I_34) ?_ (fun r I' hk => by
            refine XW.if_eq eX9_letter_37 (fun z => absurd z c_37) (fun _ => ?_)
            refine XW.iload_n eX9_letter_40 rfl ?_
            refine XW.iconst (v := 0) eX9_letter_41 (by decide) ?_
            refine XW.iconst (v := 1) eX9_letter_42 (by decide) ?_
            exact hk)
        obtain ⟨Qc, hc, h⟩ := h
        refine XF.call (nx := 46) (st := []) hc (fun v I1 r I' hY hk => XW.callS (As := [.int y3, .int 0, .int 1]) (st := []) eX9_letter_43 okX9_isWithin cs9_53 rfl hY (xnum rfl rfl rfl rfl rfl) hk) (fun v_43 I_43 hq => ?_)
        replace h := h v_43 I_43 hq
        obtain ⟨ht, hf⟩ := h
        refine XF.br (P := v_43 = 0) (fun c_46 => ?_) (fun c_46 => ?_)
        ·
          replace h := ht c_46
          refine XF.lift (pc2 := 50) (ls2 := [some (.ref 2), some (.int y1), some (.int y2), some (.int y3), some (.ref v_2)]) (st2 := [.int (-1)]) (I2 := I_43) ?_ (fun r I' hk => by
              refine XW.if_ne eX9_letter_46 (fun z => absurd c_46 z) (fun _ => ?_)
              refine XW.iconst (v := (-1)) eX9_letter_49 (by decide) ?_
              exact hk)
          exact ⟨(-1), I_43, XW.iret eX9_letter_50 rfl rfl rfl rfl rfl, h⟩
        ·
          replace h := hf c_46
          refine XF.lift (pc2 := 52) (ls2 := [some (.ref 2), some (.int y1), some (.int y2), some (.int y3), some (.ref v_2)]) (st2 := [.int y3]) (I2 := I_43) ?_ (fun r I' hk => by
              refine XW.if_ne eX9_letter_46 (fun _ => ?_) (fun z => absurd z c_46)
              refine XW.iload_n eX9_letter_51 rfl ?_
              exact hk)
          obtain ⟨ht, hf⟩ := h
          refine XF.br (P := y3 = 0) (fun c_52 => ?_) (fun c_52 => ?_)
          ·
            replace h := ht c_52
            obtain ⟨m_61, a_61, h⟩ := h
            obtain ⟨q_61, h⟩ := h
            refine XF.lift (pc2 := 72) (ls2 := [some (.ref 2), some (.int y1), some (.int y2), some (.int y3), some (.ref v_2)]) (st2 := [.int (I_43 (gR G v_2 0) y2.toNatClampNeg)]) (I2 := I_43) ?_ (fun r I' hk => by
                refine XW.if_ne eX9_letter_52 (fun z => absurd c_52 z) (fun _ => ?_)
                refine XW.aload eX9_letter_55 rfl ?_
                refine XW.getR (b := (gR G v_2 0)) eX9_letter_57 f9_173_4 rfl o_29 rfl ?_
                refine XW.iload_n eX9_letter_60 rfl ?_
                refine XW.iaload eX9_letter_61 a_61 q_61 ?_
                refine XW.goto eX9_letter_62 ?_
                exact hk)
            exact ⟨(I_43 (gR G v_2 0) y2.toNatClampNeg), I_43, XW.iret eX9_letter_72 rfl rfl rfl rfl rfl, h⟩
          ·
            replace h := hf c_52
            obtain ⟨m_71, a_71, h⟩ := h
            obtain ⟨q_71, h⟩ := h
            refine XF.lift (pc2 := 72) (ls2 := [some (.ref 2), some (.int y1), some (.int y2), some (.int y3), some (.ref v_2)]) (st2 := [.int (I_43 (gR G v_2 1) y2.toNatClampNeg)]) (I2 := I_43) ?_ (fun r I' hk => by
                refine XW.if_ne eX9_letter_52 (fun _ => ?_) (fun z => absurd z c_52)
                refine XW.aload eX9_letter_65 rfl ?_
                refine XW.getR (b := (gR G v_2 1)) eX9_letter_67 f9_176_4 rfl o_29 rfl ?_
                refine XW.iload_n eX9_letter_70 rfl ?_
                refine XW.iaload eX9_letter_71 a_71 q_71 ?_
                exact hk)
            exact ⟨(I_43 (gR G v_2 1) y2.toNatClampNeg), I_43, XW.iret eX9_letter_72 rfl rfl rfl rfl rfl, h⟩
set_option maxRecDepth 100000 in
set_option maxHeartbeats 4000000 in
theorem VX9_run {l : Launch} {C : xC} {G : xG} (hs : SH G)  (I : xI) (y1 y2 : Int32) {Q : Int32 → xI → Prop} (h :
    (∃ Qc : Nat → xI → Prop, XF fR l C mX9_rowAt 0 (xent mX9_rowAt [.ref 2, .int y1]) [] G I Qc ∧ ∀ (v_2 : Nat) (I_2 : xI), Qc v_2 I_2 → ((v_2 = 0 → Q (-1) I_2) ∧ (¬ (v_2 = 0) → (∃ Qc : Int32 → xI → Prop, XF fI l C mX9_isWithin 0 (xent mX9_isWithin [.int y2, .int 0, .int 3]) [] G I_2 Qc ∧ ∀ (v_13 : Int32) (I_13 : xI), Qc v_13 I_13 → ((v_13 = 0 → Q (-1) I_13) ∧ (¬ (v_13 = 0) → (∃ Qc : Unit → xI → Prop, XF fV l C mX5_play 0 (xent mX5_play [.ref 8, .ref v_2, .int y2, .int 1]) [] G I_13 Qc ∧ ∀ (u_28 : Unit) (I_28 : xI), Qc u_28 I_28 → (∃ Qc : Int32 → xI → Prop, XF fI l C mX5_countOf 0 (xent mX5_countOf [.ref 8, .int (-1), .int 0]) [] G (wI I_28 2 6 1) Qc ∧ ∀ (v_42 : Int32) (I_42 : xI), Qc v_42 I_42 → Q v_42 I_42))))))))) : XF fI l C mX9_run 0 (xent mX9_run [.ref 2, .int y1, .int y2]) [] G I Q := by
  show XF fI l C mX9_run 0 [some (.ref 2), some (.int y1), some (.int y2), none] [] G I Q
  refine XF.lift (pc2 := 2) (ls2 := [some (.ref 2), some (.int y1), some (.int y2), none]) (st2 := [.int y1, .ref 2]) (I2 := I) ?_ (fun r I' hk => by
      refine XW.aload_n eX9_run_0 rfl ?_
      refine XW.iload_n eX9_run_1 rfl ?_
      exact hk)
  obtain ⟨Qc, hc, h⟩ := h
  refine XF.call (nx := 5) (st := []) hc (fun v I1 r I' hY hk => XW.callV (As := [.int y1]) (st := []) eX9_run_2 okX9_rowAt cv9_154 rfl (so_2 hs) hY (xnum rfl rfl rfl rfl rfl) hk) (fun v_2 I_2 hq => ?_)
  replace h := h v_2 I_2 hq
  refine XF.lift (pc2 := 7) (ls2 := [some (.ref 2), some (.int y1), some (.int y2), some (.ref v_2)]) (st2 := [.ref v_2]) (I2 := I_2) ?_ (fun r I' hk => by
      refine XW.astore_n (ls' := [some (.ref 2), some (.int y1), some (.int y2), some (.ref v_2)]) eX9_run_5 (Nat.le_of_ble_eq_true rfl) rfl ?_
      refine XW.aload_n eX9_run_6 rfl ?_
      exact hk)
  obtain ⟨ht, hf⟩ := h
  refine XF.br (P := v_2 = 0) (fun c_7 => ?_) (fun c_7 => ?_)
  ·
    replace h := ht c_7
    refine XF.lift (pc2 := 20) (ls2 := [some (.ref 2), some (.int y1), some (.int y2), some (.ref v_2)]) (st2 := [.int (-1)]) (I2 := I_2) ?_ (fun r I' hk => by
        refine XW.ifnull eX9_run_7 (fun _ => ?_) (fun z => absurd c_7 z)
        refine XW.iconst (v := (-1)) eX9_run_19 (by decide) ?_
        exact hk)
    exact ⟨(-1), I_2, XW.iret eX9_run_20 rfl rfl rfl rfl rfl, h⟩
  ·
    replace h := hf c_7
    refine XF.lift (pc2 := 13) (ls2 := [some (.ref 2), some (.int y1), some (.int y2), some (.ref v_2)]) (st2 := [.int 3, .int 0, .int y2]) (I2 := I_2) ?_ (fun r I' hk => by
        refine XW.ifnull eX9_run_7 (fun z => absurd z c_7) (fun _ => ?_)
        refine XW.iload_n eX9_run_10 rfl ?_
        refine XW.iconst (v := 0) eX9_run_11 (by decide) ?_
        refine XW.iconst (v := 3) eX9_run_12 (by decide) ?_
        exact hk)
    obtain ⟨Qc, hc, h⟩ := h
    refine XF.call (nx := 16) (st := []) hc (fun v I1 r I' hY hk => XW.callS (As := [.int y2, .int 0, .int 3]) (st := []) eX9_run_13 okX9_isWithin cs9_53 rfl hY (xnum rfl rfl rfl rfl rfl) hk) (fun v_13 I_13 hq => ?_)
    replace h := h v_13 I_13 hq
    obtain ⟨ht, hf⟩ := h
    refine XF.br (P := v_13 = 0) (fun c_16 => ?_) (fun c_16 => ?_)
    ·
      replace h := ht c_16
      refine XF.lift (pc2 := 20) (ls2 := [some (.ref 2), some (.int y1), some (.int y2), some (.ref v_2)]) (st2 := [.int (-1)]) (I2 := I_13) ?_ (fun r I' hk => by
          refine XW.if_ne eX9_run_16 (fun z => absurd c_16 z) (fun _ => ?_)
          refine XW.iconst (v := (-1)) eX9_run_19 (by decide) ?_
          exact hk)
      exact ⟨(-1), I_13, XW.iret eX9_run_20 rfl rfl rfl rfl rfl, h⟩
    ·
      replace h := hf c_16
      refine XF.lift (pc2 := 28) (ls2 := [some (.ref 2), some (.int y1), some (.int y2), some (.ref v_2)]) (st2 := [.int 1, .int y2, .ref v_2, .ref 8]) (I2 := I_13) ?_ (fun r I' hk => by
          refine XW.if_ne eX9_run_16 (fun _ => ?_) (fun z => absurd z c_16)
          refine XW.aload_n eX9_run_21 rfl ?_
          refine XW.getR (b := 8) eX9_run_22 f9_33_9 rfl (so_2 hs) (sr_2_3 hs) ?_
          refine XW.aload_n eX9_run_25 rfl ?_
          refine XW.iload_n eX9_run_26 rfl ?_
          refine XW.iconst (v := 1) eX9_run_27 (by decide) ?_
          exact hk)
      obtain ⟨Qc, hc, h⟩ := h
      refine XF.call (nx := 31) (st := []) hc (fun v I1 r I' hY hk => XW.callV (As := [.ref v_2, .int y2, .int 1]) (st := []) eX9_run_28 okX5_play cv9_179 rfl (so_8 hs) hY (xnum rfl rfl rfl rfl rfl) hk) (fun _ I_28 hq => ?_)
      replace h := h () I_28 hq
      refine XF.lift (pc2 := 42) (ls2 := [some (.ref 2), some (.int y1), some (.int y2), some (.ref v_2)]) (st2 := [.int 0, .int (-1), .ref 8]) (I2 := (wI I_28 2 6 1)) ?_ (fun r I' hk => by
          refine XW.aload_n eX9_run_31 rfl ?_
          refine XW.iconst (v := 1) eX9_run_32 (by decide) ?_
          refine XW.putI eX9_run_33 f9_183_9 (xP_of rfl (by decide)) rfl ⟨rfl, rfl⟩ (so_2 hs) ?_
          refine XW.aload_n eX9_run_36 rfl ?_
          refine XW.getR (b := 8) eX9_run_37 f9_33_9 rfl (so_2 hs) (sr_2_3 hs) ?_
          refine XW.iconst (v := (-1)) eX9_run_40 (by decide) ?_
          refine XW.iconst (v := 0) eX9_run_41 (by decide) ?_
          exact hk)
      obtain ⟨Qc, hc, h⟩ := h
      refine XF.call (nx := 45) (st := []) hc (fun v I1 r I' hY hk => XW.callV (As := [.int (-1), .int 0]) (st := []) eX9_run_42 okX5_countOf cv9_186 rfl (so_8 hs) hY (xnum rfl rfl rfl rfl rfl) hk) (fun v_42 I_42 hq => ?_)
      replace h := h v_42 I_42 hq
      exact ⟨v_42, I_42, XW.iret eX9_run_45 rfl rfl rfl rfl rfl, h⟩
set_option maxRecDepth 100000 in
set_option maxHeartbeats 4000000 in
theorem VX9_fate {l : Launch} {C : xC} {G : xG} (hs : SH G)  (I : xI) (y1 y2 : Int32) {Q : Int32 → xI → Prop} (h :
    (((I 2 6) = 0 → Q (-1) I) ∧ (¬ ((I 2 6) = 0) → (∃ Qc : Int32 → xI → Prop, XF fI l C mX9_isWithin 0 (xent mX9_isWithin [.int y1, .int 0, .int ((I 8 14) - 1)]) [] G I Qc ∧ ∀ (v_18 : Int32) (I_18 : xI), Qc v_18 I_18 → ((v_18 = 0 → Q (-1) I_18) ∧ (¬ (v_18 = 0) → ((y2 = 0 → vp_in y1 80 ∧ Q (I_18 12 y1.toNatClampNeg) I_18) ∧ (¬ (y2 = 0) → ((y2 = 1 → vp_in y1 80 ∧ Q (I_18 13 y1.toNatClampNeg) I_18) ∧ (¬ (y2 = 1) → ((y2 = 2 → vp_in y1 80 ∧ Q (I_18 14 y1.toNatClampNeg) I_18) ∧ (¬ (y2 = 2) → Q (-1) I_18)))))))))))) : XF fI l C mX9_fate 0 (xent mX9_fate [.ref 2, .int y1, .int y2]) [] G I Q := by
  show XF fI l C mX9_fate 0 [some (.ref 2), some (.int y1), some (.int y2)] [] G I Q
  refine XF.lift (pc2 := 4) (ls2 := [some (.ref 2), some (.int y1), some (.int y2)]) (st2 := [.int (I 2 6)]) (I2 := I) ?_ (fun r I' hk => by
      refine XW.aload_n eX9_fate_0 rfl ?_
      refine XW.getI eX9_fate_1 f9_183_9 rfl (so_2 hs) ?_
      exact hk)
  obtain ⟨ht, hf⟩ := h
  refine XF.br (P := (I 2 6) = 0) (fun c_4 => ?_) (fun c_4 => ?_)
  ·
    replace h := ht c_4
    refine XF.lift (pc2 := 25) (ls2 := [some (.ref 2), some (.int y1), some (.int y2)]) (st2 := [.int (-1)]) (I2 := I) ?_ (fun r I' hk => by
        refine XW.if_eq eX9_fate_4 (fun _ => ?_) (fun z => absurd c_4 z)
        refine XW.iconst (v := (-1)) eX9_fate_24 (by decide) ?_
        exact hk)
    exact ⟨(-1), I, XW.iret eX9_fate_25 rfl rfl rfl rfl rfl, h⟩
  ·
    replace h := hf c_4
    refine XF.lift (pc2 := 18) (ls2 := [some (.ref 2), some (.int y1), some (.int y2)]) (st2 := [.int ((I 8 14) - 1), .int 0, .int y1]) (I2 := I) ?_ (fun r I' hk => by
        refine XW.if_eq eX9_fate_4 (fun z => absurd z c_4) (fun _ => ?_)
        refine XW.iload_n eX9_fate_7 rfl ?_
        refine XW.iconst (v := 0) eX9_fate_8 (by decide) ?_
        refine XW.aload_n eX9_fate_9 rfl ?_
        refine XW.getR (b := 8) eX9_fate_10 f9_33_9 rfl (so_2 hs) (sr_2_3 hs) ?_
        refine XW.getI eX9_fate_13 f9_190_5 rfl (so_8 hs) ?_
        refine XW.iconst (v := 1) eX9_fate_16 (by decide) ?_
        refine XW.isub eX9_fate_17 ?_
        exact hk)
    obtain ⟨Qc, hc, h⟩ := h
    refine XF.call (nx := 21) (st := []) hc (fun v I1 r I' hY hk => XW.callS (As := [.int y1, .int 0, .int ((I 8 14) - 1)]) (st := []) eX9_fate_18 okX9_isWithin cs9_53 rfl hY (xnum rfl rfl rfl rfl rfl) hk) (fun v_18 I_18 hq => ?_)
    replace h := h v_18 I_18 hq
    obtain ⟨ht, hf⟩ := h
    refine XF.br (P := v_18 = 0) (fun c_21 => ?_) (fun c_21 => ?_)
    ·
      replace h := ht c_21
      refine XF.lift (pc2 := 25) (ls2 := [some (.ref 2), some (.int y1), some (.int y2)]) (st2 := [.int (-1)]) (I2 := I_18) ?_ (fun r I' hk => by
          refine XW.if_ne eX9_fate_21 (fun z => absurd c_21 z) (fun _ => ?_)
          refine XW.iconst (v := (-1)) eX9_fate_24 (by decide) ?_
          exact hk)
      exact ⟨(-1), I_18, XW.iret eX9_fate_25 rfl rfl rfl rfl rfl, h⟩
    ·
      replace h := hf c_21
      refine XF.lift (pc2 := 27) (ls2 := [some (.ref 2), some (.int y1), some (.int y2)]) (st2 := [.int y2]) (I2 := I_18) ?_ (fun r I' hk => by
          refine XW.if_ne eX9_fate_21 (fun _ => ?_) (fun z => absurd z c_21)
          refine XW.iload_n eX9_fate_26 rfl ?_
          exact hk)
      obtain ⟨ht, hf⟩ := h
      refine XF.br (P := y2 = 0) (fun c_27_0 => ?_) (fun c_27_0 => ?_)
      ·
        replace h := ht c_27_0
        obtain ⟨q_60, h⟩ := h
        refine XF.lift (pc2 := 61) (ls2 := [some (.ref 2), some (.int y1), some (.int y2)]) (st2 := [.int (I_18 12 y1.toNatClampNeg)]) (I2 := I_18) ?_ (fun r I' hk => by
            refine XW.tabIn (off := 25) (tgt := 52) dX9_fate_27 (by rw [c_27_0]; decide) (by rw [c_27_0]; decide) (by rw [c_27_0]; rfl) (by decide) ?_
            refine XW.aload_n eX9_fate_52 rfl ?_
            refine XW.getR (b := 8) eX9_fate_53 f9_33_9 rfl (so_2 hs) (sr_2_3 hs) ?_
            refine XW.getR (b := 12) eX9_fate_56 f9_193_5 rfl (so_8 hs) (sr_8_4 hs) ?_
            refine XW.iload_n eX9_fate_59 rfl ?_
            refine XW.iaload eX9_fate_60 (sa_12 hs) q_60 ?_
            exact hk)
        exact ⟨(I_18 12 y1.toNatClampNeg), I_18, XW.iret eX9_fate_61 rfl rfl rfl rfl rfl, h⟩
      replace h := hf c_27_0
      obtain ⟨ht, hf⟩ := h
      refine XF.br (P := y2 = 1) (fun c_27_1 => ?_) (fun c_27_1 => ?_)
      ·
        replace h := ht c_27_1
        obtain ⟨q_70, h⟩ := h
        refine XF.lift (pc2 := 71) (ls2 := [some (.ref 2), some (.int y1), some (.int y2)]) (st2 := [.int (I_18 13 y1.toNatClampNeg)]) (I2 := I_18) ?_ (fun r I' hk => by
            refine XW.tabIn (off := 35) (tgt := 62) dX9_fate_27 (by rw [c_27_1]; decide) (by rw [c_27_1]; decide) (by rw [c_27_1]; rfl) (by decide) ?_
            refine XW.aload_n eX9_fate_62 rfl ?_
            refine XW.getR (b := 8) eX9_fate_63 f9_33_9 rfl (so_2 hs) (sr_2_3 hs) ?_
            refine XW.getR (b := 13) eX9_fate_66 f9_196_5 rfl (so_8 hs) (sr_8_5 hs) ?_
            refine XW.iload_n eX9_fate_69 rfl ?_
            refine XW.iaload eX9_fate_70 (sa_13 hs) q_70 ?_
            exact hk)
        exact ⟨(I_18 13 y1.toNatClampNeg), I_18, XW.iret eX9_fate_71 rfl rfl rfl rfl rfl, h⟩
      replace h := hf c_27_1
      obtain ⟨ht, hf⟩ := h
      refine XF.br (P := y2 = 2) (fun c_27_2 => ?_) (fun c_27_2 => ?_)
      ·
        replace h := ht c_27_2
        obtain ⟨q_80, h⟩ := h
        refine XF.lift (pc2 := 81) (ls2 := [some (.ref 2), some (.int y1), some (.int y2)]) (st2 := [.int (I_18 14 y1.toNatClampNeg)]) (I2 := I_18) ?_ (fun r I' hk => by
            refine XW.tabIn (off := 45) (tgt := 72) dX9_fate_27 (by rw [c_27_2]; decide) (by rw [c_27_2]; decide) (by rw [c_27_2]; rfl) (by decide) ?_
            refine XW.aload_n eX9_fate_72 rfl ?_
            refine XW.getR (b := 8) eX9_fate_73 f9_33_9 rfl (so_2 hs) (sr_2_3 hs) ?_
            refine XW.getR (b := 14) eX9_fate_76 f9_199_5 rfl (so_8 hs) (sr_8_6 hs) ?_
            refine XW.iload_n eX9_fate_79 rfl ?_
            refine XW.iaload eX9_fate_80 (sa_14 hs) q_80 ?_
            exact hk)
        exact ⟨(I_18 14 y1.toNatClampNeg), I_18, XW.iret eX9_fate_81 rfl rfl rfl rfl rfl, h⟩
      replace h := hf c_27_2
      refine XF.lift (pc2 := 83) (ls2 := [some (.ref 2), some (.int y1), some (.int y2)]) (st2 := [.int (-1)]) (I2 := I_18) ?_ (fun r I' hk => by
          refine XW.tabOut (tgt := 82) dX9_fate_27 (tab_out 3 (by decide) (by intro k hk; rcases (show k = 0 ∨ k = 1 ∨ k = 2 by omega) with rfl | rfl | rfl <;> first | exact c_27_0 | exact c_27_1 | exact c_27_2)) (by decide) ?_
          refine XW.iconst (v := (-1)) eX9_fate_82 (by decide) ?_
          exact hk)
      exact ⟨(-1), I_18, XW.iret eX9_fate_83 rfl rfl rfl rfl rfl, h⟩
set_option maxRecDepth 100000 in
set_option maxHeartbeats 4000000 in
theorem VX9_sum {l : Launch} {C : xC} {G : xG} (hs : SH G)  (I : xI) (y1 y2 : Int32) {Q : Int32 → xI → Prop} (h :
    (((I 2 6) = 0 → Q (-1) I) ∧ (¬ ((I 2 6) = 0) → (∃ Qc : Int32 → xI → Prop, XF fI l C mX9_isWithin 0 (xent mX9_isWithin [.int y1, .int (-1), .int ((I 3 1) - 1)]) [] G I Qc ∧ ∀ (v_18 : Int32) (I_18 : xI), Qc v_18 I_18 → ((v_18 = 0 → Q (-1) I_18) ∧ (¬ (v_18 = 0) → (∃ Qc : Int32 → xI → Prop, XF fI l C mX9_isWithin 0 (xent mX9_isWithin [.int y2, .int 0, .int 4]) [] G I_18 Qc ∧ ∀ (v_27 : Int32) (I_27 : xI), Qc v_27 I_27 → ((v_27 = 0 → Q (-1) I_27) ∧ (¬ (v_27 = 0) → ((y2 = 4 → ((y1 = (-1) → Q (I_27 8 18) I_27) ∧ (¬ (y1 = (-1)) → vp_in y1 4 ∧ Q (I_27 15 y1.toNatClampNeg) I_27))) ∧ (¬ (y2 = 4) → (∃ Qc : Int32 → xI → Prop, XF fI l C mX5_countOf 0 (xent mX5_countOf [.ref 8, .int y1, .int y2]) [] G I_27 Qc ∧ ∀ (v_46 : Int32) (I_46 : xI), Qc v_46 I_46 → Q v_46 I_46)))))))))))) : XF fI l C mX9_sum 0 (xent mX9_sum [.ref 2, .int y1, .int y2]) [] G I Q := by
  show XF fI l C mX9_sum 0 [some (.ref 2), some (.int y1), some (.int y2)] [] G I Q
  refine XF.lift (pc2 := 4) (ls2 := [some (.ref 2), some (.int y1), some (.int y2)]) (st2 := [.int (I 2 6)]) (I2 := I) ?_ (fun r I' hk => by
      refine XW.aload_n eX9_sum_0 rfl ?_
      refine XW.getI eX9_sum_1 f9_183_9 rfl (so_2 hs) ?_
      exact hk)
  obtain ⟨ht, hf⟩ := h
  refine XF.br (P := (I 2 6) = 0) (fun c_4 => ?_) (fun c_4 => ?_)
  ·
    replace h := ht c_4
    refine XF.lift (pc2 := 34) (ls2 := [some (.ref 2), some (.int y1), some (.int y2)]) (st2 := [.int (-1)]) (I2 := I) ?_ (fun r I' hk => by
        refine XW.if_eq eX9_sum_4 (fun _ => ?_) (fun z => absurd c_4 z)
        refine XW.iconst (v := (-1)) eX9_sum_33 (by decide) ?_
        exact hk)
    exact ⟨(-1), I, XW.iret eX9_sum_34 rfl rfl rfl rfl rfl, h⟩
  ·
    replace h := hf c_4
    refine XF.lift (pc2 := 18) (ls2 := [some (.ref 2), some (.int y1), some (.int y2)]) (st2 := [.int ((I 3 1) - 1), .int (-1), .int y1]) (I2 := I) ?_ (fun r I' hk => by
        refine XW.if_eq eX9_sum_4 (fun z => absurd z c_4) (fun _ => ?_)
        refine XW.iload_n eX9_sum_7 rfl ?_
        refine XW.iconst (v := (-1)) eX9_sum_8 (by decide) ?_
        refine XW.aload_n eX9_sum_9 rfl ?_
        refine XW.getR (b := 3) eX9_sum_10 f9_10_9 rfl (so_2 hs) (sr_2_0 hs) ?_
        refine XW.getI eX9_sum_13 f9_66_6 rfl (so_3 hs) ?_
        refine XW.iconst (v := 1) eX9_sum_16 (by decide) ?_
        refine XW.isub eX9_sum_17 ?_
        exact hk)
    obtain ⟨Qc, hc, h⟩ := h
    refine XF.call (nx := 21) (st := []) hc (fun v I1 r I' hY hk => XW.callS (As := [.int y1, .int (-1), .int ((I 3 1) - 1)]) (st := []) eX9_sum_18 okX9_isWithin cs9_53 rfl hY (xnum rfl rfl rfl rfl rfl) hk) (fun v_18 I_18 hq => ?_)
    replace h := h v_18 I_18 hq
    obtain ⟨ht, hf⟩ := h
    refine XF.br (P := v_18 = 0) (fun c_21 => ?_) (fun c_21 => ?_)
    ·
      replace h := ht c_21
      refine XF.lift (pc2 := 34) (ls2 := [some (.ref 2), some (.int y1), some (.int y2)]) (st2 := [.int (-1)]) (I2 := I_18) ?_ (fun r I' hk => by
          refine XW.if_eq eX9_sum_21 (fun _ => ?_) (fun z => absurd c_21 z)
          refine XW.iconst (v := (-1)) eX9_sum_33 (by decide) ?_
          exact hk)
      exact ⟨(-1), I_18, XW.iret eX9_sum_34 rfl rfl rfl rfl rfl, h⟩
    ·
      replace h := hf c_21
      refine XF.lift (pc2 := 27) (ls2 := [some (.ref 2), some (.int y1), some (.int y2)]) (st2 := [.int 4, .int 0, .int y2]) (I2 := I_18) ?_ (fun r I' hk => by
          refine XW.if_eq eX9_sum_21 (fun z => absurd z c_21) (fun _ => ?_)
          refine XW.iload_n eX9_sum_24 rfl ?_
          refine XW.iconst (v := 0) eX9_sum_25 (by decide) ?_
          refine XW.iconst (v := 4) eX9_sum_26 (by decide) ?_
          exact hk)
      obtain ⟨Qc, hc, h⟩ := h
      refine XF.call (nx := 30) (st := []) hc (fun v I1 r I' hY hk => XW.callS (As := [.int y2, .int 0, .int 4]) (st := []) eX9_sum_27 okX9_isWithin cs9_53 rfl hY (xnum rfl rfl rfl rfl rfl) hk) (fun v_27 I_27 hq => ?_)
      replace h := h v_27 I_27 hq
      obtain ⟨ht, hf⟩ := h
      refine XF.br (P := v_27 = 0) (fun c_30 => ?_) (fun c_30 => ?_)
      ·
        replace h := ht c_30
        refine XF.lift (pc2 := 34) (ls2 := [some (.ref 2), some (.int y1), some (.int y2)]) (st2 := [.int (-1)]) (I2 := I_27) ?_ (fun r I' hk => by
            refine XW.if_ne eX9_sum_30 (fun z => absurd c_30 z) (fun _ => ?_)
            refine XW.iconst (v := (-1)) eX9_sum_33 (by decide) ?_
            exact hk)
        exact ⟨(-1), I_27, XW.iret eX9_sum_34 rfl rfl rfl rfl rfl, h⟩
      ·
        replace h := hf c_30
        refine XF.lift (pc2 := 37) (ls2 := [some (.ref 2), some (.int y1), some (.int y2)]) (st2 := [.int 4, .int y2]) (I2 := I_27) ?_ (fun r I' hk => by
            refine XW.if_ne eX9_sum_30 (fun _ => ?_) (fun z => absurd z c_30)
            refine XW.iload_n eX9_sum_35 rfl ?_
            refine XW.iconst (v := 4) eX9_sum_36 (by decide) ?_
            exact hk)
        obtain ⟨ht, hf⟩ := h
        refine XF.br (P := y2 = 4) (fun c_37 => ?_) (fun c_37 => ?_)
        ·
          replace h := ht c_37
          refine XF.lift (pc2 := 52) (ls2 := [some (.ref 2), some (.int y1), some (.int y2)]) (st2 := [.int (-1), .int y1]) (I2 := I_27) ?_ (fun r I' hk => by
              refine XW.icmp_eq eX9_sum_37 (fun _ => ?_) (fun z => absurd c_37 z)
              refine XW.iload_n eX9_sum_50 rfl ?_
              refine XW.iconst (v := (-1)) eX9_sum_51 (by decide) ?_
              exact hk)
          obtain ⟨ht, hf⟩ := h
          refine XF.br (P := y1 = (-1)) (fun c_52 => ?_) (fun c_52 => ?_)
          ·
            replace h := ht c_52
            refine XF.lift (pc2 := 74) (ls2 := [some (.ref 2), some (.int y1), some (.int y2)]) (st2 := [.int (I_27 8 18)]) (I2 := I_27) ?_ (fun r I' hk => by
                refine XW.icmp_ne eX9_sum_52 (fun z => absurd c_52 z) (fun _ => ?_)
                refine XW.aload_n eX9_sum_55 rfl ?_
                refine XW.getR (b := 8) eX9_sum_56 f9_33_9 rfl (so_2 hs) (sr_2_3 hs) ?_
                refine XW.getI eX9_sum_59 f9_202_5 rfl (so_8 hs) ?_
                refine XW.goto eX9_sum_62 ?_
                exact hk)
            exact ⟨(I_27 8 18), I_27, XW.iret eX9_sum_74 rfl rfl rfl rfl rfl, h⟩
          ·
            replace h := hf c_52
            obtain ⟨q_73, h⟩ := h
            refine XF.lift (pc2 := 74) (ls2 := [some (.ref 2), some (.int y1), some (.int y2)]) (st2 := [.int (I_27 15 y1.toNatClampNeg)]) (I2 := I_27) ?_ (fun r I' hk => by
                refine XW.icmp_ne eX9_sum_52 (fun _ => ?_) (fun z => absurd z c_52)
                refine XW.aload_n eX9_sum_65 rfl ?_
                refine XW.getR (b := 8) eX9_sum_66 f9_33_9 rfl (so_2 hs) (sr_2_3 hs) ?_
                refine XW.getR (b := 15) eX9_sum_69 f9_205_5 rfl (so_8 hs) (sr_8_7 hs) ?_
                refine XW.iload_n eX9_sum_72 rfl ?_
                refine XW.iaload eX9_sum_73 (sa_15 hs) q_73 ?_
                exact hk)
            exact ⟨(I_27 15 y1.toNatClampNeg), I_27, XW.iret eX9_sum_74 rfl rfl rfl rfl rfl, h⟩
        ·
          replace h := hf c_37
          refine XF.lift (pc2 := 46) (ls2 := [some (.ref 2), some (.int y1), some (.int y2)]) (st2 := [.int y2, .int y1, .ref 8]) (I2 := I_27) ?_ (fun r I' hk => by
              refine XW.icmp_eq eX9_sum_37 (fun z => absurd z c_37) (fun _ => ?_)
              refine XW.aload_n eX9_sum_40 rfl ?_
              refine XW.getR (b := 8) eX9_sum_41 f9_33_9 rfl (so_2 hs) (sr_2_3 hs) ?_
              refine XW.iload_n eX9_sum_44 rfl ?_
              refine XW.iload_n eX9_sum_45 rfl ?_
              exact hk)
          obtain ⟨Qc, hc, h⟩ := h
          refine XF.call (nx := 49) (st := []) hc (fun v I1 r I' hY hk => XW.callV (As := [.int y1, .int y2]) (st := []) eX9_sum_46 okX5_countOf cv9_186 rfl (so_8 hs) hY (xnum rfl rfl rfl rfl rfl) hk) (fun v_46 I_46 hq => ?_)
          replace h := h v_46 I_46 hq
          exact ⟨v_46, I_46, XW.iret eX9_sum_49 rfl rfl rfl rfl rfl, h⟩
set_option maxRecDepth 100000 in
set_option maxHeartbeats 4000000 in
theorem VX9_length {l : Launch} {C : xC} {G : xG} (hs : SH G)  (I : xI) (y1 y2 : Int32) {Q : Int32 → xI → Prop} (h :
    (((I 2 6) = 0 → Q (-1) I) ∧ (¬ ((I 2 6) = 0) → (∃ Qc : Nat → xI → Prop, XF fR l C mX6_lineAt 0 (xent mX6_lineAt [.ref 3, .int y1]) [] G I Qc ∧ ∀ (v_12 : Nat) (I_12 : xI), Qc v_12 I_12 → ((v_12 = 0 → Q (-1) I_12) ∧ (¬ (v_12 = 0) → (∃ Qc : Int32 → xI → Prop, XF fI l C mX9_isWithin 0 (xent mX9_isWithin [.int y2, .int 0, .int 399]) [] G I_12 Qc ∧ ∀ (v_23 : Int32) (I_23 : xI), Qc v_23 I_23 → ((v_23 = 0 → Q (-1) I_23) ∧ (¬ (v_23 = 0) → (∃ Qc : Int32 → xI → Prop, XF fI l C mX5_lengthAt 0 (xent mX5_lengthAt [.ref 8, .int y1, .int y2]) [] G I_23 Qc ∧ ∀ (v_37 : Int32) (I_37 : xI), Qc v_37 I_37 → Q v_37 I_37)))))))))) : XF fI l C mX9_length 0 (xent mX9_length [.ref 2, .int y1, .int y2]) [] G I Q := by
  show XF fI l C mX9_length 0 [some (.ref 2), some (.int y1), some (.int y2)] [] G I Q
  refine XF.lift (pc2 := 4) (ls2 := [some (.ref 2), some (.int y1), some (.int y2)]) (st2 := [.int (I 2 6)]) (I2 := I) ?_ (fun r I' hk => by
      refine XW.aload_n eX9_length_0 rfl ?_
      refine XW.getI eX9_length_1 f9_183_9 rfl (so_2 hs) ?_
      exact hk)
  obtain ⟨ht, hf⟩ := h
  refine XF.br (P := (I 2 6) = 0) (fun c_4 => ?_) (fun c_4 => ?_)
  ·
    replace h := ht c_4
    refine XF.lift (pc2 := 30) (ls2 := [some (.ref 2), some (.int y1), some (.int y2)]) (st2 := [.int (-1)]) (I2 := I) ?_ (fun r I' hk => by
        refine XW.if_eq eX9_length_4 (fun _ => ?_) (fun z => absurd c_4 z)
        refine XW.iconst (v := (-1)) eX9_length_29 (by decide) ?_
        exact hk)
    exact ⟨(-1), I, XW.iret eX9_length_30 rfl rfl rfl rfl rfl, h⟩
  ·
    replace h := hf c_4
    refine XF.lift (pc2 := 12) (ls2 := [some (.ref 2), some (.int y1), some (.int y2)]) (st2 := [.int y1, .ref 3]) (I2 := I) ?_ (fun r I' hk => by
        refine XW.if_eq eX9_length_4 (fun z => absurd z c_4) (fun _ => ?_)
        refine XW.aload_n eX9_length_7 rfl ?_
        refine XW.getR (b := 3) eX9_length_8 f9_10_9 rfl (so_2 hs) (sr_2_0 hs) ?_
        refine XW.iload_n eX9_length_11 rfl ?_
        exact hk)
    obtain ⟨Qc, hc, h⟩ := h
    refine XF.call (nx := 15) (st := []) hc (fun v I1 r I' hY hk => XW.callV (As := [.int y1]) (st := []) eX9_length_12 okX6_lineAt cv9_77 rfl (so_3 hs) hY (xnum rfl rfl rfl rfl rfl) hk) (fun v_12 I_12 hq => ?_)
    replace h := h v_12 I_12 hq
    obtain ⟨ht, hf⟩ := h
    refine XF.br (P := v_12 = 0) (fun c_15 => ?_) (fun c_15 => ?_)
    ·
      replace h := ht c_15
      refine XF.lift (pc2 := 30) (ls2 := [some (.ref 2), some (.int y1), some (.int y2)]) (st2 := [.int (-1)]) (I2 := I_12) ?_ (fun r I' hk => by
          refine XW.ifnull eX9_length_15 (fun _ => ?_) (fun z => absurd c_15 z)
          refine XW.iconst (v := (-1)) eX9_length_29 (by decide) ?_
          exact hk)
      exact ⟨(-1), I_12, XW.iret eX9_length_30 rfl rfl rfl rfl rfl, h⟩
    ·
      replace h := hf c_15
      refine XF.lift (pc2 := 23) (ls2 := [some (.ref 2), some (.int y1), some (.int y2)]) (st2 := [.int 399, .int 0, .int y2]) (I2 := I_12) ?_ (fun r I' hk => by
          refine XW.ifnull eX9_length_15 (fun z => absurd z c_15) (fun _ => ?_)
          refine XW.iload_n eX9_length_18 rfl ?_
          refine XW.iconst (v := 0) eX9_length_19 (by decide) ?_
          refine XW.sipush (v := 399) eX9_length_20 (by decide) ?_
          exact hk)
      obtain ⟨Qc, hc, h⟩ := h
      refine XF.call (nx := 26) (st := []) hc (fun v I1 r I' hY hk => XW.callS (As := [.int y2, .int 0, .int 399]) (st := []) eX9_length_23 okX9_isWithin cs9_53 rfl hY (xnum rfl rfl rfl rfl rfl) hk) (fun v_23 I_23 hq => ?_)
      replace h := h v_23 I_23 hq
      obtain ⟨ht, hf⟩ := h
      refine XF.br (P := v_23 = 0) (fun c_26 => ?_) (fun c_26 => ?_)
      ·
        replace h := ht c_26
        refine XF.lift (pc2 := 30) (ls2 := [some (.ref 2), some (.int y1), some (.int y2)]) (st2 := [.int (-1)]) (I2 := I_23) ?_ (fun r I' hk => by
            refine XW.if_ne eX9_length_26 (fun z => absurd c_26 z) (fun _ => ?_)
            refine XW.iconst (v := (-1)) eX9_length_29 (by decide) ?_
            exact hk)
        exact ⟨(-1), I_23, XW.iret eX9_length_30 rfl rfl rfl rfl rfl, h⟩
      ·
        replace h := hf c_26
        refine XF.lift (pc2 := 37) (ls2 := [some (.ref 2), some (.int y1), some (.int y2)]) (st2 := [.int y2, .int y1, .ref 8]) (I2 := I_23) ?_ (fun r I' hk => by
            refine XW.if_ne eX9_length_26 (fun _ => ?_) (fun z => absurd z c_26)
            refine XW.aload_n eX9_length_31 rfl ?_
            refine XW.getR (b := 8) eX9_length_32 f9_33_9 rfl (so_2 hs) (sr_2_3 hs) ?_
            refine XW.iload_n eX9_length_35 rfl ?_
            refine XW.iload_n eX9_length_36 rfl ?_
            exact hk)
        obtain ⟨Qc, hc, h⟩ := h
        refine XF.call (nx := 40) (st := []) hc (fun v I1 r I' hY hk => XW.callV (As := [.int y1, .int y2]) (st := []) eX9_length_37 okX5_lengthAt cv9_208 rfl (so_8 hs) hY (xnum rfl rfl rfl rfl rfl) hk) (fun v_37 I_37 hq => ?_)
        replace h := h v_37 I_37 hq
        exact ⟨v_37, I_37, XW.iret eX9_length_40 rfl rfl rfl rfl rfl, h⟩
set_option maxRecDepth 100000 in
set_option maxHeartbeats 4000000 in
theorem VX9_ticks {l : Launch} {C : xC} {G : xG} (hs : SH G)  (I : xI) {Q : Int32 → xI → Prop} (h :
    (((I 2 6) = 0 → Q (-1) I) ∧ (¬ ((I 2 6) = 0) → Q (I 8 15) I))) : XF fI l C mX9_ticks 0 (xent mX9_ticks [.ref 2]) [] G I Q := by
  show XF fI l C mX9_ticks 0 [some (.ref 2)] [] G I Q
  refine XF.lift (pc2 := 4) (ls2 := [some (.ref 2)]) (st2 := [.int (I 2 6)]) (I2 := I) ?_ (fun r I' hk => by
      refine XW.aload_n eX9_ticks_0 rfl ?_
      refine XW.getI eX9_ticks_1 f9_183_9 rfl (so_2 hs) ?_
      exact hk)
  obtain ⟨ht, hf⟩ := h
  refine XF.br (P := (I 2 6) = 0) (fun c_4 => ?_) (fun c_4 => ?_)
  ·
    replace h := ht c_4
    refine XF.lift (pc2 := 18) (ls2 := [some (.ref 2)]) (st2 := [.int (-1)]) (I2 := I) ?_ (fun r I' hk => by
        refine XW.if_eq eX9_ticks_4 (fun _ => ?_) (fun z => absurd c_4 z)
        refine XW.iconst (v := (-1)) eX9_ticks_17 (by decide) ?_
        exact hk)
    exact ⟨(-1), I, XW.iret eX9_ticks_18 rfl rfl rfl rfl rfl, h⟩
  ·
    replace h := hf c_4
    refine XF.lift (pc2 := 18) (ls2 := [some (.ref 2)]) (st2 := [.int (I 8 15)]) (I2 := I) ?_ (fun r I' hk => by
        refine XW.if_eq eX9_ticks_4 (fun z => absurd z c_4) (fun _ => ?_)
        refine XW.aload_n eX9_ticks_7 rfl ?_
        refine XW.getR (b := 8) eX9_ticks_8 f9_33_9 rfl (so_2 hs) (sr_2_3 hs) ?_
        refine XW.getI eX9_ticks_11 f9_211_5 rfl (so_8 hs) ?_
        refine XW.goto eX9_ticks_14 ?_
        exact hk)
    exact ⟨(I 8 15), I, XW.iret eX9_ticks_18 rfl rfl rfl rfl rfl, h⟩
set_option maxRecDepth 100000 in
set_option maxHeartbeats 4000000 in
theorem VX9_best {l : Launch} {C : xC} {G : xG} (hs : SH G)  (I : xI) (y1 : Int32) {Q : Int32 → xI → Prop} (h :
    (∃ Qc : Nat → xI → Prop, XF fR l C mX9_rowAt 0 (xent mX9_rowAt [.ref 2, .int y1]) [] G I Qc ∧ ∀ (v_2 : Nat) (I_2 : xI), Qc v_2 I_2 → ((v_2 = 0 → Q (-1) I_2) ∧ (¬ (v_2 = 0) → (∃ Qc : Int32 → xI → Prop, XF fI l C mX0_mostTaken 0 (xent mX0_mostTaken [.ref 44, .ref v_2]) [] G I_2 Qc ∧ ∀ (v_19 : Int32) (I_19 : xI), Qc v_19 I_19 → Q v_19 I_19))))) : XF fI l C mX9_best 0 (xent mX9_best [.ref 2, .int y1]) [] G I Q := by
  show XF fI l C mX9_best 0 [some (.ref 2), some (.int y1), none] [] G I Q
  refine XF.lift (pc2 := 2) (ls2 := [some (.ref 2), some (.int y1), none]) (st2 := [.int y1, .ref 2]) (I2 := I) ?_ (fun r I' hk => by
      refine XW.aload_n eX9_best_0 rfl ?_
      refine XW.iload_n eX9_best_1 rfl ?_
      exact hk)
  obtain ⟨Qc, hc, h⟩ := h
  refine XF.call (nx := 5) (st := []) hc (fun v I1 r I' hY hk => XW.callV (As := [.int y1]) (st := []) eX9_best_2 okX9_rowAt cv9_154 rfl (so_2 hs) hY (xnum rfl rfl rfl rfl rfl) hk) (fun v_2 I_2 hq => ?_)
  replace h := h v_2 I_2 hq
  refine XF.lift (pc2 := 7) (ls2 := [some (.ref 2), some (.int y1), some (.ref v_2)]) (st2 := [.ref v_2]) (I2 := I_2) ?_ (fun r I' hk => by
      refine XW.astore_n (ls' := [some (.ref 2), some (.int y1), some (.ref v_2)]) eX9_best_5 (Nat.le_of_ble_eq_true rfl) rfl ?_
      refine XW.aload_n eX9_best_6 rfl ?_
      exact hk)
  obtain ⟨ht, hf⟩ := h
  refine XF.br (P := v_2 = 0) (fun c_7 => ?_) (fun c_7 => ?_)
  ·
    replace h := ht c_7
    refine XF.lift (pc2 := 22) (ls2 := [some (.ref 2), some (.int y1), some (.ref v_2)]) (st2 := [.int (-1)]) (I2 := I_2) ?_ (fun r I' hk => by
        refine XW.ifnonnull eX9_best_7 (fun z => absurd c_7 z) (fun _ => ?_)
        refine XW.iconst (v := (-1)) eX9_best_10 (by decide) ?_
        refine XW.goto eX9_best_11 ?_
        exact hk)
    exact ⟨(-1), I_2, XW.iret eX9_best_22 rfl rfl rfl rfl rfl, h⟩
  ·
    replace h := hf c_7
    refine XF.lift (pc2 := 19) (ls2 := [some (.ref 2), some (.int y1), some (.ref v_2)]) (st2 := [.ref v_2, .ref 44]) (I2 := I_2) ?_ (fun r I' hk => by
        refine XW.ifnonnull eX9_best_7 (fun _ => ?_) (fun z => absurd z c_7)
        refine XW.aload_n eX9_best_14 rfl ?_
        refine XW.getR (b := 44) eX9_best_15 f9_43_9 rfl (so_2 hs) (sr_2_5 hs) ?_
        refine XW.aload_n eX9_best_18 rfl ?_
        exact hk)
    obtain ⟨Qc, hc, h⟩ := h
    refine XF.call (nx := 22) (st := []) hc (fun v I1 r I' hY hk => XW.callV (As := [.ref v_2]) (st := []) eX9_best_19 okX0_mostTaken cv9_214 rfl (so_44 hs) hY (xnum rfl rfl rfl rfl rfl) hk) (fun v_19 I_19 hq => ?_)
    replace h := h v_19 I_19 hq
    exact ⟨v_19, I_19, XW.iret eX9_best_22 rfl rfl rfl rfl rfl, h⟩
set_option maxRecDepth 100000 in
set_option maxHeartbeats 4000000 in
theorem VX9_shortBy {l : Launch} {C : xC} {G : xG} (hs : SH G)  (I : xI) (y1 y2 : Int32) {Q : Int32 → xI → Prop} (h :
    (∃ Qc : Nat → xI → Prop, XF fR l C mX9_rowAt 0 (xent mX9_rowAt [.ref 2, .int y1]) [] G I Qc ∧ ∀ (v_2 : Nat) (I_2 : xI), Qc v_2 I_2 → ((v_2 = 0 → Q (-1) I_2) ∧ (¬ (v_2 = 0) → (∃ Qc : Int32 → xI → Prop, XF fI l C mX9_isWithin 0 (xent mX9_isWithin [.int y2, .int 0, .int 2]) [] G I_2 Qc ∧ ∀ (v_13 : Int32) (I_13 : xI), Qc v_13 I_13 → ((v_13 = 0 → Q (-1) I_13) ∧ (¬ (v_13 = 0) → (∃ Qc : Unit → xI → Prop, XF fV l C mX5_play 0 (xent mX5_play [.ref 26, .ref v_2, .int y2, .int 0]) [] G I_13 Qc ∧ ∀ (u_28 : Unit) (I_28 : xI), Qc u_28 I_28 → (∃ Qc : Int32 → xI → Prop, XF fI l C mX0_mostTaken 0 (xent mX0_mostTaken [.ref 44, .ref v_2]) [] G I_28 Qc ∧ ∀ (v_36 : Int32) (I_36 : xI), Qc v_36 I_36 → (∃ Qc : Int32 → xI → Prop, XF fI l C mX5_countOf 0 (xent mX5_countOf [.ref 26, .int (-1), .int 0]) [] G I_36 Qc ∧ ∀ (v_45 : Int32) (I_45 : xI), Qc v_45 I_45 → Q (v_36 - v_45) I_45)))))))))) : XF fI l C mX9_shortBy 0 (xent mX9_shortBy [.ref 2, .int y1, .int y2]) [] G I Q := by
  show XF fI l C mX9_shortBy 0 [some (.ref 2), some (.int y1), some (.int y2), none] [] G I Q
  refine XF.lift (pc2 := 2) (ls2 := [some (.ref 2), some (.int y1), some (.int y2), none]) (st2 := [.int y1, .ref 2]) (I2 := I) ?_ (fun r I' hk => by
      refine XW.aload_n eX9_shortBy_0 rfl ?_
      refine XW.iload_n eX9_shortBy_1 rfl ?_
      exact hk)
  obtain ⟨Qc, hc, h⟩ := h
  refine XF.call (nx := 5) (st := []) hc (fun v I1 r I' hY hk => XW.callV (As := [.int y1]) (st := []) eX9_shortBy_2 okX9_rowAt cv9_154 rfl (so_2 hs) hY (xnum rfl rfl rfl rfl rfl) hk) (fun v_2 I_2 hq => ?_)
  replace h := h v_2 I_2 hq
  refine XF.lift (pc2 := 7) (ls2 := [some (.ref 2), some (.int y1), some (.int y2), some (.ref v_2)]) (st2 := [.ref v_2]) (I2 := I_2) ?_ (fun r I' hk => by
      refine XW.astore_n (ls' := [some (.ref 2), some (.int y1), some (.int y2), some (.ref v_2)]) eX9_shortBy_5 (Nat.le_of_ble_eq_true rfl) rfl ?_
      refine XW.aload_n eX9_shortBy_6 rfl ?_
      exact hk)
  obtain ⟨ht, hf⟩ := h
  refine XF.br (P := v_2 = 0) (fun c_7 => ?_) (fun c_7 => ?_)
  ·
    replace h := ht c_7
    refine XF.lift (pc2 := 20) (ls2 := [some (.ref 2), some (.int y1), some (.int y2), some (.ref v_2)]) (st2 := [.int (-1)]) (I2 := I_2) ?_ (fun r I' hk => by
        refine XW.ifnull eX9_shortBy_7 (fun _ => ?_) (fun z => absurd c_7 z)
        refine XW.iconst (v := (-1)) eX9_shortBy_19 (by decide) ?_
        exact hk)
    exact ⟨(-1), I_2, XW.iret eX9_shortBy_20 rfl rfl rfl rfl rfl, h⟩
  ·
    replace h := hf c_7
    refine XF.lift (pc2 := 13) (ls2 := [some (.ref 2), some (.int y1), some (.int y2), some (.ref v_2)]) (st2 := [.int 2, .int 0, .int y2]) (I2 := I_2) ?_ (fun r I' hk => by
        refine XW.ifnull eX9_shortBy_7 (fun z => absurd z c_7) (fun _ => ?_)
        refine XW.iload_n eX9_shortBy_10 rfl ?_
        refine XW.iconst (v := 0) eX9_shortBy_11 (by decide) ?_
        refine XW.iconst (v := 2) eX9_shortBy_12 (by decide) ?_
        exact hk)
    obtain ⟨Qc, hc, h⟩ := h
    refine XF.call (nx := 16) (st := []) hc (fun v I1 r I' hY hk => XW.callS (As := [.int y2, .int 0, .int 2]) (st := []) eX9_shortBy_13 okX9_isWithin cs9_53 rfl hY (xnum rfl rfl rfl rfl rfl) hk) (fun v_13 I_13 hq => ?_)
    replace h := h v_13 I_13 hq
    obtain ⟨ht, hf⟩ := h
    refine XF.br (P := v_13 = 0) (fun c_16 => ?_) (fun c_16 => ?_)
    ·
      replace h := ht c_16
      refine XF.lift (pc2 := 20) (ls2 := [some (.ref 2), some (.int y1), some (.int y2), some (.ref v_2)]) (st2 := [.int (-1)]) (I2 := I_13) ?_ (fun r I' hk => by
          refine XW.if_ne eX9_shortBy_16 (fun z => absurd c_16 z) (fun _ => ?_)
          refine XW.iconst (v := (-1)) eX9_shortBy_19 (by decide) ?_
          exact hk)
      exact ⟨(-1), I_13, XW.iret eX9_shortBy_20 rfl rfl rfl rfl rfl, h⟩
    ·
      replace h := hf c_16
      refine XF.lift (pc2 := 28) (ls2 := [some (.ref 2), some (.int y1), some (.int y2), some (.ref v_2)]) (st2 := [.int 0, .int y2, .ref v_2, .ref 26]) (I2 := I_13) ?_ (fun r I' hk => by
          refine XW.if_ne eX9_shortBy_16 (fun _ => ?_) (fun z => absurd z c_16)
          refine XW.aload_n eX9_shortBy_21 rfl ?_
          refine XW.getR (b := 26) eX9_shortBy_22 f9_37_9 rfl (so_2 hs) (sr_2_4 hs) ?_
          refine XW.aload_n eX9_shortBy_25 rfl ?_
          refine XW.iload_n eX9_shortBy_26 rfl ?_
          refine XW.iconst (v := 0) eX9_shortBy_27 (by decide) ?_
          exact hk)
      obtain ⟨Qc, hc, h⟩ := h
      refine XF.call (nx := 31) (st := []) hc (fun v I1 r I' hY hk => XW.callV (As := [.ref v_2, .int y2, .int 0]) (st := []) eX9_shortBy_28 okX5_play cv9_179 rfl (so_26 hs) hY (xnum rfl rfl rfl rfl rfl) hk) (fun _ I_28 hq => ?_)
      replace h := h () I_28 hq
      refine XF.lift (pc2 := 36) (ls2 := [some (.ref 2), some (.int y1), some (.int y2), some (.ref v_2)]) (st2 := [.ref v_2, .ref 44]) (I2 := I_28) ?_ (fun r I' hk => by
          refine XW.aload_n eX9_shortBy_31 rfl ?_
          refine XW.getR (b := 44) eX9_shortBy_32 f9_43_9 rfl (so_2 hs) (sr_2_5 hs) ?_
          refine XW.aload_n eX9_shortBy_35 rfl ?_
          exact hk)
      obtain ⟨Qc, hc, h⟩ := h
      refine XF.call (nx := 39) (st := []) hc (fun v I1 r I' hY hk => XW.callV (As := [.ref v_2]) (st := []) eX9_shortBy_36 okX0_mostTaken cv9_214 rfl (so_44 hs) hY (xnum rfl rfl rfl rfl rfl) hk) (fun v_36 I_36 hq => ?_)
      replace h := h v_36 I_36 hq
      refine XF.lift (pc2 := 45) (ls2 := [some (.ref 2), some (.int y1), some (.int y2), some (.ref v_2)]) (st2 := [.int 0, .int (-1), .ref 26, .int v_36]) (I2 := I_36) ?_ (fun r I' hk => by
          refine XW.aload_n eX9_shortBy_39 rfl ?_
          refine XW.getR (b := 26) eX9_shortBy_40 f9_37_9 rfl (so_2 hs) (sr_2_4 hs) ?_
          refine XW.iconst (v := (-1)) eX9_shortBy_43 (by decide) ?_
          refine XW.iconst (v := 0) eX9_shortBy_44 (by decide) ?_
          exact hk)
      obtain ⟨Qc, hc, h⟩ := h
      refine XF.call (nx := 48) (st := [.int v_36]) hc (fun v I1 r I' hY hk => XW.callV (As := [.int (-1), .int 0]) (st := [.int v_36]) eX9_shortBy_45 okX5_countOf cv9_186 rfl (so_26 hs) hY (xnum rfl rfl rfl rfl rfl) hk) (fun v_45 I_45 hq => ?_)
      replace h := h v_45 I_45 hq
      refine XF.lift (pc2 := 49) (ls2 := [some (.ref 2), some (.int y1), some (.int y2), some (.ref v_2)]) (st2 := [.int (v_36 - v_45)]) (I2 := I_45) ?_ (fun r I' hk => by
          refine XW.isub eX9_shortBy_48 ?_
          exact hk)
      exact ⟨(v_36 - v_45), I_45, XW.iret eX9_shortBy_49 rfl rfl rfl rfl rfl, h⟩
set_option maxRecDepth 100000 in
set_option maxHeartbeats 4000000 in
theorem VX9_pass {l : Launch} {C : xC} {G : xG} (hs : SH G)  (I : xI) (y1 y2 : Int32) {Q : Int32 → xI → Prop} (h :
    (∃ Qc : Nat → xI → Prop, XF fR l C mX9_rowAt 0 (xent mX9_rowAt [.ref 2, .int y1]) [] G I Qc ∧ ∀ (v_2 : Nat) (I_2 : xI), Qc v_2 I_2 → ((v_2 = 0 → Q (-1) I_2) ∧ (¬ (v_2 = 0) → gO G v_2 4 ∧ (y2 = 0 ∨ y2 = 1) ∧ XF fI l C mX9_pass 23 [some (.ref 2), some (.int y1), some (.int y2), some (.ref v_2), some (.int 0), some (.int 0)] [] G (wI I_2 v_2 3 y2) Q)))) : XF fI l C mX9_pass 0 (xent mX9_pass [.ref 2, .int y1, .int y2]) [] G I Q := by
  show XF fI l C mX9_pass 0 [some (.ref 2), some (.int y1), some (.int y2), none, none, none] [] G I Q
  refine XF.lift (pc2 := 2) (ls2 := [some (.ref 2), some (.int y1), some (.int y2), none, none, none]) (st2 := [.int y1, .ref 2]) (I2 := I) ?_ (fun r I' hk => by
      refine XW.aload_n eX9_pass_0 rfl ?_
      refine XW.iload_n eX9_pass_1 rfl ?_
      exact hk)
  obtain ⟨Qc, hc, h⟩ := h
  refine XF.call (nx := 5) (st := []) hc (fun v I1 r I' hY hk => XW.callV (As := [.int y1]) (st := []) eX9_pass_2 okX9_rowAt cv9_154 rfl (so_2 hs) hY (xnum rfl rfl rfl rfl rfl) hk) (fun v_2 I_2 hq => ?_)
  replace h := h v_2 I_2 hq
  refine XF.lift (pc2 := 7) (ls2 := [some (.ref 2), some (.int y1), some (.int y2), some (.ref v_2), none, none]) (st2 := [.ref v_2]) (I2 := I_2) ?_ (fun r I' hk => by
      refine XW.astore_n (ls' := [some (.ref 2), some (.int y1), some (.int y2), some (.ref v_2), none, none]) eX9_pass_5 (Nat.le_of_ble_eq_true rfl) rfl ?_
      refine XW.aload_n eX9_pass_6 rfl ?_
      exact hk)
  obtain ⟨ht, hf⟩ := h
  refine XF.br (P := v_2 = 0) (fun c_7 => ?_) (fun c_7 => ?_)
  ·
    replace h := ht c_7
    refine XF.lift (pc2 := 11) (ls2 := [some (.ref 2), some (.int y1), some (.int y2), some (.ref v_2), none, none]) (st2 := [.int (-1)]) (I2 := I_2) ?_ (fun r I' hk => by
        refine XW.ifnonnull eX9_pass_7 (fun z => absurd c_7 z) (fun _ => ?_)
        refine XW.iconst (v := (-1)) eX9_pass_10 (by decide) ?_
        exact hk)
    exact ⟨(-1), I_2, XW.iret eX9_pass_11 rfl rfl rfl rfl rfl, h⟩
  ·
    replace h := hf c_7
    obtain ⟨o_14, h⟩ := h
    obtain ⟨b_14, h⟩ := h
    refine XF.lift (pc2 := 23) (ls2 := [some (.ref 2), some (.int y1), some (.int y2), some (.ref v_2), some (.int 0), some (.int 0)]) (st2 := []) (I2 := (wI I_2 v_2 3 y2)) ?_ (fun r I' hk => by
        refine XW.ifnonnull eX9_pass_7 (fun _ => ?_) (fun z => absurd z c_7)
        refine XW.aload_n eX9_pass_12 rfl ?_
        refine XW.iload_n eX9_pass_13 rfl ?_
        refine XW.putI eX9_pass_14 f9_170_4 (xP_of rfl (by decide)) rfl ⟨(nar01 b_14), (fit01 b_14)⟩ o_14 ?_
        refine XW.iconst (v := 0) eX9_pass_17 (by decide) ?_
        refine XW.istore (ls' := [some (.ref 2), some (.int y1), some (.int y2), some (.ref v_2), some (.int 0), none]) eX9_pass_18 (Nat.le_of_ble_eq_true rfl) rfl ?_
        refine XW.iconst (v := 0) eX9_pass_20 (by decide) ?_
        refine XW.istore (ls' := [some (.ref 2), some (.int y1), some (.int y2), some (.ref v_2), some (.int 0), some (.int 0)]) eX9_pass_21 (Nat.le_of_ble_eq_true rfl) rfl ?_
        exact hk)
    exact h
set_option maxRecDepth 100000 in
set_option maxHeartbeats 4000000 in
theorem VX9_pass_23 {l : Launch} {C : xC} {G : xG} (hs : SH G)  (I : xI) {v_2 : Nat} (x1 x2 x4 x5 : Int32) {Q : Int32 → xI → Prop} (h :
    ((4 ≤ x5 → Q x4 I) ∧ (¬ (4 ≤ x5) → vp_in x5 4 ∧ (((I (49 + 3 * x5.toNatClampNeg) 3) = 0 → XF fI l C mX9_pass 23 [some (.ref 2), some (.int x1), some (.int x2), some (.ref v_2), some (.int x4), some (.int (x5 + 1))] [] G I Q) ∧ (¬ ((I (49 + 3 * x5.toNatClampNeg) 3) = 0) → XF fI l C mX9_pass 23 [some (.ref 2), some (.int x1), some (.int x2), some (.ref v_2), some (.int (x4 + 1)), some (.int (x5 + 1))] [] G I Q))))) : XF fI l C mX9_pass 23 [some (.ref 2), some (.int x1), some (.int x2), some (.ref v_2), some (.int x4), some (.int x5)] [] G I Q := by
  refine XF.lift (pc2 := 26) (ls2 := [some (.ref 2), some (.int x1), some (.int x2), some (.ref v_2), some (.int x4), some (.int x5)]) (st2 := [.int 4, .int x5]) (I2 := I) ?_ (fun r I' hk => by
      refine XW.iload eX9_pass_23 rfl ?_
      refine XW.iconst (v := 4) eX9_pass_25 (by decide) ?_
      exact hk)
  obtain ⟨ht, hf⟩ := h
  refine XF.br (P := 4 ≤ x5) (fun c_26 => ?_) (fun c_26 => ?_)
  ·
    replace h := ht c_26
    refine XF.lift (pc2 := 53) (ls2 := [some (.ref 2), some (.int x1), some (.int x2), some (.ref v_2), some (.int x4), some (.int x5)]) (st2 := [.int x4]) (I2 := I) ?_ (fun r I' hk => by
        refine XW.icmp_ge eX9_pass_26 (fun _ => ?_) (fun z => absurd c_26 z)
        refine XW.iload eX9_pass_51 rfl ?_
        exact hk)
    exact ⟨x4, I, XW.iret eX9_pass_53 rfl rfl rfl rfl rfl, h⟩
  ·
    replace h := hf c_26
    obtain ⟨q_35, h⟩ := h
    refine XF.lift (pc2 := 39) (ls2 := [some (.ref 2), some (.int x1), some (.int x2), some (.ref v_2), some (.int x4), some (.int x5)]) (st2 := [.int (I (49 + 3 * x5.toNatClampNeg) 3)]) (I2 := I) ?_ (fun r I' hk => by
        refine XW.icmp_ge eX9_pass_26 (fun z => absurd z c_26) (fun _ => ?_)
        refine XW.aload_n eX9_pass_29 rfl ?_
        refine XW.getR (b := 6) eX9_pass_30 f9_18_9 rfl (so_2 hs) (sr_2_1 hs) ?_
        refine XW.iload eX9_pass_33 rfl ?_
        refine XW.aaload (b := (49 + 3 * x5.toNatClampNeg)) eX9_pass_35 (sa_6 hs) ⟨by decide, rfl⟩ q_35 (sq6 hs q_35) ?_
        refine XW.getI eX9_pass_36 f9_170_4 rfl (so6 hs q_35).1 ?_
        exact hk)
    obtain ⟨ht, hf⟩ := h
    refine XF.br (P := (I (49 + 3 * x5.toNatClampNeg) 3) = 0) (fun c_39 => ?_) (fun c_39 => ?_)
    ·
      replace h := ht c_39
      refine XF.lift (pc2 := 23) (ls2 := [some (.ref 2), some (.int x1), some (.int x2), some (.ref v_2), some (.int x4), some (.int (x5 + 1))]) (st2 := []) (I2 := I) ?_ (fun r I' hk => by
          refine XW.if_eq eX9_pass_39 (fun _ => ?_) (fun z => absurd c_39 z)
          refine XW.iinc (y := (x5 + 1)) (ls' := [some (.ref 2), some (.int x1), some (.int x2), some (.ref v_2), some (.int x4), some (.int (x5 + 1))]) eX9_pass_45 rfl rfl rfl ?_
          refine XW.goto eX9_pass_48 ?_
          exact hk)
      exact h
    ·
      replace h := hf c_39
      refine XF.lift (pc2 := 23) (ls2 := [some (.ref 2), some (.int x1), some (.int x2), some (.ref v_2), some (.int (x4 + 1)), some (.int (x5 + 1))]) (st2 := []) (I2 := I) ?_ (fun r I' hk => by
          refine XW.if_eq eX9_pass_39 (fun z => absurd z c_39) (fun _ => ?_)
          refine XW.iinc (y := (x4 + 1)) (ls' := [some (.ref 2), some (.int x1), some (.int x2), some (.ref v_2), some (.int (x4 + 1)), some (.int x5)]) eX9_pass_42 rfl rfl rfl ?_
          refine XW.iinc (y := (x5 + 1)) (ls' := [some (.ref 2), some (.int x1), some (.int x2), some (.ref v_2), some (.int (x4 + 1)), some (.int (x5 + 1))]) eX9_pass_45 rfl rfl rfl ?_
          refine XW.goto eX9_pass_48 ?_
          exact hk)
      exact h
set_option maxRecDepth 100000 in
set_option maxHeartbeats 4000000 in
theorem VX9_marks {l : Launch} {C : xC} {G : xG} (hs : SH G)  (I : xI) {Q : Int32 → xI → Prop} (h :
    XF fI l C mX9_marks 4 [some (.ref 2), some (.int 1), some (.int 0), none] [] G I Q) : XF fI l C mX9_marks 0 (xent mX9_marks [.ref 2]) [] G I Q := by
  show XF fI l C mX9_marks 0 [some (.ref 2), none, none, none] [] G I Q
  refine XF.lift (pc2 := 4) (ls2 := [some (.ref 2), some (.int 1), some (.int 0), none]) (st2 := []) (I2 := I) ?_ (fun r I' hk => by
      refine XW.iconst (v := 1) eX9_marks_0 (by decide) ?_
      refine XW.istore_n (ls' := [some (.ref 2), some (.int 1), none, none]) eX9_marks_1 (Nat.le_of_ble_eq_true rfl) rfl ?_
      refine XW.iconst (v := 0) eX9_marks_2 (by decide) ?_
      refine XW.istore_n (ls' := [some (.ref 2), some (.int 1), some (.int 0), none]) eX9_marks_3 (Nat.le_of_ble_eq_true rfl) rfl ?_
      exact hk)
  exact h
set_option maxRecDepth 100000 in
set_option maxHeartbeats 4000000 in
theorem VX9_marks_4 {l : Launch} {C : xC} {G : xG} (hs : SH G)  (I : xI) (x1 x2 : Int32) {Q : Int32 → xI → Prop} (h :
    ((4 ≤ x2 → Q x1 (wI I 2 7 (-1))) ∧ (¬ (4 ≤ x2) → vp_in x2 4 ∧ (((I (49 + 3 * x2.toNatClampNeg) 3) = 0 → XF fI l C mX9_marks 4 [some (.ref 2), some (.int x1), some (.int (x2 + 1)), none] [] G I Q) ∧ (¬ ((I (49 + 3 * x2.toNatClampNeg) 3) = 0) → (∃ Qc : Int32 → xI → Prop, XF fI l C mX0_leastShare 0 (xent mX0_leastShare [.ref 44, .ref (49 + 3 * x2.toNatClampNeg)]) [] G I Qc ∧ ∀ (v_31 : Int32) (I_31 : xI), Qc v_31 I_31 → ((v_31 = (-1) → Q (-2) (wI I_31 2 7 x2)) ∧ (¬ (v_31 = (-1)) → XF fI l C mX9_marks 4 [some (.ref 2), some (.int (if x1 < v_31 then v_31 else x1)), some (.int (x2 + 1)), none] [] G I_31 Q)))))))) : XF fI l C mX9_marks 4 [some (.ref 2), some (.int x1), some (.int x2), none] [] G I Q := by
  refine XF.lift (pc2 := 6) (ls2 := [some (.ref 2), some (.int x1), some (.int x2), none]) (st2 := [.int 4, .int x2]) (I2 := I) ?_ (fun r I' hk => by
      refine XW.iload_n eX9_marks_4 rfl ?_
      refine XW.iconst (v := 4) eX9_marks_5 (by decide) ?_
      exact hk)
  obtain ⟨ht, hf⟩ := h
  refine XF.br (P := 4 ≤ x2) (fun c_6 => ?_) (fun c_6 => ?_)
  ·
    replace h := ht c_6
    refine XF.lift (pc2 := 66) (ls2 := [some (.ref 2), some (.int x1), some (.int x2), none]) (st2 := [.int x1]) (I2 := (wI I 2 7 (-1))) ?_ (fun r I' hk => by
        refine XW.icmp_ge eX9_marks_6 (fun _ => ?_) (fun z => absurd c_6 z)
        refine XW.aload_n eX9_marks_60 rfl ?_
        refine XW.iconst (v := (-1)) eX9_marks_61 (by decide) ?_
        refine XW.putI eX9_marks_62 f9_47_9 (xP_of rfl (by decide)) rfl ⟨rfl, rfl⟩ (so_2 hs) ?_
        refine XW.iload_n eX9_marks_65 rfl ?_
        exact hk)
    exact ⟨x1, (wI I 2 7 (-1)), XW.iret eX9_marks_66 rfl rfl rfl rfl rfl, h⟩
  ·
    replace h := hf c_6
    obtain ⟨q_14, h⟩ := h
    refine XF.lift (pc2 := 18) (ls2 := [some (.ref 2), some (.int x1), some (.int x2), none]) (st2 := [.int (I (49 + 3 * x2.toNatClampNeg) 3)]) (I2 := I) ?_ (fun r I' hk => by
        refine XW.icmp_ge eX9_marks_6 (fun z => absurd z c_6) (fun _ => ?_)
        refine XW.aload_n eX9_marks_9 rfl ?_
        refine XW.getR (b := 6) eX9_marks_10 f9_18_9 rfl (so_2 hs) (sr_2_1 hs) ?_
        refine XW.iload_n eX9_marks_13 rfl ?_
        refine XW.aaload (b := (49 + 3 * x2.toNatClampNeg)) eX9_marks_14 (sa_6 hs) ⟨by decide, rfl⟩ q_14 (sq6 hs q_14) ?_
        refine XW.getI eX9_marks_15 f9_170_4 rfl (so6 hs q_14).1 ?_
        exact hk)
    obtain ⟨ht, hf⟩ := h
    refine XF.br (P := (I (49 + 3 * x2.toNatClampNeg) 3) = 0) (fun c_18 => ?_) (fun c_18 => ?_)
    ·
      replace h := ht c_18
      refine XF.lift (pc2 := 4) (ls2 := [some (.ref 2), some (.int x1), some (.int (x2 + 1)), none]) (st2 := []) (I2 := I) ?_ (fun r I' hk => by
          refine XW.if_eq eX9_marks_18 (fun _ => ?_) (fun z => absurd c_18 z)
          refine XW.iinc (y := (x2 + 1)) (ls' := [some (.ref 2), some (.int x1), some (.int (x2 + 1)), none]) eX9_marks_54 rfl rfl rfl ?_
          refine XW.goto eX9_marks_57 ?_
          exact hk)
      exact h
    ·
      replace h := hf c_18
      refine XF.lift (pc2 := 31) (ls2 := [some (.ref 2), some (.int x1), some (.int x2), none]) (st2 := [.ref (49 + 3 * x2.toNatClampNeg), .ref 44]) (I2 := I) ?_ (fun r I' hk => by
          refine XW.if_eq eX9_marks_18 (fun z => absurd z c_18) (fun _ => ?_)
          refine XW.aload_n eX9_marks_21 rfl ?_
          refine XW.getR (b := 44) eX9_marks_22 f9_43_9 rfl (so_2 hs) (sr_2_5 hs) ?_
          refine XW.aload_n eX9_marks_25 rfl ?_
          refine XW.getR (b := 6) eX9_marks_26 f9_18_9 rfl (so_2 hs) (sr_2_1 hs) ?_
          refine XW.iload_n eX9_marks_29 rfl ?_
          refine XW.aaload (b := (49 + 3 * x2.toNatClampNeg)) eX9_marks_30 (sa_6 hs) ⟨by decide, rfl⟩ q_14 (sq6 hs q_14) ?_
          exact hk)
      obtain ⟨Qc, hc, h⟩ := h
      refine XF.call (nx := 34) (st := []) hc (fun v I1 r I' hY hk => XW.callV (As := [.ref (49 + 3 * x2.toNatClampNeg)]) (st := []) eX9_marks_31 okX0_leastShare cv9_218 rfl (so_44 hs) hY (xnum rfl rfl rfl rfl rfl) hk) (fun v_31 I_31 hq => ?_)
      replace h := h v_31 I_31 hq
      refine XF.lift (pc2 := 37) (ls2 := [some (.ref 2), some (.int x1), some (.int x2), some (.int v_31)]) (st2 := [.int (-1), .int v_31]) (I2 := I_31) ?_ (fun r I' hk => by
          refine XW.istore_n (ls' := [some (.ref 2), some (.int x1), some (.int x2), some (.int v_31)]) eX9_marks_34 (Nat.le_of_ble_eq_true rfl) rfl ?_
          refine XW.iload_n eX9_marks_35 rfl ?_
          refine XW.iconst (v := (-1)) eX9_marks_36 (by decide) ?_
          exact hk)
      obtain ⟨ht, hf⟩ := h
      refine XF.br (P := v_31 = (-1)) (fun c_37 => ?_) (fun c_37 => ?_)
      ·
        replace h := ht c_37
        refine XF.lift (pc2 := 47) (ls2 := [some (.ref 2), some (.int x1), some (.int x2), some (.int v_31)]) (st2 := [.int (-2)]) (I2 := (wI I_31 2 7 x2)) ?_ (fun r I' hk => by
            refine XW.icmp_ne eX9_marks_37 (fun z => absurd c_37 z) (fun _ => ?_)
            refine XW.aload_n eX9_marks_40 rfl ?_
            refine XW.iload_n eX9_marks_41 rfl ?_
            refine XW.putI eX9_marks_42 f9_47_9 (xP_of rfl (by decide)) rfl ⟨rfl, rfl⟩ (so_2 hs) ?_
            refine XW.bipush (v := (-2)) eX9_marks_45 (by decide) ?_
            exact hk)
        exact ⟨(-2), (wI I_31 2 7 x2), XW.iret eX9_marks_47 rfl rfl rfl rfl rfl, h⟩
      ·
        replace h := hf c_37
        refine XF.lift (pc2 := 4) (ls2 := [some (.ref 2), some (.int (if x1 < v_31 then v_31 else x1)), some (.int (x2 + 1)), none]) (st2 := []) (I2 := I_31) ?_ (fun r I' hk => by
            refine XW.icmp_ne eX9_marks_37 (fun _ => ?_) (fun z => absurd z c_37)
            refine XW.iload_n eX9_marks_48 rfl ?_
            refine XW.iload_n eX9_marks_49 rfl ?_
            refine XW.mmax eX9_marks_50 mx9_221 (Nat.le_of_ble_eq_true rfl) (Nat.le_of_ble_eq_true rfl) ⟨Nat.le_refl _, Nat.le_refl _⟩ ?_
            refine XW.istore_n (ls' := [some (.ref 2), some (.int (if x1 < v_31 then v_31 else x1)), some (.int x2), some (.int v_31)]) eX9_marks_53 (Nat.le_of_ble_eq_true rfl) rfl ?_
            refine XW.iinc (y := (x2 + 1)) (ls' := [some (.ref 2), some (.int (if x1 < v_31 then v_31 else x1)), some (.int (x2 + 1)), some (.int v_31)]) eX9_marks_54 rfl rfl rfl ?_
            refine XW.goto eX9_marks_57 ?_
            refine XW.forget 3 rfl ?_
            exact hk)
        exact h
set_option maxRecDepth 100000 in
set_option maxHeartbeats 4000000 in
theorem VX9_witness {l : Launch} {C : xC} {G : xG} (hs : SH G)  (I : xI) {Q : Int32 → xI → Prop} (h :
    Q (I 2 7) I) : XF fI l C mX9_witness 0 (xent mX9_witness [.ref 2]) [] G I Q := by
  show XF fI l C mX9_witness 0 [some (.ref 2)] [] G I Q
  refine XF.lift (pc2 := 4) (ls2 := [some (.ref 2)]) (st2 := [.int (I 2 7)]) (I2 := I) ?_ (fun r I' hk => by
      refine XW.aload_n eX9_witness_0 rfl ?_
      refine XW.getI eX9_witness_1 f9_47_9 rfl (so_2 hs) ?_
      exact hk)
  exact ⟨(I 2 7), I, XW.iret eX9_witness_4 rfl rfl rfl rfl rfl, h⟩
