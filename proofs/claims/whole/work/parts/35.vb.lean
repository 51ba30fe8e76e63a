/-! what is left to show of each method -/
set_option maxRecDepth 100000 in
set_option maxHeartbeats 4000000 in
theorem VX5_settleb {l : Launch} {C : xC} {G : xG} (hs : SH G)  (I : xI) (y1 y2 y3 : Int32) {Q : Unit → xI → Prop} (h :
    vp_in y1 80 ∧ Q () (wI (wI I 30 y1.toNatClampNeg y2) 31 y1.toNatClampNeg y3)) : XF fV l C mX5_settle 0 (xent mX5_settle [.ref 26, .int y1, .int y2, .int y3]) [] G I Q := by
  show XF fV l C mX5_settle 0 [some (.ref 26), some (.int y1), some (.int y2), some (.int y3)] [] G I Q
  obtain ⟨q_6, h⟩ := h
  refine XF.lift (pc2 := 14) (ls2 := [some (.ref 26), some (.int y1), some (.int y2), some (.int y3)]) (st2 := []) (I2 := (wI (wI I 30 y1.toNatClampNeg y2) 31 y1.toNatClampNeg y3)) ?_ (fun r I' hk => by
      refine XW.aload_n eX5_settle_0 rfl ?_
      refine XW.getR (b := 30) eX5_settle_1 f5_24_5 rfl (so_26 hs) (sr_26_4 hs) ?_
      refine XW.iload_n eX5_settle_4 rfl ?_
      refine XW.iload_n eX5_settle_5 rfl ?_
      refine XW.iastore eX5_settle_6 (sa_30 hs) q_6 ?_
      refine XW.aload_n eX5_settle_7 rfl ?_
      refine XW.getR (b := 31) eX5_settle_8 f5_27_5 rfl (so_26 hs) (sr_26_5 hs) ?_
      refine XW.iload_n eX5_settle_11 rfl ?_
      refine XW.iload_n eX5_settle_12 rfl ?_
      refine XW.iastore eX5_settle_13 (sa_31 hs) q_6 ?_
      exact hk)
  exact ⟨(), (wI (wI I 30 y1.toNatClampNeg y2) 31 y1.toNatClampNeg y3), XW.vret eX5_settle_14 rfl rfl rfl rfl, h⟩
set_option maxRecDepth 100000 in
set_option maxHeartbeats 4000000 in
theorem VX5_waitsb {l : Launch} {C : xC} {G : xG} (hs : SH G)  (I : xI) (y1 : Int32) {Q : Int32 → xI → Prop} (h :
    (((I 26 11) = 0 → Q 0 I) ∧ (¬ ((I 26 11) = 0) → vp_in y1 4 ∧ LN G (gR G 4 y1.toNatClampNeg) ∧ ((gT G (gR G 4 y1.toNatClampNeg) = 1 → Q 1 I) ∧ (¬ (gT G (gR G 4 y1.toNatClampNeg) = 1) → Q 0 I))))) : XF fI l C mX5_waits 0 (xent mX5_waits [.ref 26, .int y1]) [] G I Q := by
  show XF fI l C mX5_waits 0 [some (.ref 26), some (.int y1)] [] G I Q
  refine XF.lift (pc2 := 4) (ls2 := [some (.ref 26), some (.int y1)]) (st2 := [.int (I 26 11)]) (I2 := I) ?_ (fun r I' hk => by
      refine XW.aload_n eX5_waits_0 rfl ?_
      refine XW.getI eX5_waits_1 f5_55_5 rfl (so_26 hs) ?_
      exact hk)
  obtain ⟨ht, hf⟩ := h
  refine XF.br (P := (I 26 11) = 0) (fun c_4 => ?_) (fun c_4 => ?_)
  ·
    replace h := ht c_4
    refine XF.lift (pc2 := 27) (ls2 := [some (.ref 26), some (.int y1)]) (st2 := [.int 0]) (I2 := I) ?_ (fun r I' hk => by
        refine XW.if_eq eX5_waits_4 (fun _ => ?_) (fun z => absurd c_4 z)
        refine XW.iconst (v := 0) eX5_waits_26 (by decide) ?_
        exact hk)
    exact ⟨0, I, XW.iret eX5_waits_27 rfl rfl rfl rfl rfl, h⟩
  ·
    replace h := hf c_4
    obtain ⟨q_15, h⟩ := h
    obtain ⟨n_16, h⟩ := h
    refine XF.lift (pc2 := 19) (ls2 := [some (.ref 26), some (.int y1)]) (st2 := [.int (bI (gT G (gR G 4 y1.toNatClampNeg) = 1))]) (I2 := I) ?_ (fun r I' hk => by
        refine XW.if_eq eX5_waits_4 (fun z => absurd z c_4) (fun _ => ?_)
        refine XW.aload_n eX5_waits_7 rfl ?_
        refine XW.getR (b := 3) eX5_waits_8 f5_42_5 rfl (so_26 hs) (sr_26_0 hs) ?_
        refine XW.getR (b := 4) eX5_waits_11 f5_125_6 rfl (so_3 hs) (sr_3_0 hs) ?_
        refine XW.iload_n eX5_waits_14 rfl ?_
        refine XW.aaload (b := (gR G 4 y1.toNatClampNeg)) eX5_waits_15 (sa_4 hs) ⟨by decide, rfl⟩ q_15 rfl ?_
        refine XW.isHeld eX5_waits_16 cl5_129 n_16 ?_
        exact hk)
    obtain ⟨ht, hf⟩ := h
    refine XF.br (P := gT G (gR G 4 y1.toNatClampNeg) = 1) (fun c_19 => ?_) (fun c_19 => ?_)
    ·
      replace h := ht c_19
      refine XF.lift (pc2 := 27) (ls2 := [some (.ref 26), some (.int y1)]) (st2 := [.int 1]) (I2 := I) ?_ (fun r I' hk => by
          refine XW.if_eqB eX5_waits_19 (fun z => absurd c_19 z) (fun _ => ?_)
          refine XW.iconst (v := 1) eX5_waits_22 (by decide) ?_
          refine XW.goto eX5_waits_23 ?_
          exact hk)
      exact ⟨1, I, XW.iret eX5_waits_27 rfl rfl rfl rfl rfl, h⟩
    ·
      replace h := hf c_19
      refine XF.lift (pc2 := 27) (ls2 := [some (.ref 26), some (.int y1)]) (st2 := [.int 0]) (I2 := I) ?_ (fun r I' hk => by
          refine XW.if_eqB eX5_waits_19 (fun _ => ?_) (fun z => absurd z c_19)
          refine XW.iconst (v := 0) eX5_waits_26 (by decide) ?_
          exact hk)
      exact ⟨0, I, XW.iret eX5_waits_27 rfl rfl rfl rfl rfl, h⟩
set_option maxRecDepth 100000 in
set_option maxHeartbeats 4000000 in
theorem VX5_isHaltedb {l : Launch} {C : xC} {G : xG} (hs : SH G)  (I : xI) (y1 : Int32) {Q : Int32 → xI → Prop} (h :
    vp_in y1 4 ∧ LN G (gR G 4 y1.toNatClampNeg) ∧ ((gT G (gR G 4 y1.toNatClampNeg) = 1 → (((((I 34 y1.toNatClampNeg) >>> ((I (gR G 4 y1.toNatClampNeg) 5) &&& 31)) &&& 1) = 1 → Q 1 I) ∧ (¬ ((((I 34 y1.toNatClampNeg) >>> ((I (gR G 4 y1.toNatClampNeg) 5) &&& 31)) &&& 1) = 1) → Q 0 I))) ∧ (¬ (gT G (gR G 4 y1.toNatClampNeg) = 1) → Q 0 I))) : XF fI l C mX5_isHalted 0 (xent mX5_isHalted [.ref 26, .int y1]) [] G I Q := by
  show XF fI l C mX5_isHalted 0 [some (.ref 26), some (.int y1), none, none] [] G I Q
  obtain ⟨q_8, h⟩ := h
  obtain ⟨n_11, h⟩ := h
  refine XF.lift (pc2 := 14) (ls2 := [some (.ref 26), some (.int y1), none, some (.ref (gR G 4 y1.toNatClampNeg))]) (st2 := [.int (bI (gT G (gR G 4 y1.toNatClampNeg) = 1))]) (I2 := I) ?_ (fun r I' hk => by
      refine XW.aload_n eX5_isHalted_0 rfl ?_
      refine XW.getR (b := 3) eX5_isHalted_1 f5_42_5 rfl (so_26 hs) (sr_26_0 hs) ?_
      refine XW.getR (b := 4) eX5_isHalted_4 f5_125_6 rfl (so_3 hs) (sr_3_0 hs) ?_
      refine XW.iload_n eX5_isHalted_7 rfl ?_
      refine XW.aaload (b := (gR G 4 y1.toNatClampNeg)) eX5_isHalted_8 (sa_4 hs) ⟨by decide, rfl⟩ q_8 rfl ?_
      refine XW.astore_n (ls' := [some (.ref 26), some (.int y1), none, some (.ref (gR G 4 y1.toNatClampNeg))]) eX5_isHalted_9 (Nat.le_of_ble_eq_true rfl) rfl ?_
      refine XW.aload_n eX5_isHalted_10 rfl ?_
      refine XW.isHeld eX5_isHalted_11 cl5_129 n_11 ?_
      exact hk)
  obtain ⟨ht, hf⟩ := h
  refine XF.br (P := gT G (gR G 4 y1.toNatClampNeg) = 1) (fun c_14 => ?_) (fun c_14 => ?_)
  ·
    replace h := ht c_14
    refine XF.lift (pc2 := 36) (ls2 := [some (.ref 26), some (.int y1), some (.ref (gR G 4 y1.toNatClampNeg)), some (.ref (gR G 4 y1.toNatClampNeg))]) (st2 := [.int 1, .int (((I 34 y1.toNatClampNeg) >>> ((I (gR G 4 y1.toNatClampNeg) 5) &&& 31)) &&& 1)]) (I2 := I) ?_ (fun r I' hk => by
        refine XW.if_eqB eX5_isHalted_14 (fun z => absurd c_14 z) (fun _ => ?_)
        refine XW.aload_n eX5_isHalted_17 rfl ?_
        refine XW.cast (q := (RX1, TX1, 6)) eX5_isHalted_18 (n_11.held c_14) rfl cl5_129 (Or.inl rfl) ?_
        refine XW.astore_n (ls' := [some (.ref 26), some (.int y1), some (.ref (gR G 4 y1.toNatClampNeg)), some (.ref (gR G 4 y1.toNatClampNeg))]) eX5_isHalted_21 (Nat.le_of_ble_eq_true rfl) rfl ?_
        refine XW.aload_n eX5_isHalted_22 rfl ?_
        refine XW.getR (b := 34) eX5_isHalted_23 f5_36_5 rfl (so_26 hs) (sr_26_8 hs) ?_
        refine XW.iload_n eX5_isHalted_26 rfl ?_
        refine XW.iaload eX5_isHalted_27 (sa_34 hs) q_8 ?_
        refine XW.aload_n eX5_isHalted_28 rfl ?_
        refine XW.getI eX5_isHalted_29 f5_131_1 rfl (n_11.held c_14) ?_
        refine XW.ishr eX5_isHalted_32 ?_
        refine XW.iconst (v := 1) eX5_isHalted_33 (by decide) ?_
        refine XW.iand eX5_isHalted_34 ?_
        refine XW.iconst (v := 1) eX5_isHalted_35 (by decide) ?_
        exact hk)
    obtain ⟨ht, hf⟩ := h
    refine XF.br (P := (((I 34 y1.toNatClampNeg) >>> ((I (gR G 4 y1.toNatClampNeg) 5) &&& 31)) &&& 1) = 1) (fun c_36 => ?_) (fun c_36 => ?_)
    ·
      replace h := ht c_36
      refine XF.lift (pc2 := 44) (ls2 := [some (.ref 26), some (.int y1), some (.ref (gR G 4 y1.toNatClampNeg)), some (.ref (gR G 4 y1.toNatClampNeg))]) (st2 := [.int 1]) (I2 := I) ?_ (fun r I' hk => by
          refine XW.icmp_ne eX5_isHalted_36 (fun z => absurd c_36 z) (fun _ => ?_)
          refine XW.iconst (v := 1) eX5_isHalted_39 (by decide) ?_
          refine XW.goto eX5_isHalted_40 ?_
          exact hk)
      exact ⟨1, I, XW.iret eX5_isHalted_44 rfl rfl rfl rfl rfl, h⟩
    ·
      replace h := hf c_36
      refine XF.lift (pc2 := 44) (ls2 := [some (.ref 26), some (.int y1), some (.ref (gR G 4 y1.toNatClampNeg)), some (.ref (gR G 4 y1.toNatClampNeg))]) (st2 := [.int 0]) (I2 := I) ?_ (fun r I' hk => by
          refine XW.icmp_ne eX5_isHalted_36 (fun _ => ?_) (fun z => absurd z c_36)
          refine XW.iconst (v := 0) eX5_isHalted_43 (by decide) ?_
          exact hk)
      exact ⟨0, I, XW.iret eX5_isHalted_44 rfl rfl rfl rfl rfl, h⟩
  ·
    replace h := hf c_14
    refine XF.lift (pc2 := 44) (ls2 := [some (.ref 26), some (.int y1), none, some (.ref (gR G 4 y1.toNatClampNeg))]) (st2 := [.int 0]) (I2 := I) ?_ (fun r I' hk => by
        refine XW.if_eqB eX5_isHalted_14 (fun _ => ?_) (fun z => absurd z c_14)
        refine XW.iconst (v := 0) eX5_isHalted_43 (by decide) ?_
        exact hk)
    exact ⟨0, I, XW.iret eX5_isHalted_44 rfl rfl rfl rfl rfl, h⟩
set_option maxRecDepth 100000 in
set_option maxHeartbeats 4000000 in
theorem VX5_nextWaitingb {l : Launch} {C : xC} {G : xG} (hs : SH G)  {w : Nat} (hw : RW G w) (hw0 : 49 ≤ w) (I : xI) (y2 : Int32) {Q : Int32 → xI → Prop} (h :
    vp_in y2 4 ∧ XF fI l C mX5_nextWaiting 7 [some (.ref 26), some (.ref w), some (.int y2), some (.int (I 35 y2.toNatClampNeg))] [] G I Q) : XF fI l C mX5_nextWaiting 0 (xent mX5_nextWaiting [.ref 26, .ref w, .int y2]) [] G I Q := by
  show XF fI l C mX5_nextWaiting 0 [some (.ref 26), some (.ref w), some (.int y2), none] [] G I Q
  obtain ⟨q_5, h⟩ := h
  refine XF.lift (pc2 := 7) (ls2 := [some (.ref 26), some (.ref w), some (.int y2), some (.int (I 35 y2.toNatClampNeg))]) (st2 := []) (I2 := I) ?_ (fun r I' hk => by
      refine XW.aload_n eX5_nextWaiting_0 rfl ?_
      refine XW.getR (b := 35) eX5_nextWaiting_1 f5_39_5 rfl (so_26 hs) (sr_26_9 hs) ?_
      refine XW.iload_n eX5_nextWaiting_4 rfl ?_
      refine XW.iaload eX5_nextWaiting_5 (sa_35 hs) q_5 ?_
      refine XW.istore_n (ls' := [some (.ref 26), some (.ref w), some (.int y2), some (.int (I 35 y2.toNatClampNeg))]) eX5_nextWaiting_6 (Nat.le_of_ble_eq_true rfl) rfl ?_
      exact hk)
  exact h
set_option maxRecDepth 100000 in
set_option maxHeartbeats 4000000 in
theorem VX5_nextWaitingb_7 {l : Launch} {C : xC} {G : xG} (hs : SH G)  {w : Nat} (hw : RW G w) (hw0 : 49 ≤ w) (I : xI) (x2 x3 : Int32) {Q : Int32 → xI → Prop} (h :
    (((I w 2) ≤ x3 → vp_in x2 4 ∧ ((((wI I 35 x2.toNatClampNeg x3) w 2) ≤ x3 → Q (-1) (wI I 35 x2.toNatClampNeg x3)) ∧ (¬ (((wI I 35 x2.toNatClampNeg x3) w 2) ≤ x3) → vp_in x3 80 ∧ (((I 26 12) < ((wI I 35 x2.toNatClampNeg x3) (w + 1) x3.toNatClampNeg) → Q (-1) (wI I 35 x2.toNatClampNeg x3)) ∧ (¬ ((I 26 12) < ((wI I 35 x2.toNatClampNeg x3) (w + 1) x3.toNatClampNeg)) → Q x3 (wI I 35 x2.toNatClampNeg x3)))))) ∧ (¬ ((I w 2) ≤ x3) → vp_in x3 80 ∧ (((I 26 12) < (I (w + 1) x3.toNatClampNeg) → vp_in x2 4 ∧ ((((wI I 35 x2.toNatClampNeg x3) w 2) ≤ x3 → Q (-1) (wI I 35 x2.toNatClampNeg x3)) ∧ (¬ (((wI I 35 x2.toNatClampNeg x3) w 2) ≤ x3) → (((I 26 12) < ((wI I 35 x2.toNatClampNeg x3) (w + 1) x3.toNatClampNeg) → Q (-1) (wI I 35 x2.toNatClampNeg x3)) ∧ (¬ ((I 26 12) < ((wI I 35 x2.toNatClampNeg x3) (w + 1) x3.toNatClampNeg)) → Q x3 (wI I 35 x2.toNatClampNeg x3)))))) ∧ (¬ ((I 26 12) < (I (w + 1) x3.toNatClampNeg)) → (((I (w + 2) x3.toNatClampNeg) = x2 → vp_in x2 4 ∧ ((((wI I 35 x2.toNatClampNeg x3) w 2) ≤ x3 → Q (-1) (wI I 35 x2.toNatClampNeg x3)) ∧ (¬ (((wI I 35 x2.toNatClampNeg x3) w 2) ≤ x3) → (((I 26 12) < ((wI I 35 x2.toNatClampNeg x3) (w + 1) x3.toNatClampNeg) → Q (-1) (wI I 35 x2.toNatClampNeg x3)) ∧ (¬ ((I 26 12) < ((wI I 35 x2.toNatClampNeg x3) (w + 1) x3.toNatClampNeg)) → Q x3 (wI I 35 x2.toNatClampNeg x3)))))) ∧ (¬ ((I (w + 2) x3.toNatClampNeg) = x2) → XF fI l C mX5_nextWaiting 7 [some (.ref 26), some (.ref w), some (.int x2), some (.int (x3 + 1))] [] G I Q))))))) : XF fI l C mX5_nextWaiting 7 [some (.ref 26), some (.ref w), some (.int x2), some (.int x3)] [] G I Q := by
  refine XF.lift (pc2 := 12) (ls2 := [some (.ref 26), some (.ref w), some (.int x2), some (.int x3)]) (st2 := [.int (I w 2), .int x3]) (I2 := I) ?_ (fun r I' hk => by
      refine XW.iload_n eX5_nextWaiting_7 rfl ?_
      refine XW.aload_n eX5_nextWaiting_8 rfl ?_
      refine XW.getI eX5_nextWaiting_9 f5_86_4 rfl hw.1 ?_
      exact hk)
  obtain ⟨ht, hf⟩ := h
  refine XF.br (P := (I w 2) ≤ x3) (fun c_12 => ?_) (fun c_12 => ?_)
  ·
    replace h := ht c_12
    obtain ⟨q_50, h⟩ := h
    refine XF.lift (pc2 := 56) (ls2 := [some (.ref 26), some (.ref w), some (.int x2), some (.int x3)]) (st2 := [.int ((wI I 35 x2.toNatClampNeg x3) w 2), .int x3]) (I2 := (wI I 35 x2.toNatClampNeg x3)) ?_ (fun r I' hk => by
        refine XW.icmp_ge eX5_nextWaiting_12 (fun _ => ?_) (fun z => absurd c_12 z)
        refine XW.aload_n eX5_nextWaiting_44 rfl ?_
        refine XW.getR (b := 35) eX5_nextWaiting_45 f5_39_5 rfl (so_26 hs) (sr_26_9 hs) ?_
        refine XW.iload_n eX5_nextWaiting_48 rfl ?_
        refine XW.iload_n eX5_nextWaiting_49 rfl ?_
        refine XW.iastore eX5_nextWaiting_50 (sa_35 hs) q_50 ?_
        refine XW.iload_n eX5_nextWaiting_51 rfl ?_
        refine XW.aload_n eX5_nextWaiting_52 rfl ?_
        refine XW.getI eX5_nextWaiting_53 f5_86_4 rfl hw.1 ?_
        exact hk)
    obtain ⟨ht, hf⟩ := h
    refine XF.br (P := ((wI I 35 x2.toNatClampNeg x3) w 2) ≤ x3) (fun c_56 => ?_) (fun c_56 => ?_)
    ·
      replace h := ht c_56
      refine XF.lift (pc2 := 77) (ls2 := [some (.ref 26), some (.ref w), some (.int x2), some (.int x3)]) (st2 := [.int (-1)]) (I2 := (wI I 35 x2.toNatClampNeg x3)) ?_ (fun r I' hk => by
          refine XW.icmp_ge eX5_nextWaiting_56 (fun _ => ?_) (fun z => absurd c_56 z)
          refine XW.iconst (v := (-1)) eX5_nextWaiting_76 (by decide) ?_
          exact hk)
      exact ⟨(-1), (wI I 35 x2.toNatClampNeg x3), XW.iret eX5_nextWaiting_77 rfl rfl rfl rfl rfl, h⟩
    ·
      replace h := hf c_56
      obtain ⟨q_64, h⟩ := h
      refine XF.lift (pc2 := 69) (ls2 := [some (.ref 26), some (.ref w), some (.int x2), some (.int x3)]) (st2 := [.int (I 26 12), .int ((wI I 35 x2.toNatClampNeg x3) (w + 1) x3.toNatClampNeg)]) (I2 := (wI I 35 x2.toNatClampNeg x3)) ?_ (fun r I' hk => by
          refine XW.icmp_ge eX5_nextWaiting_56 (fun z => absurd z c_56) (fun _ => ?_)
          refine XW.aload_n eX5_nextWaiting_59 rfl ?_
          refine XW.getR (b := (w + 1)) eX5_nextWaiting_60 f5_134_4 rfl hw.1 hw.2.1 ?_
          refine XW.iload_n eX5_nextWaiting_63 rfl ?_
          refine XW.iaload eX5_nextWaiting_64 hw.2.2.2.1 q_64 ?_
          refine XW.aload_n eX5_nextWaiting_65 rfl ?_
          refine XW.getI eX5_nextWaiting_66 f5_65_5 rfl (so_26 hs) ?_
          exact hk)
      obtain ⟨ht, hf⟩ := h
      refine XF.br (P := (I 26 12) < ((wI I 35 x2.toNatClampNeg x3) (w + 1) x3.toNatClampNeg)) (fun c_69 => ?_) (fun c_69 => ?_)
      ·
        replace h := ht c_69
        refine XF.lift (pc2 := 77) (ls2 := [some (.ref 26), some (.ref w), some (.int x2), some (.int x3)]) (st2 := [.int (-1)]) (I2 := (wI I 35 x2.toNatClampNeg x3)) ?_ (fun r I' hk => by
            refine XW.icmp_gt eX5_nextWaiting_69 (fun _ => ?_) (fun z => absurd c_69 z)
            refine XW.iconst (v := (-1)) eX5_nextWaiting_76 (by decide) ?_
            exact hk)
        exact ⟨(-1), (wI I 35 x2.toNatClampNeg x3), XW.iret eX5_nextWaiting_77 rfl rfl rfl rfl rfl, h⟩
      ·
        replace h := hf c_69
        refine XF.lift (pc2 := 77) (ls2 := [some (.ref 26), some (.ref w), some (.int x2), some (.int x3)]) (st2 := [.int x3]) (I2 := (wI I 35 x2.toNatClampNeg x3)) ?_ (fun r I' hk => by
            refine XW.icmp_gt eX5_nextWaiting_69 (fun z => absurd z c_69) (fun _ => ?_)
            refine XW.iload_n eX5_nextWaiting_72 rfl ?_
            refine XW.goto eX5_nextWaiting_73 ?_
            exact hk)
        exact ⟨x3, (wI I 35 x2.toNatClampNeg x3), XW.iret eX5_nextWaiting_77 rfl rfl rfl rfl rfl, h⟩
  ·
    replace h := hf c_12
    obtain ⟨q_20, h⟩ := h
    refine XF.lift (pc2 := 25) (ls2 := [some (.ref 26), some (.ref w), some (.int x2), some (.int x3)]) (st2 := [.int (I 26 12), .int (I (w + 1) x3.toNatClampNeg)]) (I2 := I) ?_ (fun r I' hk => by
        refine XW.icmp_ge eX5_nextWaiting_12 (fun z => absurd z c_12) (fun _ => ?_)
        refine XW.aload_n eX5_nextWaiting_15 rfl ?_
        refine XW.getR (b := (w + 1)) eX5_nextWaiting_16 f5_134_4 rfl hw.1 hw.2.1 ?_
        refine XW.iload_n eX5_nextWaiting_19 rfl ?_
        refine XW.iaload eX5_nextWaiting_20 hw.2.2.2.1 q_20 ?_
        refine XW.aload_n eX5_nextWaiting_21 rfl ?_
        refine XW.getI eX5_nextWaiting_22 f5_65_5 rfl (so_26 hs) ?_
        exact hk)
    obtain ⟨ht, hf⟩ := h
    refine XF.br (P := (I 26 12) < (I (w + 1) x3.toNatClampNeg)) (fun c_25 => ?_) (fun c_25 => ?_)
    ·
      replace h := ht c_25
      obtain ⟨q_50, h⟩ := h
      refine XF.lift (pc2 := 56) (ls2 := [some (.ref 26), some (.ref w), some (.int x2), some (.int x3)]) (st2 := [.int ((wI I 35 x2.toNatClampNeg x3) w 2), .int x3]) (I2 := (wI I 35 x2.toNatClampNeg x3)) ?_ (fun r I' hk => by
          refine XW.icmp_gt eX5_nextWaiting_25 (fun _ => ?_) (fun z => absurd c_25 z)
          refine XW.aload_n eX5_nextWaiting_44 rfl ?_
          refine XW.getR (b := 35) eX5_nextWaiting_45 f5_39_5 rfl (so_26 hs) (sr_26_9 hs) ?_
          refine XW.iload_n eX5_nextWaiting_48 rfl ?_
          refine XW.iload_n eX5_nextWaiting_49 rfl ?_
          refine XW.iastore eX5_nextWaiting_50 (sa_35 hs) q_50 ?_
          refine XW.iload_n eX5_nextWaiting_51 rfl ?_
          refine XW.aload_n eX5_nextWaiting_52 rfl ?_
          refine XW.getI eX5_nextWaiting_53 f5_86_4 rfl hw.1 ?_
          exact hk)
      obtain ⟨ht, hf⟩ := h
      refine XF.br (P := ((wI I 35 x2.toNatClampNeg x3) w 2) ≤ x3) (fun c_56 => ?_) (fun c_56 => ?_)
      ·
        replace h := ht c_56
        refine XF.lift (pc2 := 77) (ls2 := [some (.ref 26), some (.ref w), some (.int x2), some (.int x3)]) (st2 := [.int (-1)]) (I2 := (wI I 35 x2.toNatClampNeg x3)) ?_ (fun r I' hk => by
            refine XW.icmp_ge eX5_nextWaiting_56 (fun _ => ?_) (fun z => absurd c_56 z)
            refine XW.iconst (v := (-1)) eX5_nextWaiting_76 (by decide) ?_
            exact hk)
        exact ⟨(-1), (wI I 35 x2.toNatClampNeg x3), XW.iret eX5_nextWaiting_77 rfl rfl rfl rfl rfl, h⟩
      ·
        replace h := hf c_56
        refine XF.lift (pc2 := 69) (ls2 := [some (.ref 26), some (.ref w), some (.int x2), some (.int x3)]) (st2 := [.int (I 26 12), .int ((wI I 35 x2.toNatClampNeg x3) (w + 1) x3.toNatClampNeg)]) (I2 := (wI I 35 x2.toNatClampNeg x3)) ?_ (fun r I' hk => by
            refine XW.icmp_ge eX5_nextWaiting_56 (fun z => absurd z c_56) (fun _ => ?_)
            refine XW.aload_n eX5_nextWaiting_59 rfl ?_
            refine XW.getR (b := (w + 1)) eX5_nextWaiting_60 f5_134_4 rfl hw.1 hw.2.1 ?_
            refine XW.iload_n eX5_nextWaiting_63 rfl ?_
            refine XW.iaload eX5_nextWaiting_64 hw.2.2.2.1 q_20 ?_
            refine XW.aload_n eX5_nextWaiting_65 rfl ?_
            refine XW.getI eX5_nextWaiting_66 f5_65_5 rfl (so_26 hs) ?_
            exact hk)
        obtain ⟨ht, hf⟩ := h
        refine XF.br (P := (I 26 12) < ((wI I 35 x2.toNatClampNeg x3) (w + 1) x3.toNatClampNeg)) (fun c_69 => ?_) (fun c_69 => ?_)
        ·
          replace h := ht c_69
          refine XF.lift (pc2 := 77) (ls2 := [some (.ref 26), some (.ref w), some (.int x2), some (.int x3)]) (st2 := [.int (-1)]) (I2 := (wI I 35 x2.toNatClampNeg x3)) ?_ (fun r I' hk => by
              refine XW.icmp_gt eX5_nextWaiting_69 (fun _ => ?_) (fun z => absurd c_69 z)
              refine XW.iconst (v := (-1)) eX5_nextWaiting_76 (by decide) ?_
              exact hk)
          exact ⟨(-1), (wI I 35 x2.toNatClampNeg x3), XW.iret eX5_nextWaiting_77 rfl rfl rfl rfl rfl, h⟩
        ·
          replace h := hf c_69
          refine XF.lift (pc2 := 77) (ls2 := [some (.ref 26), some (.ref w), some (.int x2), some (.int x3)]) (st2 := [.int x3]) (I2 := (wI I 35 x2.toNatClampNeg x3)) ?_ (fun r I' hk => by
              refine XW.icmp_gt eX5_nextWaiting_69 (fun z => absurd z c_69) (fun _ => ?_)
              refine XW.iload_n eX5_nextWaiting_72 rfl ?_
              refine XW.goto eX5_nextWaiting_73 ?_
              exact hk)
          exact ⟨x3, (wI I 35 x2.toNatClampNeg x3), XW.iret eX5_nextWaiting_77 rfl rfl rfl rfl rfl, h⟩
    ·
      replace h := hf c_25
      refine XF.lift (pc2 := 35) (ls2 := [some (.ref 26), some (.ref w), some (.int x2), some (.int x3)]) (st2 := [.int x2, .int (I (w + 2) x3.toNatClampNeg)]) (I2 := I) ?_ (fun r I' hk => by
          refine XW.icmp_gt eX5_nextWaiting_25 (fun z => absurd z c_25) (fun _ => ?_)
          refine XW.aload_n eX5_nextWaiting_28 rfl ?_
          refine XW.getR (b := (w + 2)) eX5_nextWaiting_29 f5_100_4 rfl hw.1 hw.2.2.1 ?_
          refine XW.iload_n eX5_nextWaiting_32 rfl ?_
          refine XW.iaload eX5_nextWaiting_33 hw.2.2.2.2 q_20 ?_
          refine XW.iload_n eX5_nextWaiting_34 rfl ?_
          exact hk)
      obtain ⟨ht, hf⟩ := h
      refine XF.br (P := (I (w + 2) x3.toNatClampNeg) = x2) (fun c_35 => ?_) (fun c_35 => ?_)
      ·
        replace h := ht c_35
        obtain ⟨q_50, h⟩ := h
        refine XF.lift (pc2 := 56) (ls2 := [some (.ref 26), some (.ref w), some (.int x2), some (.int x3)]) (st2 := [.int ((wI I 35 x2.toNatClampNeg x3) w 2), .int x3]) (I2 := (wI I 35 x2.toNatClampNeg x3)) ?_ (fun r I' hk => by
            refine XW.icmp_eq eX5_nextWaiting_35 (fun _ => ?_) (fun z => absurd c_35 z)
            refine XW.aload_n eX5_nextWaiting_44 rfl ?_
            refine XW.getR (b := 35) eX5_nextWaiting_45 f5_39_5 rfl (so_26 hs) (sr_26_9 hs) ?_
            refine XW.iload_n eX5_nextWaiting_48 rfl ?_
            refine XW.iload_n eX5_nextWaiting_49 rfl ?_
            refine XW.iastore eX5_nextWaiting_50 (sa_35 hs) q_50 ?_
            refine XW.iload_n eX5_nextWaiting_51 rfl ?_
            refine XW.aload_n eX5_nextWaiting_52 rfl ?_
            refine XW.getI eX5_nextWaiting_53 f5_86_4 rfl hw.1 ?_
            exact hk)
        obtain ⟨ht, hf⟩ := h
        refine XF.br (P := ((wI I 35 x2.toNatClampNeg x3) w 2) ≤ x3) (fun c_56 => ?_) (fun c_56 => ?_)
        ·
          replace h := ht c_56
          refine XF.lift (pc2 := 77) (ls2 := [some (.ref 26), some (.ref w), some (.int x2), some (.int x3)]) (st2 := [.int (-1)]) (I2 := (wI I 35 x2.toNatClampNeg x3)) ?_ (fun r I' hk => by
              refine XW.icmp_ge eX5_nextWaiting_56 (fun _ => ?_) (fun z => absurd c_56 z)
              refine XW.iconst (v := (-1)) eX5_nextWaiting_76 (by decide) ?_
              exact hk)
          exact ⟨(-1), (wI I 35 x2.toNatClampNeg x3), XW.iret eX5_nextWaiting_77 rfl rfl rfl rfl rfl, h⟩
        ·
          replace h := hf c_56
          refine XF.lift (pc2 := 69) (ls2 := [some (.ref 26), some (.ref w), some (.int x2), some (.int x3)]) (st2 := [.int (I 26 12), .int ((wI I 35 x2.toNatClampNeg x3) (w + 1) x3.toNatClampNeg)]) (I2 := (wI I 35 x2.toNatClampNeg x3)) ?_ (fun r I' hk => by
              refine XW.icmp_ge eX5_nextWaiting_56 (fun z => absurd z c_56) (fun _ => ?_)
              refine XW.aload_n eX5_nextWaiting_59 rfl ?_
              refine XW.getR (b := (w + 1)) eX5_nextWaiting_60 f5_134_4 rfl hw.1 hw.2.1 ?_
              refine XW.iload_n eX5_nextWaiting_63 rfl ?_
              refine XW.iaload eX5_nextWaiting_64 hw.2.2.2.1 q_20 ?_
              refine XW.aload_n eX5_nextWaiting_65 rfl ?_
              refine XW.getI eX5_nextWaiting_66 f5_65_5 rfl (so_26 hs) ?_
              exact hk)
          obtain ⟨ht, hf⟩ := h
          refine XF.br (P := (I 26 12) < ((wI I 35 x2.toNatClampNeg x3) (w + 1) x3.toNatClampNeg)) (fun c_69 => ?_) (fun c_69 => ?_)
          ·
            replace h := ht c_69
            refine XF.lift (pc2 := 77) (ls2 := [some (.ref 26), some (.ref w), some (.int x2), some (.int x3)]) (st2 := [.int (-1)]) (I2 := (wI I 35 x2.toNatClampNeg x3)) ?_ (fun r I' hk => by
                refine XW.icmp_gt eX5_nextWaiting_69 (fun _ => ?_) (fun z => absurd c_69 z)
                refine XW.iconst (v := (-1)) eX5_nextWaiting_76 (by decide) ?_
                exact hk)
            exact ⟨(-1), (wI I 35 x2.toNatClampNeg x3), XW.iret eX5_nextWaiting_77 rfl rfl rfl rfl rfl, h⟩
          ·
            replace h := hf c_69
            refine XF.lift (pc2 := 77) (ls2 := [some (.ref 26), some (.ref w), some (.int x2), some (.int x3)]) (st2 := [.int x3]) (I2 := (wI I 35 x2.toNatClampNeg x3)) ?_ (fun r I' hk => by
                refine XW.icmp_gt eX5_nextWaiting_69 (fun z => absurd z c_69) (fun _ => ?_)
                refine XW.iload_n eX5_nextWaiting_72 rfl ?_
                refine XW.goto eX5_nextWaiting_73 ?_
                exact hk)
            exact ⟨x3, (wI I 35 x2.toNatClampNeg x3), XW.iret eX5_nextWaiting_77 rfl rfl rfl rfl rfl, h⟩
      ·
        replace h := hf c_35
        refine XF.lift (pc2 := 7) (ls2 := [some (.ref 26), some (.ref w), some (.int x2), some (.int (x3 + 1))]) (st2 := []) (I2 := I) ?_ (fun r I' hk => by
            refine XW.icmp_eq eX5_nextWaiting_35 (fun z => absurd z c_35) (fun _ => ?_)
            refine XW.iinc (y := (x3 + 1)) (ls' := [some (.ref 26), some (.ref w), some (.int x2), some (.int (x3 + 1))]) eX5_nextWaiting_38 rfl rfl rfl ?_
            refine XW.goto eX5_nextWaiting_41 ?_
            exact hk)
        exact h
set_option maxRecDepth 100000 in
set_option maxHeartbeats 4000000 in
theorem VX5_hasRoomBesideb {l : Launch} {C : xC} {G : xG} (hs : SH G)  (I : xI) {Q : Int32 → xI → Prop} (h :
    XF fI l C mX5_hasRoomBeside 4 [some (.ref 26), some (.int 0), some (.int 0)] [] G I Q) : XF fI l C mX5_hasRoomBeside 0 (xent mX5_hasRoomBeside [.ref 26]) [] G I Q := by
  show XF fI l C mX5_hasRoomBeside 0 [some (.ref 26), none, none] [] G I Q
  refine XF.lift (pc2 := 4) (ls2 := [some (.ref 26), some (.int 0), some (.int 0)]) (st2 := []) (I2 := I) ?_ (fun r I' hk => by
      refine XW.iconst (v := 0) eX5_hasRoomBeside_0 (by decide) ?_
      refine XW.istore_n (ls' := [some (.ref 26), some (.int 0), none]) eX5_hasRoomBeside_1 (Nat.le_of_ble_eq_true rfl) rfl ?_
      refine XW.iconst (v := 0) eX5_hasRoomBeside_2 (by decide) ?_
      refine XW.istore_n (ls' := [some (.ref 26), some (.int 0), some (.int 0)]) eX5_hasRoomBeside_3 (Nat.le_of_ble_eq_true rfl) rfl ?_
      exact hk)
  exact h
set_option maxRecDepth 100000 in
set_option maxHeartbeats 4000000 in
theorem VX5_hasRoomBesideb_4 {l : Launch} {C : xC} {G : xG} (hs : SH G)  (I : xI) (x1 x2 : Int32) {Q : Int32 → xI → Prop} (h :
    (((I 3 1) ≤ x2 → (((I 3 2) ≤ x1 → Q 0 I) ∧ (¬ ((I 3 2) ≤ x1) → Q 1 I))) ∧ (¬ ((I 3 1) ≤ x2) → vp_in x2 4 ∧ LN G (gR G 4 x2.toNatClampNeg) ∧ XF fI l C mX5_hasRoomBeside 4 [some (.ref 26), some (.int (x1 + (if (I (36 + 2 * x2.toNatClampNeg) 2) < (kpt G I (gR G 4 x2.toNatClampNeg)) then (kpt G I (gR G 4 x2.toNatClampNeg)) else (I (36 + 2 * x2.toNatClampNeg) 2)))), some (.int (x2 + 1))] [] G I Q))) : XF fI l C mX5_hasRoomBeside 4 [some (.ref 26), some (.int x1), some (.int x2)] [] G I Q := by
  refine XF.lift (pc2 := 12) (ls2 := [some (.ref 26), some (.int x1), some (.int x2)]) (st2 := [.int (I 3 1), .int x2]) (I2 := I) ?_ (fun r I' hk => by
      refine XW.iload_n eX5_hasRoomBeside_4 rfl ?_
      refine XW.aload_n eX5_hasRoomBeside_5 rfl ?_
      refine XW.getR (b := 3) eX5_hasRoomBeside_6 f5_42_5 rfl (so_26 hs) (sr_26_0 hs) ?_
      refine XW.getI eX5_hasRoomBeside_9 f5_105_6 rfl (so_3 hs) ?_
      exact hk)
  obtain ⟨ht, hf⟩ := h
  refine XF.br (P := (I 3 1) ≤ x2) (fun c_12 => ?_) (fun c_12 => ?_)
  ·
    replace h := ht c_12
    refine XF.lift (pc2 := 56) (ls2 := [some (.ref 26), some (.int x1), some (.int x2)]) (st2 := [.int (I 3 2), .int x1]) (I2 := I) ?_ (fun r I' hk => by
        refine XW.icmp_ge eX5_hasRoomBeside_12 (fun _ => ?_) (fun z => absurd c_12 z)
        refine XW.iload_n eX5_hasRoomBeside_48 rfl ?_
        refine XW.aload_n eX5_hasRoomBeside_49 rfl ?_
        refine XW.getR (b := 3) eX5_hasRoomBeside_50 f5_42_5 rfl (so_26 hs) (sr_26_0 hs) ?_
        refine XW.getI eX5_hasRoomBeside_53 f5_144_6 rfl (so_3 hs) ?_
        exact hk)
    obtain ⟨ht, hf⟩ := h
    refine XF.br (P := (I 3 2) ≤ x1) (fun c_56 => ?_) (fun c_56 => ?_)
    ·
      replace h := ht c_56
      refine XF.lift (pc2 := 64) (ls2 := [some (.ref 26), some (.int x1), some (.int x2)]) (st2 := [.int 0]) (I2 := I) ?_ (fun r I' hk => by
          refine XW.icmp_ge eX5_hasRoomBeside_56 (fun _ => ?_) (fun z => absurd c_56 z)
          refine XW.iconst (v := 0) eX5_hasRoomBeside_63 (by decide) ?_
          exact hk)
      exact ⟨0, I, XW.iret eX5_hasRoomBeside_64 rfl rfl rfl rfl rfl, h⟩
    ·
      replace h := hf c_56
      refine XF.lift (pc2 := 64) (ls2 := [some (.ref 26), some (.int x1), some (.int x2)]) (st2 := [.int 1]) (I2 := I) ?_ (fun r I' hk => by
          refine XW.icmp_ge eX5_hasRoomBeside_56 (fun z => absurd z c_56) (fun _ => ?_)
          refine XW.iconst (v := 1) eX5_hasRoomBeside_59 (by decide) ?_
          refine XW.goto eX5_hasRoomBeside_60 ?_
          exact hk)
      exact ⟨1, I, XW.iret eX5_hasRoomBeside_64 rfl rfl rfl rfl rfl, h⟩
  ·
    replace h := hf c_12
    obtain ⟨q_21, h⟩ := h
    obtain ⟨n_34, h⟩ := h
    refine XF.lift (pc2 := 4) (ls2 := [some (.ref 26), some (.int (x1 + (if (I (36 + 2 * x2.toNatClampNeg) 2) < (kpt G I (gR G 4 x2.toNatClampNeg)) then (kpt G I (gR G 4 x2.toNatClampNeg)) else (I (36 + 2 * x2.toNatClampNeg) 2)))), some (.int (x2 + 1))]) (st2 := []) (I2 := I) ?_ (fun r I' hk => by
        refine XW.icmp_ge eX5_hasRoomBeside_12 (fun z => absurd z c_12) (fun _ => ?_)
        refine XW.iload_n eX5_hasRoomBeside_15 rfl ?_
        refine XW.aload_n eX5_hasRoomBeside_16 rfl ?_
        refine XW.getR (b := 27) eX5_hasRoomBeside_17 f5_11_5 rfl (so_26 hs) (sr_26_1 hs) ?_
        refine XW.iload_n eX5_hasRoomBeside_20 rfl ?_
        refine XW.aaload (b := (36 + 2 * x2.toNatClampNeg)) eX5_hasRoomBeside_21 (sa_27 hs) ⟨by decide, rfl⟩ q_21 (sq27 hs q_21) ?_
        refine XW.getI eX5_hasRoomBeside_22 f5_143_3 rfl (so27 hs q_21) ?_
        refine XW.aload_n eX5_hasRoomBeside_25 rfl ?_
        refine XW.getR (b := 3) eX5_hasRoomBeside_26 f5_42_5 rfl (so_26 hs) (sr_26_0 hs) ?_
        refine XW.getR (b := 4) eX5_hasRoomBeside_29 f5_125_6 rfl (so_3 hs) (sr_3_0 hs) ?_
        refine XW.iload_n eX5_hasRoomBeside_32 rfl ?_
        refine XW.aaload (b := (gR G 4 x2.toNatClampNeg)) eX5_hasRoomBeside_33 (sa_4 hs) ⟨by decide, rfl⟩ q_21 rfl ?_
        refine XW.kept eX5_hasRoomBeside_34 co5_159_2 co5_159_8 co5_159_1 n_34 (Nat.le_of_ble_eq_true rfl) (Nat.le_of_ble_eq_true rfl) ?_
        refine XW.mmax eX5_hasRoomBeside_37 mx5_170 (Nat.le_of_ble_eq_true rfl) (Nat.le_of_ble_eq_true rfl) ⟨Nat.le_refl _, Nat.le_refl _⟩ ?_
        refine XW.iadd eX5_hasRoomBeside_40 ?_
        refine XW.istore_n (ls' := [some (.ref 26), some (.int (x1 + (if (I (36 + 2 * x2.toNatClampNeg) 2) < (kpt G I (gR G 4 x2.toNatClampNeg)) then (kpt G I (gR G 4 x2.toNatClampNeg)) else (I (36 + 2 * x2.toNatClampNeg) 2)))), some (.int x2)]) eX5_hasRoomBeside_41 (Nat.le_of_ble_eq_true rfl) rfl ?_
        refine XW.iinc (y := (x2 + 1)) (ls' := [some (.ref 26), some (.int (x1 + (if (I (36 + 2 * x2.toNatClampNeg) 2) < (kpt G I (gR G 4 x2.toNatClampNeg)) then (kpt G I (gR G 4 x2.toNatClampNeg)) else (I (36 + 2 * x2.toNatClampNeg) 2)))), some (.int (x2 + 1))]) eX5_hasRoomBeside_42 rfl rfl rfl ?_
        refine XW.goto eX5_hasRoomBeside_45 ?_
        exact hk)
    exact h
set_option maxRecDepth 100000 in
set_option maxHeartbeats 4000000 in
theorem VX5_pushesOutb {l : Launch} {C : xC} {G : xG} (hs : SH G)  (I : xI) (y1 y2 : Int32) {Q : Int32 → xI → Prop} (h :
    XF fI l C mX5_pushesOut 5 [some (.ref 26), some (.int y1), some (.int y2), some (.int 0), some (.int 1)] [] G I Q) : XF fI l C mX5_pushesOut 0 (xent mX5_pushesOut [.ref 26, .int y1, .int y2]) [] G I Q := by
  show XF fI l C mX5_pushesOut 0 [some (.ref 26), some (.int y1), some (.int y2), none, none] [] G I Q
  refine XF.lift (pc2 := 5) (ls2 := [some (.ref 26), some (.int y1), some (.int y2), some (.int 0), some (.int 1)]) (st2 := []) (I2 := I) ?_ (fun r I' hk => by
      refine XW.iconst (v := 0) eX5_pushesOut_0 (by decide) ?_
      refine XW.istore_n (ls' := [some (.ref 26), some (.int y1), some (.int y2), some (.int 0), none]) eX5_pushesOut_1 (Nat.le_of_ble_eq_true rfl) rfl ?_
      refine XW.iconst (v := 1) eX5_pushesOut_2 (by decide) ?_
      refine XW.istore (ls' := [some (.ref 26), some (.int y1), some (.int y2), some (.int 0), some (.int 1)]) eX5_pushesOut_3 (Nat.le_of_ble_eq_true rfl) rfl ?_
      exact hk)
  exact h
set_option maxRecDepth 100000 in
set_option maxHeartbeats 4000000 in
theorem VX5_pushesOutb_5 {l : Launch} {C : xC} {G : xG} (hs : SH G)  (I : xI) (x1 x2 x3 x4 : Int32) {Q : Int32 → xI → Prop} (h :
    (((I 3 1) ≤ x4 → vp_in x3 4 ∧ (((x2 + 1) < (I (36 + 2 * x3.toNatClampNeg) 2) → (∃ Qc : Int32 → xI → Prop, XF fI l C mX3_removeLast 0 (xent mX3_removeLast [.ref (36 + 2 * x3.toNatClampNeg)]) [] G I Qc ∧ ∀ (v_71 : Int32) (I_71 : xI), Qc v_71 I_71 → (∃ Qc : Unit → xI → Prop, XF fV l C mX5_settle 0 (xent mX5_settle [.ref 26, .int v_71, .int 2, .int (I_71 26 12)]) [] G (wI I_71 26 17 ((I_71 26 17) - 1)) Qc ∧ ∀ (u_94 : Unit) (I_94 : xI), Qc u_94 I_94 → vp_in v_71 80 ∧ Q 1 (wI I_94 32 v_71.toNatClampNeg x1)))) ∧ (¬ ((x2 + 1) < (I (36 + 2 * x3.toNatClampNeg) 2)) → Q 0 I))) ∧ (¬ ((I 3 1) ≤ x4) → vp_in x4 4 ∧ vp_in x3 4 ∧ (((I (36 + 2 * x4.toNatClampNeg) 2) < (I (36 + 2 * x3.toNatClampNeg) 2) → XF fI l C mX5_pushesOut 5 [some (.ref 26), some (.int x1), some (.int x2), some (.int x3), some (.int (x4 + 1))] [] G I Q) ∧ (¬ ((I (36 + 2 * x4.toNatClampNeg) 2) < (I (36 + 2 * x3.toNatClampNeg) 2)) → XF fI l C mX5_pushesOut 5 [some (.ref 26), some (.int x1), some (.int x2), some (.int x4), some (.int (x4 + 1))] [] G I Q))))) : XF fI l C mX5_pushesOut 5 [some (.ref 26), some (.int x1), some (.int x2), some (.int x3), some (.int x4)] [] G I Q := by
  refine XF.lift (pc2 := 14) (ls2 := [some (.ref 26), some (.int x1), some (.int x2), some (.int x3), some (.int x4)]) (st2 := [.int (I 3 1), .int x4]) (I2 := I) ?_ (fun r I' hk => by
      refine XW.iload eX5_pushesOut_5 rfl ?_
      refine XW.aload_n eX5_pushesOut_7 rfl ?_
      refine XW.getR (b := 3) eX5_pushesOut_8 f5_42_5 rfl (so_26 hs) (sr_26_0 hs) ?_
      refine XW.getI eX5_pushesOut_11 f5_105_6 rfl (so_3 hs) ?_
      exact hk)
  obtain ⟨ht, hf⟩ := h
  refine XF.br (P := (I 3 1) ≤ x4) (fun c_14 => ?_) (fun c_14 => ?_)
  ·
    replace h := ht c_14
    obtain ⟨q_53, h⟩ := h
    refine XF.lift (pc2 := 60) (ls2 := [some (.ref 26), some (.int x1), some (.int x2), some (.int x3), some (.int x4)]) (st2 := [.int (x2 + 1), .int (I (36 + 2 * x3.toNatClampNeg) 2)]) (I2 := I) ?_ (fun r I' hk => by
        refine XW.icmp_ge eX5_pushesOut_14 (fun _ => ?_) (fun z => absurd c_14 z)
        refine XW.aload_n eX5_pushesOut_48 rfl ?_
        refine XW.getR (b := 27) eX5_pushesOut_49 f5_11_5 rfl (so_26 hs) (sr_26_1 hs) ?_
        refine XW.iload_n eX5_pushesOut_52 rfl ?_
        refine XW.aaload (b := (36 + 2 * x3.toNatClampNeg)) eX5_pushesOut_53 (sa_27 hs) ⟨by decide, rfl⟩ q_53 (sq27 hs q_53) ?_
        refine XW.getI eX5_pushesOut_54 f5_143_3 rfl (so27 hs q_53) ?_
        refine XW.iload_n eX5_pushesOut_57 rfl ?_
        refine XW.iconst (v := 1) eX5_pushesOut_58 (by decide) ?_
        refine XW.iadd eX5_pushesOut_59 ?_
        exact hk)
    obtain ⟨ht, hf⟩ := h
    refine XF.br (P := (x2 + 1) < (I (36 + 2 * x3.toNatClampNeg) 2)) (fun c_60 => ?_) (fun c_60 => ?_)
    ·
      replace h := ht c_60
      refine XF.lift (pc2 := 71) (ls2 := [some (.ref 26), some (.int x1), some (.int x2), some (.int x3), some (.int x4)]) (st2 := [.ref (36 + 2 * x3.toNatClampNeg)]) (I2 := I) ?_ (fun r I' hk => by
          refine XW.icmp_gt eX5_pushesOut_60 (fun _ => ?_) (fun z => absurd c_60 z)
          refine XW.aload_n eX5_pushesOut_65 rfl ?_
          refine XW.getR (b := 27) eX5_pushesOut_66 f5_11_5 rfl (so_26 hs) (sr_26_1 hs) ?_
          refine XW.iload_n eX5_pushesOut_69 rfl ?_
          refine XW.aaload (b := (36 + 2 * x3.toNatClampNeg)) eX5_pushesOut_70 (sa_27 hs) ⟨by decide, rfl⟩ q_53 (sq27 hs q_53) ?_
          exact hk)
      obtain ⟨Qc, hc, h⟩ := h
      refine XF.call (nx := 74) (st := []) hc (fun v I1 r I' hY hk => XW.callV (As := []) (st := []) eX5_pushesOut_71 okX3_removeLast cv5_167 rfl (so27 hs q_53) hY (xnum rfl rfl rfl rfl rfl) hk) (fun v_71 I_71 hq => ?_)
      replace h := h v_71 I_71 hq
      refine XF.lift (pc2 := 94) (ls2 := [some (.ref 26), some (.int x1), some (.int x2), some (.int x3), some (.int v_71)]) (st2 := [.int (I_71 26 12), .int 2, .int v_71, .ref 26]) (I2 := (wI I_71 26 17 ((I_71 26 17) - 1))) ?_ (fun r I' hk => by
          refine XW.istore (ls' := [some (.ref 26), some (.int x1), some (.int x2), some (.int x3), some (.int v_71)]) eX5_pushesOut_74 (Nat.le_of_ble_eq_true rfl) rfl ?_
          refine XW.aload_n eX5_pushesOut_76 rfl ?_
          refine XW.dup eX5_pushesOut_77 rfl ?_
          refine XW.getI eX5_pushesOut_78 f5_62_5 rfl (so_26 hs) ?_
          refine XW.iconst (v := 1) eX5_pushesOut_81 (by decide) ?_
          refine XW.isub eX5_pushesOut_82 ?_
          refine XW.putI eX5_pushesOut_83 f5_62_5 (xP_of rfl (by decide)) rfl ⟨rfl, rfl⟩ (so_26 hs) ?_
          refine XW.aload_n eX5_pushesOut_86 rfl ?_
          refine XW.iload eX5_pushesOut_87 rfl ?_
          refine XW.iconst (v := 2) eX5_pushesOut_89 (by decide) ?_
          refine XW.aload_n eX5_pushesOut_90 rfl ?_
          refine XW.getI eX5_pushesOut_91 f5_65_5 rfl (so_26 hs) ?_
          exact hk)
      obtain ⟨Qc, hc, h⟩ := h
      refine XF.call (nx := 97) (st := []) hc (fun v I1 r I' hY hk => XW.callV (As := [.int v_71, .int 2, .int (I_71 26 12)]) (st := []) eX5_pushesOut_94 okX5_settle cv5_101 rfl (so_26 hs) hY (xnum rfl rfl rfl rfl rfl) hk) (fun _ I_94 hq => ?_)
      replace h := h () I_94 hq
      obtain ⟨q_104, h⟩ := h
      refine XF.lift (pc2 := 106) (ls2 := [some (.ref 26), some (.int x1), some (.int x2), some (.int x3), some (.int v_71)]) (st2 := [.int 1]) (I2 := (wI I_94 32 v_71.toNatClampNeg x1)) ?_ (fun r I' hk => by
          refine XW.aload_n eX5_pushesOut_97 rfl ?_
          refine XW.getR (b := 32) eX5_pushesOut_98 f5_30_5 rfl (so_26 hs) (sr_26_6 hs) ?_
          refine XW.iload eX5_pushesOut_101 rfl ?_
          refine XW.iload_n eX5_pushesOut_103 rfl ?_
          refine XW.iastore eX5_pushesOut_104 (sa_32 hs) q_104 ?_
          refine XW.iconst (v := 1) eX5_pushesOut_105 (by decide) ?_
          exact hk)
      exact ⟨1, (wI I_94 32 v_71.toNatClampNeg x1), XW.iret eX5_pushesOut_106 rfl rfl rfl rfl rfl, h⟩
    ·
      replace h := hf c_60
      refine XF.lift (pc2 := 64) (ls2 := [some (.ref 26), some (.int x1), some (.int x2), some (.int x3), some (.int x4)]) (st2 := [.int 0]) (I2 := I) ?_ (fun r I' hk => by
          refine XW.icmp_gt eX5_pushesOut_60 (fun z => absurd z c_60) (fun _ => ?_)
          refine XW.iconst (v := 0) eX5_pushesOut_63 (by decide) ?_
          exact hk)
      exact ⟨0, I, XW.iret eX5_pushesOut_64 rfl rfl rfl rfl rfl, h⟩
  ·
    replace h := hf c_14
    obtain ⟨q_23, h⟩ := h
    obtain ⟨q_32, h⟩ := h
    refine XF.lift (pc2 := 36) (ls2 := [some (.ref 26), some (.int x1), some (.int x2), some (.int x3), some (.int x4)]) (st2 := [.int (I (36 + 2 * x3.toNatClampNeg) 2), .int (I (36 + 2 * x4.toNatClampNeg) 2)]) (I2 := I) ?_ (fun r I' hk => by
        refine XW.icmp_ge eX5_pushesOut_14 (fun z => absurd z c_14) (fun _ => ?_)
        refine XW.aload_n eX5_pushesOut_17 rfl ?_
        refine XW.getR (b := 27) eX5_pushesOut_18 f5_11_5 rfl (so_26 hs) (sr_26_1 hs) ?_
        refine XW.iload eX5_pushesOut_21 rfl ?_
        refine XW.aaload (b := (36 + 2 * x4.toNatClampNeg)) eX5_pushesOut_23 (sa_27 hs) ⟨by decide, rfl⟩ q_23 (sq27 hs q_23) ?_
        refine XW.getI eX5_pushesOut_24 f5_143_3 rfl (so27 hs q_23) ?_
        refine XW.aload_n eX5_pushesOut_27 rfl ?_
        refine XW.getR (b := 27) eX5_pushesOut_28 f5_11_5 rfl (so_26 hs) (sr_26_1 hs) ?_
        refine XW.iload_n eX5_pushesOut_31 rfl ?_
        refine XW.aaload (b := (36 + 2 * x3.toNatClampNeg)) eX5_pushesOut_32 (sa_27 hs) ⟨by decide, rfl⟩ q_32 (sq27 hs q_32) ?_
        refine XW.getI eX5_pushesOut_33 f5_143_3 rfl (so27 hs q_32) ?_
        exact hk)
    obtain ⟨ht, hf⟩ := h
    refine XF.br (P := (I (36 + 2 * x4.toNatClampNeg) 2) < (I (36 + 2 * x3.toNatClampNeg) 2)) (fun c_36 => ?_) (fun c_36 => ?_)
    ·
      replace h := ht c_36
      refine XF.lift (pc2 := 5) (ls2 := [some (.ref 26), some (.int x1), some (.int x2), some (.int x3), some (.int (x4 + 1))]) (st2 := []) (I2 := I) ?_ (fun r I' hk => by
          refine XW.icmp_lt eX5_pushesOut_36 (fun _ => ?_) (fun z => absurd c_36 z)
          refine XW.iinc (y := (x4 + 1)) (ls' := [some (.ref 26), some (.int x1), some (.int x2), some (.int x3), some (.int (x4 + 1))]) eX5_pushesOut_42 rfl rfl rfl ?_
          refine XW.goto eX5_pushesOut_45 ?_
          exact hk)
      exact h
    ·
      replace h := hf c_36
      refine XF.lift (pc2 := 5) (ls2 := [some (.ref 26), some (.int x1), some (.int x2), some (.int x4), some (.int (x4 + 1))]) (st2 := []) (I2 := I) ?_ (fun r I' hk => by
          refine XW.icmp_lt eX5_pushesOut_36 (fun z => absurd z c_36) (fun _ => ?_)
          refine XW.iload eX5_pushesOut_39 rfl ?_
          refine XW.istore_n (ls' := [some (.ref 26), some (.int x1), some (.int x2), some (.int x4), some (.int x4)]) eX5_pushesOut_41 (Nat.le_of_ble_eq_true rfl) rfl ?_
          refine XW.iinc (y := (x4 + 1)) (ls' := [some (.ref 26), some (.int x1), some (.int x2), some (.int x4), some (.int (x4 + 1))]) eX5_pushesOut_42 rfl rfl rfl ?_
          refine XW.goto eX5_pushesOut_45 ?_
          exact hk)
      exact h
set_option maxRecDepth 100000 in
set_option maxHeartbeats 4000000 in
theorem VX5_takeb {l : Launch} {C : xC} {G : xG} (hs : SH G)  (I : xI) (y1 : Int32) {Q : Unit → xI → Prop} (h :
    vp_in y1 80 ∧ vp_in (I 28 y1.toNatClampNeg) 4 ∧ (∃ Qc : Unit → xI → Prop, XF fV l C mX3_addLast 0 (xent mX3_addLast [.ref (36 + 2 * (I 28 y1.toNatClampNeg).toNatClampNeg), .int y1]) [] G I Qc ∧ ∀ (u_14 : Unit) (I_14 : xI), Qc u_14 I_14 → Q () (wI (wI (wI (wI I_14 29 y1.toNatClampNeg (I_14 26 12)) 26 17 ((I_14 26 17) + 1)) 33 (I 28 y1.toNatClampNeg).toNatClampNeg (if (I_14 33 (I 28 y1.toNatClampNeg).toNatClampNeg) < ((wI (wI I_14 29 y1.toNatClampNeg (I_14 26 12)) 26 17 ((I_14 26 17) + 1)) (36 + 2 * (I 28 y1.toNatClampNeg).toNatClampNeg) 2) then ((wI (wI I_14 29 y1.toNatClampNeg (I_14 26 12)) 26 17 ((I_14 26 17) + 1)) (36 + 2 * (I 28 y1.toNatClampNeg).toNatClampNeg) 2) else (I_14 33 (I 28 y1.toNatClampNeg).toNatClampNeg))) 26 18 (if (I_14 26 18) < ((I_14 26 17) + 1) then ((I_14 26 17) + 1) else (I_14 26 18))))) : XF fV l C mX5_take 0 (xent mX5_take [.ref 26, .int y1]) [] G I Q := by
  show XF fV l C mX5_take 0 [some (.ref 26), some (.int y1), none] [] G I Q
  obtain ⟨q_5, h⟩ := h
  obtain ⟨q_12, h⟩ := h
  refine XF.lift (pc2 := 14) (ls2 := [some (.ref 26), some (.int y1), some (.int (I 28 y1.toNatClampNeg))]) (st2 := [.int y1, .ref (36 + 2 * (I 28 y1.toNatClampNeg).toNatClampNeg)]) (I2 := I) ?_ (fun r I' hk => by
      refine XW.aload_n eX5_take_0 rfl ?_
      refine XW.getR (b := 28) eX5_take_1 f5_17_5 rfl (so_26 hs) (sr_26_2 hs) ?_
      refine XW.iload_n eX5_take_4 rfl ?_
      refine XW.iaload eX5_take_5 (sa_28 hs) q_5 ?_
      refine XW.istore_n (ls' := [some (.ref 26), some (.int y1), some (.int (I 28 y1.toNatClampNeg))]) eX5_take_6 (Nat.le_of_ble_eq_true rfl) rfl ?_
      refine XW.aload_n eX5_take_7 rfl ?_
      refine XW.getR (b := 27) eX5_take_8 f5_11_5 rfl (so_26 hs) (sr_26_1 hs) ?_
      refine XW.iload_n eX5_take_11 rfl ?_
      refine XW.aaload (b := (36 + 2 * (I 28 y1.toNatClampNeg).toNatClampNeg)) eX5_take_12 (sa_27 hs) ⟨by decide, rfl⟩ q_12 (sq27 hs q_12) ?_
      refine XW.iload_n eX5_take_13 rfl ?_
      exact hk)
  obtain ⟨Qc, hc, h⟩ := h
  refine XF.call (nx := 17) (st := []) hc (fun v I1 r I' hY hk => XW.callV (As := [.int y1]) (st := []) eX5_take_14 okX3_addLast cv5_176 rfl (so27 hs q_12) hY (xnum rfl rfl rfl rfl rfl) hk) (fun _ I_14 hq => ?_)
  replace h := h () I_14 hq
  refine XF.lift (pc2 := 76) (ls2 := [some (.ref 26), some (.int y1), some (.int (I 28 y1.toNatClampNeg))]) (st2 := []) (I2 := (wI (wI (wI (wI I_14 29 y1.toNatClampNeg (I_14 26 12)) 26 17 ((I_14 26 17) + 1)) 33 (I 28 y1.toNatClampNeg).toNatClampNeg (if (I_14 33 (I 28 y1.toNatClampNeg).toNatClampNeg) < ((wI (wI I_14 29 y1.toNatClampNeg (I_14 26 12)) 26 17 ((I_14 26 17) + 1)) (36 + 2 * (I 28 y1.toNatClampNeg).toNatClampNeg) 2) then ((wI (wI I_14 29 y1.toNatClampNeg (I_14 26 12)) 26 17 ((I_14 26 17) + 1)) (36 + 2 * (I 28 y1.toNatClampNeg).toNatClampNeg) 2) else (I_14 33 (I 28 y1.toNatClampNeg).toNatClampNeg))) 26 18 (if (I_14 26 18) < ((I_14 26 17) + 1) then ((I_14 26 17) + 1) else (I_14 26 18)))) ?_ (fun r I' hk => by
      refine XW.aload_n eX5_take_17 rfl ?_
      refine XW.getR (b := 29) eX5_take_18 f5_21_5 rfl (so_26 hs) (sr_26_3 hs) ?_
      refine XW.iload_n eX5_take_21 rfl ?_
      refine XW.aload_n eX5_take_22 rfl ?_
      refine XW.getI eX5_take_23 f5_65_5 rfl (so_26 hs) ?_
      refine XW.iastore eX5_take_26 (sa_29 hs) q_5 ?_
      refine XW.aload_n eX5_take_27 rfl ?_
      refine XW.dup eX5_take_28 rfl ?_
      refine XW.getI eX5_take_29 f5_62_5 rfl (so_26 hs) ?_
      refine XW.iconst (v := 1) eX5_take_32 (by decide) ?_
      refine XW.iadd eX5_take_33 ?_
      refine XW.putI eX5_take_34 f5_62_5 (xP_of rfl (by decide)) rfl ⟨rfl, rfl⟩ (so_26 hs) ?_
      refine XW.aload_n eX5_take_37 rfl ?_
      refine XW.getR (b := 33) eX5_take_38 f5_33_5 rfl (so_26 hs) (sr_26_7 hs) ?_
      refine XW.iload_n eX5_take_41 rfl ?_
      refine XW.aload_n eX5_take_42 rfl ?_
      refine XW.getR (b := 33) eX5_take_43 f5_33_5 rfl (so_26 hs) (sr_26_7 hs) ?_
      refine XW.iload_n eX5_take_46 rfl ?_
      refine XW.iaload eX5_take_47 (sa_33 hs) q_12 ?_
      refine XW.aload_n eX5_take_48 rfl ?_
      refine XW.getR (b := 27) eX5_take_49 f5_11_5 rfl (so_26 hs) (sr_26_1 hs) ?_
      refine XW.iload_n eX5_take_52 rfl ?_
      refine XW.aaload (b := (36 + 2 * (I 28 y1.toNatClampNeg).toNatClampNeg)) eX5_take_53 (sa_27 hs) ⟨by decide, rfl⟩ q_12 (sq27 hs q_12) ?_
      refine XW.getI eX5_take_54 f5_143_3 rfl (so27 hs q_12) ?_
      refine XW.mmax eX5_take_57 mx5_170 (Nat.le_of_ble_eq_true rfl) (Nat.le_of_ble_eq_true rfl) ⟨Nat.le_refl _, Nat.le_refl _⟩ ?_
      refine XW.iastore eX5_take_60 (sa_33 hs) q_12 ?_
      refine XW.aload_n eX5_take_61 rfl ?_
      refine XW.aload_n eX5_take_62 rfl ?_
      refine XW.getI eX5_take_63 f5_97_5 rfl (so_26 hs) ?_
      refine XW.aload_n eX5_take_66 rfl ?_
      refine XW.getI eX5_take_67 f5_62_5 rfl (so_26 hs) ?_
      refine XW.mmax eX5_take_70 mx5_170 (Nat.le_of_ble_eq_true rfl) (Nat.le_of_ble_eq_true rfl) ⟨Nat.le_refl _, Nat.le_refl _⟩ ?_
      refine XW.putI eX5_take_73 f5_97_5 (xP_of rfl (by decide)) rfl ⟨rfl, rfl⟩ (so_26 hs) ?_
      exact hk)
  exact ⟨(), (wI (wI (wI (wI I_14 29 y1.toNatClampNeg (I_14 26 12)) 26 17 ((I_14 26 17) + 1)) 33 (I 28 y1.toNatClampNeg).toNatClampNeg (if (I_14 33 (I 28 y1.toNatClampNeg).toNatClampNeg) < ((wI (wI I_14 29 y1.toNatClampNeg (I_14 26 12)) 26 17 ((I_14 26 17) + 1)) (36 + 2 * (I 28 y1.toNatClampNeg).toNatClampNeg) 2) then ((wI (wI I_14 29 y1.toNatClampNeg (I_14 26 12)) 26 17 ((I_14 26 17) + 1)) (36 + 2 * (I 28 y1.toNatClampNeg).toNatClampNeg) 2) else (I_14 33 (I 28 y1.toNatClampNeg).toNatClampNeg))) 26 18 (if (I_14 26 18) < ((I_14 26 17) + 1) then ((I_14 26 17) + 1) else (I_14 26 18))), XW.vret eX5_take_76 rfl rfl rfl rfl, h⟩
set_option maxRecDepth 100000 in
set_option maxHeartbeats 4000000 in
theorem VX5_admitsb {l : Launch} {C : xC} {G : xG} (hs : SH G)  (I : xI) (y1 : Int32) {Q : Int32 → xI → Prop} (h :
    vp_in y1 80 ∧ vp_in (I 28 y1.toNatClampNeg) 4 ∧ (((I 26 10) = 0 → LN G (gR G 4 (I 28 y1.toNatClampNeg).toNatClampNeg) ∧ (((I (gR G 4 (I 28 y1.toNatClampNeg).toNatClampNeg) 0) ≤ (I (36 + 2 * (I 28 y1.toNatClampNeg).toNatClampNeg) 2) → Q 0 I) ∧ (¬ ((I (gR G 4 (I 28 y1.toNatClampNeg).toNatClampNeg) 0) ≤ (I (36 + 2 * (I 28 y1.toNatClampNeg).toNatClampNeg) 2)) → ((((I 3 2) - (I 26 17)) ≤ 0 → Q 0 I) ∧ (¬ (((I 3 2) - (I 26 17)) ≤ 0) → Q 1 I))))) ∧ (¬ ((I 26 10) = 0) → (((I 26 10) = 1 → ((((I 3 3) * ((I 3 2) - (I 26 17))) ≤ (16 * (I (36 + 2 * (I 28 y1.toNatClampNeg).toNatClampNeg) 2)) → Q 0 I) ∧ (¬ (((I 3 3) * ((I 3 2) - (I 26 17))) ≤ (16 * (I (36 + 2 * (I 28 y1.toNatClampNeg).toNatClampNeg) 2))) → ((((I 3 2) - (I 26 17)) ≤ 0 → Q 0 I) ∧ (¬ (((I 3 2) - (I 26 17)) ≤ 0) → Q 1 I))))) ∧ (¬ ((I 26 10) = 1) → (((I 26 10) = 2 → ((0 < ((I 3 2) - (I 26 17)) → Q 1 I) ∧ (¬ (0 < ((I 3 2) - (I 26 17))) → (∃ Qc : Int32 → xI → Prop, XF fI l C mX5_pushesOut 0 (xent mX5_pushesOut [.ref 26, .int y1, .int (I (36 + 2 * (I 28 y1.toNatClampNeg).toNatClampNeg) 2)]) [] G I Qc ∧ ∀ (v_123 : Int32) (I_123 : xI), Qc v_123 I_123 → ((v_123 = 0 → Q 0 I_123) ∧ (¬ (v_123 = 0) → Q 1 I_123)))))) ∧ (¬ ((I 26 10) = 2) → LN G (gR G 4 (I 28 y1.toNatClampNeg).toNatClampNeg) ∧ (((I (36 + 2 * (I 28 y1.toNatClampNeg).toNatClampNeg) 2) < (kpt G I (gR G 4 (I 28 y1.toNatClampNeg).toNatClampNeg)) → Q 1 I) ∧ (¬ ((I (36 + 2 * (I 28 y1.toNatClampNeg).toNatClampNeg) 2) < (kpt G I (gR G 4 (I 28 y1.toNatClampNeg).toNatClampNeg))) → (∃ Qc : Int32 → xI → Prop, XF fI l C mX5_hasRoomBeside 0 (xent mX5_hasRoomBeside [.ref 26]) [] G I Qc ∧ ∀ (v_152 : Int32) (I_152 : xI), Qc v_152 I_152 → ((v_152 = 0 → Q 0 I_152) ∧ (¬ (v_152 = 0) → Q 1 I_152)))))))))))) : XF fI l C mX5_admits 0 (xent mX5_admits [.ref 26, .int y1]) [] G I Q := by
  show XF fI l C mX5_admits 0 [some (.ref 26), some (.int y1), none, none, none] [] G I Q
  obtain ⟨q_5, h⟩ := h
  obtain ⟨q_12, h⟩ := h
  refine XF.lift (pc2 := 35) (ls2 := [some (.ref 26), some (.int y1), some (.int (I 28 y1.toNatClampNeg)), some (.int (I (36 + 2 * (I 28 y1.toNatClampNeg).toNatClampNeg) 2)), some (.int ((I 3 2) - (I 26 17)))]) (st2 := [.int (I 26 10)]) (I2 := I) ?_ (fun r I' hk => by
      refine XW.aload_n eX5_admits_0 rfl ?_
      refine XW.getR (b := 28) eX5_admits_1 f5_17_5 rfl (so_26 hs) (sr_26_2 hs) ?_
      refine XW.iload_n eX5_admits_4 rfl ?_
      refine XW.iaload eX5_admits_5 (sa_28 hs) q_5 ?_
      refine XW.istore_n (ls' := [some (.ref 26), some (.int y1), some (.int (I 28 y1.toNatClampNeg)), none, none]) eX5_admits_6 (Nat.le_of_ble_eq_true rfl) rfl ?_
      refine XW.aload_n eX5_admits_7 rfl ?_
      refine XW.getR (b := 27) eX5_admits_8 f5_11_5 rfl (so_26 hs) (sr_26_1 hs) ?_
      refine XW.iload_n eX5_admits_11 rfl ?_
      refine XW.aaload (b := (36 + 2 * (I 28 y1.toNatClampNeg).toNatClampNeg)) eX5_admits_12 (sa_27 hs) ⟨by decide, rfl⟩ q_12 (sq27 hs q_12) ?_
      refine XW.getI eX5_admits_13 f5_143_3 rfl (so27 hs q_12) ?_
      refine XW.istore_n (ls' := [some (.ref 26), some (.int y1), some (.int (I 28 y1.toNatClampNeg)), some (.int (I (36 + 2 * (I 28 y1.toNatClampNeg).toNatClampNeg) 2)), none]) eX5_admits_16 (Nat.le_of_ble_eq_true rfl) rfl ?_
      refine XW.aload_n eX5_admits_17 rfl ?_
      refine XW.getR (b := 3) eX5_admits_18 f5_42_5 rfl (so_26 hs) (sr_26_0 hs) ?_
      refine XW.getI eX5_admits_21 f5_144_6 rfl (so_3 hs) ?_
      refine XW.aload_n eX5_admits_24 rfl ?_
      refine XW.getI eX5_admits_25 f5_62_5 rfl (so_26 hs) ?_
      refine XW.isub eX5_admits_28 ?_
      refine XW.istore (ls' := [some (.ref 26), some (.int y1), some (.int (I 28 y1.toNatClampNeg)), some (.int (I (36 + 2 * (I 28 y1.toNatClampNeg).toNatClampNeg) 2)), some (.int ((I 3 2) - (I 26 17)))]) eX5_admits_29 (Nat.le_of_ble_eq_true rfl) rfl ?_
      refine XW.aload_n eX5_admits_31 rfl ?_
      refine XW.getI eX5_admits_32 f5_51_5 rfl (so_26 hs) ?_
      exact hk)
  obtain ⟨ht, hf⟩ := h
  refine XF.br (P := (I 26 10) = 0) (fun c_35_0 => ?_) (fun c_35_0 => ?_)
  ·
    replace h := ht c_35_0
    obtain ⟨n_70, h⟩ := h
    refine XF.lift (pc2 := 73) (ls2 := [some (.ref 26), some (.int y1), some (.int (I 28 y1.toNatClampNeg)), some (.int (I (36 + 2 * (I 28 y1.toNatClampNeg).toNatClampNeg) 2)), some (.int ((I 3 2) - (I 26 17)))]) (st2 := [.int (I (gR G 4 (I 28 y1.toNatClampNeg).toNatClampNeg) 0), .int (I (36 + 2 * (I 28 y1.toNatClampNeg).toNatClampNeg) 2)]) (I2 := I) ?_ (fun r I' hk => by
        refine XW.tabIn (off := 25) (tgt := 60) dX5_admits_35 (by rw [c_35_0]; decide) (by rw [c_35_0]; decide) (by rw [c_35_0]; rfl) (by decide) ?_
        refine XW.iload_n eX5_admits_60 rfl ?_
        refine XW.aload_n eX5_admits_61 rfl ?_
        refine XW.getR (b := 3) eX5_admits_62 f5_42_5 rfl (so_26 hs) (sr_26_0 hs) ?_
        refine XW.getR (b := 4) eX5_admits_65 f5_125_6 rfl (so_3 hs) (sr_3_0 hs) ?_
        refine XW.iload_n eX5_admits_68 rfl ?_
        refine XW.aaload (b := (gR G 4 (I 28 y1.toNatClampNeg).toNatClampNeg)) eX5_admits_69 (sa_4 hs) ⟨by decide, rfl⟩ q_12 rfl ?_
        refine XW.getL eX5_admits_70 f5_147_2 f5_147_8 f5_147_1 (by decide) n_70 ?_
        exact hk)
    obtain ⟨ht, hf⟩ := h
    refine XF.br (P := (I (gR G 4 (I 28 y1.toNatClampNeg).toNatClampNeg) 0) ≤ (I (36 + 2 * (I 28 y1.toNatClampNeg).toNatClampNeg) 2)) (fun c_73 => ?_) (fun c_73 => ?_)
    ·
      replace h := ht c_73
      refine XF.lift (pc2 := 86) (ls2 := [some (.ref 26), some (.int y1), some (.int (I 28 y1.toNatClampNeg)), some (.int (I (36 + 2 * (I 28 y1.toNatClampNeg).toNatClampNeg) 2)), some (.int ((I 3 2) - (I 26 17)))]) (st2 := [.int 0]) (I2 := I) ?_ (fun r I' hk => by
          refine XW.icmp_ge eX5_admits_73 (fun _ => ?_) (fun z => absurd c_73 z)
          refine XW.iconst (v := 0) eX5_admits_85 (by decide) ?_
          exact hk)
      exact ⟨0, I, XW.iret eX5_admits_86 rfl rfl rfl rfl rfl, h⟩
    ·
      replace h := hf c_73
      refine XF.lift (pc2 := 78) (ls2 := [some (.ref 26), some (.int y1), some (.int (I 28 y1.toNatClampNeg)), some (.int (I (36 + 2 * (I 28 y1.toNatClampNeg).toNatClampNeg) 2)), some (.int ((I 3 2) - (I 26 17)))]) (st2 := [.int ((I 3 2) - (I 26 17))]) (I2 := I) ?_ (fun r I' hk => by
          refine XW.icmp_ge eX5_admits_73 (fun z => absurd z c_73) (fun _ => ?_)
          refine XW.iload eX5_admits_76 rfl ?_
          exact hk)
      obtain ⟨ht, hf⟩ := h
      refine XF.br (P := ((I 3 2) - (I 26 17)) ≤ 0) (fun c_78 => ?_) (fun c_78 => ?_)
      ·
        replace h := ht c_78
        refine XF.lift (pc2 := 86) (ls2 := [some (.ref 26), some (.int y1), some (.int (I 28 y1.toNatClampNeg)), some (.int (I (36 + 2 * (I 28 y1.toNatClampNeg).toNatClampNeg) 2)), some (.int ((I 3 2) - (I 26 17)))]) (st2 := [.int 0]) (I2 := I) ?_ (fun r I' hk => by
            refine XW.if_le eX5_admits_78 (fun _ => ?_) (fun z => absurd c_78 z)
            refine XW.iconst (v := 0) eX5_admits_85 (by decide) ?_
            exact hk)
        exact ⟨0, I, XW.iret eX5_admits_86 rfl rfl rfl rfl rfl, h⟩
      ·
        replace h := hf c_78
        refine XF.lift (pc2 := 86) (ls2 := [some (.ref 26), some (.int y1), some (.int (I 28 y1.toNatClampNeg)), some (.int (I (36 + 2 * (I 28 y1.toNatClampNeg).toNatClampNeg) 2)), some (.int ((I 3 2) - (I 26 17)))]) (st2 := [.int 1]) (I2 := I) ?_ (fun r I' hk => by
            refine XW.if_le eX5_admits_78 (fun z => absurd z c_78) (fun _ => ?_)
            refine XW.iconst (v := 1) eX5_admits_81 (by decide) ?_
            refine XW.goto eX5_admits_82 ?_
            exact hk)
        exact ⟨1, I, XW.iret eX5_admits_86 rfl rfl rfl rfl rfl, h⟩
  replace h := hf c_35_0
  obtain ⟨ht, hf⟩ := h
  refine XF.br (P := (I 26 10) = 1) (fun c_35_1 => ?_) (fun c_35_1 => ?_)
  ·
    replace h := ht c_35_1
    refine XF.lift (pc2 := 101) (ls2 := [some (.ref 26), some (.int y1), some (.int (I 28 y1.toNatClampNeg)), some (.int (I (36 + 2 * (I 28 y1.toNatClampNeg).toNatClampNeg) 2)), some (.int ((I 3 2) - (I 26 17)))]) (st2 := [.int ((I 3 3) * ((I 3 2) - (I 26 17))), .int (16 * (I (36 + 2 * (I 28 y1.toNatClampNeg).toNatClampNeg) 2))]) (I2 := I) ?_ (fun r I' hk => by
        refine XW.tabIn (off := 52) (tgt := 87) dX5_admits_35 (by rw [c_35_1]; decide) (by rw [c_35_1]; decide) (by rw [c_35_1]; rfl) (by decide) ?_
        refine XW.bipush (v := 16) eX5_admits_87 (by decide) ?_
        refine XW.iload_n eX5_admits_89 rfl ?_
        refine XW.imul eX5_admits_90 ?_
        refine XW.aload_n eX5_admits_91 rfl ?_
        refine XW.getR (b := 3) eX5_admits_92 f5_42_5 rfl (so_26 hs) (sr_26_0 hs) ?_
        refine XW.getI eX5_admits_95 f5_152_6 rfl (so_3 hs) ?_
        refine XW.iload eX5_admits_98 rfl ?_
        refine XW.imul eX5_admits_100 ?_
        exact hk)
    obtain ⟨ht, hf⟩ := h
    refine XF.br (P := ((I 3 3) * ((I 3 2) - (I 26 17))) ≤ (16 * (I (36 + 2 * (I 28 y1.toNatClampNeg).toNatClampNeg) 2))) (fun c_101 => ?_) (fun c_101 => ?_)
    ·
      replace h := ht c_101
      refine XF.lift (pc2 := 114) (ls2 := [some (.ref 26), some (.int y1), some (.int (I 28 y1.toNatClampNeg)), some (.int (I (36 + 2 * (I 28 y1.toNatClampNeg).toNatClampNeg) 2)), some (.int ((I 3 2) - (I 26 17)))]) (st2 := [.int 0]) (I2 := I) ?_ (fun r I' hk => by
          refine XW.icmp_ge eX5_admits_101 (fun _ => ?_) (fun z => absurd c_101 z)
          refine XW.iconst (v := 0) eX5_admits_113 (by decide) ?_
          exact hk)
      exact ⟨0, I, XW.iret eX5_admits_114 rfl rfl rfl rfl rfl, h⟩
    ·
      replace h := hf c_101
      refine XF.lift (pc2 := 106) (ls2 := [some (.ref 26), some (.int y1), some (.int (I 28 y1.toNatClampNeg)), some (.int (I (36 + 2 * (I 28 y1.toNatClampNeg).toNatClampNeg) 2)), some (.int ((I 3 2) - (I 26 17)))]) (st2 := [.int ((I 3 2) - (I 26 17))]) (I2 := I) ?_ (fun r I' hk => by
          refine XW.icmp_ge eX5_admits_101 (fun z => absurd z c_101) (fun _ => ?_)
          refine XW.iload eX5_admits_104 rfl ?_
          exact hk)
      obtain ⟨ht, hf⟩ := h
      refine XF.br (P := ((I 3 2) - (I 26 17)) ≤ 0) (fun c_106 => ?_) (fun c_106 => ?_)
      ·
        replace h := ht c_106
        refine XF.lift (pc2 := 114) (ls2 := [some (.ref 26), some (.int y1), some (.int (I 28 y1.toNatClampNeg)), some (.int (I (36 + 2 * (I 28 y1.toNatClampNeg).toNatClampNeg) 2)), some (.int ((I 3 2) - (I 26 17)))]) (st2 := [.int 0]) (I2 := I) ?_ (fun r I' hk => by
            refine XW.if_le eX5_admits_106 (fun _ => ?_) (fun z => absurd c_106 z)
            refine XW.iconst (v := 0) eX5_admits_113 (by decide) ?_
            exact hk)
        exact ⟨0, I, XW.iret eX5_admits_114 rfl rfl rfl rfl rfl, h⟩
      ·
        replace h := hf c_106
        refine XF.lift (pc2 := 114) (ls2 := [some (.ref 26), some (.int y1), some (.int (I 28 y1.toNatClampNeg)), some (.int (I (36 + 2 * (I 28 y1.toNatClampNeg).toNatClampNeg) 2)), some (.int ((I 3 2) - (I 26 17)))]) (st2 := [.int 1]) (I2 := I) ?_ (fun r I' hk => by
            refine XW.if_le eX5_admits_106 (fun z => absurd z c_106) (fun _ => ?_)
            refine XW.iconst (v := 1) eX5_admits_109 (by decide) ?_
            refine XW.goto eX5_admits_110 ?_
            exact hk)
        exact ⟨1, I, XW.iret eX5_admits_114 rfl rfl rfl rfl rfl, h⟩
  replace h := hf c_35_1
  obtain ⟨ht, hf⟩ := h
  refine XF.br (P := (I 26 10) = 2) (fun c_35_2 => ?_) (fun c_35_2 => ?_)
  ·
    replace h := ht c_35_2
    refine XF.lift (pc2 := 117) (ls2 := [some (.ref 26), some (.int y1), some (.int (I 28 y1.toNatClampNeg)), some (.int (I (36 + 2 * (I 28 y1.toNatClampNeg).toNatClampNeg) 2)), some (.int ((I 3 2) - (I 26 17)))]) (st2 := [.int ((I 3 2) - (I 26 17))]) (I2 := I) ?_ (fun r I' hk => by
        refine XW.tabIn (off := 80) (tgt := 115) dX5_admits_35 (by rw [c_35_2]; decide) (by rw [c_35_2]; decide) (by rw [c_35_2]; rfl) (by decide) ?_
        refine XW.iload eX5_admits_115 rfl ?_
        exact hk)
    obtain ⟨ht, hf⟩ := h
    refine XF.br (P := 0 < ((I 3 2) - (I 26 17))) (fun c_117 => ?_) (fun c_117 => ?_)
    ·
      replace h := ht c_117
      refine XF.lift (pc2 := 134) (ls2 := [some (.ref 26), some (.int y1), some (.int (I 28 y1.toNatClampNeg)), some (.int (I (36 + 2 * (I 28 y1.toNatClampNeg).toNatClampNeg) 2)), some (.int ((I 3 2) - (I 26 17)))]) (st2 := [.int 1]) (I2 := I) ?_ (fun r I' hk => by
          refine XW.if_gt eX5_admits_117 (fun _ => ?_) (fun z => absurd c_117 z)
          refine XW.iconst (v := 1) eX5_admits_129 (by decide) ?_
          refine XW.goto eX5_admits_130 ?_
          exact hk)
      exact ⟨1, I, XW.iret eX5_admits_134 rfl rfl rfl rfl rfl, h⟩
    ·
      replace h := hf c_117
      refine XF.lift (pc2 := 123) (ls2 := [some (.ref 26), some (.int y1), some (.int (I 28 y1.toNatClampNeg)), some (.int (I (36 + 2 * (I 28 y1.toNatClampNeg).toNatClampNeg) 2)), some (.int ((I 3 2) - (I 26 17)))]) (st2 := [.int (I (36 + 2 * (I 28 y1.toNatClampNeg).toNatClampNeg) 2), .int y1, .ref 26]) (I2 := I) ?_ (fun r I' hk => by
          refine XW.if_gt eX5_admits_117 (fun z => absurd z c_117) (fun _ => ?_)
          refine XW.aload_n eX5_admits_120 rfl ?_
          refine XW.iload_n eX5_admits_121 rfl ?_
          refine XW.iload_n eX5_admits_122 rfl ?_
          exact hk)
      obtain ⟨Qc, hc, h⟩ := h
      refine XF.call (nx := 126) (st := []) hc (fun v I1 r I' hY hk => XW.callV (As := [.int y1, .int (I (36 + 2 * (I 28 y1.toNatClampNeg).toNatClampNeg) 2)]) (st := []) eX5_admits_123 okX5_pushesOut cv5_155 rfl (so_26 hs) hY (xnum rfl rfl rfl rfl rfl) hk) (fun v_123 I_123 hq => ?_)
      replace h := h v_123 I_123 hq
      obtain ⟨ht, hf⟩ := h
      refine XF.br (P := v_123 = 0) (fun c_126 => ?_) (fun c_126 => ?_)
      ·
        replace h := ht c_126
        refine XF.lift (pc2 := 134) (ls2 := [some (.ref 26), some (.int y1), some (.int (I 28 y1.toNatClampNeg)), some (.int (I (36 + 2 * (I 28 y1.toNatClampNeg).toNatClampNeg) 2)), some (.int ((I 3 2) - (I 26 17)))]) (st2 := [.int 0]) (I2 := I_123) ?_ (fun r I' hk => by
            refine XW.if_eq eX5_admits_126 (fun _ => ?_) (fun z => absurd c_126 z)
            refine XW.iconst (v := 0) eX5_admits_133 (by decide) ?_
            exact hk)
        exact ⟨0, I_123, XW.iret eX5_admits_134 rfl rfl rfl rfl rfl, h⟩
      ·
        replace h := hf c_126
        refine XF.lift (pc2 := 134) (ls2 := [some (.ref 26), some (.int y1), some (.int (I 28 y1.toNatClampNeg)), some (.int (I (36 + 2 * (I 28 y1.toNatClampNeg).toNatClampNeg) 2)), some (.int ((I 3 2) - (I 26 17)))]) (st2 := [.int 1]) (I2 := I_123) ?_ (fun r I' hk => by
            refine XW.if_eq eX5_admits_126 (fun z => absurd z c_126) (fun _ => ?_)
            refine XW.iconst (v := 1) eX5_admits_129 (by decide) ?_
            refine XW.goto eX5_admits_130 ?_
            exact hk)
        exact ⟨1, I_123, XW.iret eX5_admits_134 rfl rfl rfl rfl rfl, h⟩
  replace h := hf c_35_2
  obtain ⟨n_145, h⟩ := h
  refine XF.lift (pc2 := 148) (ls2 := [some (.ref 26), some (.int y1), some (.int (I 28 y1.toNatClampNeg)), some (.int (I (36 + 2 * (I 28 y1.toNatClampNeg).toNatClampNeg) 2)), some (.int ((I 3 2) - (I 26 17)))]) (st2 := [.int (kpt G I (gR G 4 (I 28 y1.toNatClampNeg).toNatClampNeg)), .int (I (36 + 2 * (I 28 y1.toNatClampNeg).toNatClampNeg) 2)]) (I2 := I) ?_ (fun r I' hk => by
      refine XW.tabOut (tgt := 135) dX5_admits_35 (tab_out 3 (by decide) (by intro k hk; rcases (show k = 0 ∨ k = 1 ∨ k = 2 by omega) with rfl | rfl | rfl <;> first | exact c_35_0 | exact c_35_1 | exact c_35_2)) (by decide) ?_
      refine XW.iload_n eX5_admits_135 rfl ?_
      refine XW.aload_n eX5_admits_136 rfl ?_
      refine XW.getR (b := 3) eX5_admits_137 f5_42_5 rfl (so_26 hs) (sr_26_0 hs) ?_
      refine XW.getR (b := 4) eX5_admits_140 f5_125_6 rfl (so_3 hs) (sr_3_0 hs) ?_
      refine XW.iload_n eX5_admits_143 rfl ?_
      refine XW.aaload (b := (gR G 4 (I 28 y1.toNatClampNeg).toNatClampNeg)) eX5_admits_144 (sa_4 hs) ⟨by decide, rfl⟩ q_12 rfl ?_
      refine XW.kept eX5_admits_145 co5_159_2 co5_159_8 co5_159_1 n_145 (Nat.le_of_ble_eq_true rfl) (Nat.le_of_ble_eq_true rfl) ?_
      exact hk)
  obtain ⟨ht, hf⟩ := h
  refine XF.br (P := (I (36 + 2 * (I 28 y1.toNatClampNeg).toNatClampNeg) 2) < (kpt G I (gR G 4 (I 28 y1.toNatClampNeg).toNatClampNeg))) (fun c_148 => ?_) (fun c_148 => ?_)
  ·
    replace h := ht c_148
    refine XF.lift (pc2 := 163) (ls2 := [some (.ref 26), some (.int y1), some (.int (I 28 y1.toNatClampNeg)), some (.int (I (36 + 2 * (I 28 y1.toNatClampNeg).toNatClampNeg) 2)), some (.int ((I 3 2) - (I 26 17)))]) (st2 := [.int 1]) (I2 := I) ?_ (fun r I' hk => by
        refine XW.icmp_lt eX5_admits_148 (fun _ => ?_) (fun z => absurd c_148 z)
        refine XW.iconst (v := 1) eX5_admits_158 (by decide) ?_
        refine XW.goto eX5_admits_159 ?_
        exact hk)
    exact ⟨1, I, XW.iret eX5_admits_163 rfl rfl rfl rfl rfl, h⟩
  ·
    replace h := hf c_148
    refine XF.lift (pc2 := 152) (ls2 := [some (.ref 26), some (.int y1), some (.int (I 28 y1.toNatClampNeg)), some (.int (I (36 + 2 * (I 28 y1.toNatClampNeg).toNatClampNeg) 2)), some (.int ((I 3 2) - (I 26 17)))]) (st2 := [.ref 26]) (I2 := I) ?_ (fun r I' hk => by
        refine XW.icmp_lt eX5_admits_148 (fun z => absurd z c_148) (fun _ => ?_)
        refine XW.aload_n eX5_admits_151 rfl ?_
        exact hk)
    obtain ⟨Qc, hc, h⟩ := h
    refine XF.call (nx := 155) (st := []) hc (fun v I1 r I' hY hk => XW.callV (As := []) (st := []) eX5_admits_152 okX5_hasRoomBeside cv5_163 rfl (so_26 hs) hY (xnum rfl rfl rfl rfl rfl) hk) (fun v_152 I_152 hq => ?_)
    replace h := h v_152 I_152 hq
    obtain ⟨ht, hf⟩ := h
    refine XF.br (P := v_152 = 0) (fun c_155 => ?_) (fun c_155 => ?_)
    ·
      replace h := ht c_155
      refine XF.lift (pc2 := 163) (ls2 := [some (.ref 26), some (.int y1), some (.int (I 28 y1.toNatClampNeg)), some (.int (I (36 + 2 * (I 28 y1.toNatClampNeg).toNatClampNeg) 2)), some (.int ((I 3 2) - (I 26 17)))]) (st2 := [.int 0]) (I2 := I_152) ?_ (fun r I' hk => by
          refine XW.if_eq eX5_admits_155 (fun _ => ?_) (fun z => absurd c_155 z)
          refine XW.iconst (v := 0) eX5_admits_162 (by decide) ?_
          exact hk)
      exact ⟨0, I_152, XW.iret eX5_admits_163 rfl rfl rfl rfl rfl, h⟩
    ·
      replace h := hf c_155
      refine XF.lift (pc2 := 163) (ls2 := [some (.ref 26), some (.int y1), some (.int (I 28 y1.toNatClampNeg)), some (.int (I (36 + 2 * (I 28 y1.toNatClampNeg).toNatClampNeg) 2)), some (.int ((I 3 2) - (I 26 17)))]) (st2 := [.int 1]) (I2 := I_152) ?_ (fun r I' hk => by
          refine XW.if_eq eX5_admits_155 (fun z => absurd z c_155) (fun _ => ?_)
          refine XW.iconst (v := 1) eX5_admits_158 (by decide) ?_
          refine XW.goto eX5_admits_159 ?_
          exact hk)
      exact ⟨1, I_152, XW.iret eX5_admits_163 rfl rfl rfl rfl rfl, h⟩
set_option maxRecDepth 100000 in
set_option maxHeartbeats 4000000 in
theorem VX5_offerb {l : Launch} {C : xC} {G : xG} (hs : SH G)  (I : xI) (y1 : Int32) {Q : Unit → xI → Prop} (h :
    (∃ Qc : Int32 → xI → Prop, XF fI l C mX5_admits 0 (xent mX5_admits [.ref 26, .int y1]) [] G (wI I 26 16 ((I 26 16) - 1)) Qc ∧ ∀ (v_12 : Int32) (I_12 : xI), Qc v_12 I_12 → ((v_12 = 0 → (∃ Qc : Unit → xI → Prop, XF fV l C mX5_settle 0 (xent mX5_settle [.ref 26, .int y1, .int 1, .int (I_12 26 12)]) [] G I_12 Qc ∧ ∀ (u_33 : Unit) (I_33 : xI), Qc u_33 I_33 → Q () I_33)) ∧ (¬ (v_12 = 0) → (∃ Qc : Unit → xI → Prop, XF fV l C mX5_take 0 (xent mX5_take [.ref 26, .int y1]) [] G I_12 Qc ∧ ∀ (u_20 : Unit) (I_20 : xI), Qc u_20 I_20 → Q () I_20))))) : XF fV l C mX5_offer 0 (xent mX5_offer [.ref 26, .int y1]) [] G I Q := by
  show XF fV l C mX5_offer 0 [some (.ref 26), some (.int y1)] [] G I Q
  refine XF.lift (pc2 := 12) (ls2 := [some (.ref 26), some (.int y1)]) (st2 := [.int y1, .ref 26]) (I2 := (wI I 26 16 ((I 26 16) - 1))) ?_ (fun r I' hk => by
      refine XW.aload_n eX5_offer_0 rfl ?_
      refine XW.dup eX5_offer_1 rfl ?_
      refine XW.getI eX5_offer_2 f5_59_5 rfl (so_26 hs) ?_
      refine XW.iconst (v := 1) eX5_offer_5 (by decide) ?_
      refine XW.isub eX5_offer_6 ?_
      refine XW.putI eX5_offer_7 f5_59_5 (xP_of rfl (by decide)) rfl ⟨rfl, rfl⟩ (so_26 hs) ?_
      refine XW.aload_n eX5_offer_10 rfl ?_
      refine XW.iload_n eX5_offer_11 rfl ?_
      exact hk)
  obtain ⟨Qc, hc, h⟩ := h
  refine XF.call (nx := 15) (st := []) hc (fun v I1 r I' hY hk => XW.callV (As := [.int y1]) (st := []) eX5_offer_12 okX5_admits cv5_137 rfl (so_26 hs) hY (xnum rfl rfl rfl rfl rfl) hk) (fun v_12 I_12 hq => ?_)
  replace h := h v_12 I_12 hq
  obtain ⟨ht, hf⟩ := h
  refine XF.br (P := v_12 = 0) (fun c_15 => ?_) (fun c_15 => ?_)
  ·
    replace h := ht c_15
    refine XF.lift (pc2 := 33) (ls2 := [some (.ref 26), some (.int y1)]) (st2 := [.int (I_12 26 12), .int 1, .int y1, .ref 26]) (I2 := I_12) ?_ (fun r I' hk => by
        refine XW.if_eq eX5_offer_15 (fun _ => ?_) (fun z => absurd c_15 z)
        refine XW.aload_n eX5_offer_26 rfl ?_
        refine XW.iload_n eX5_offer_27 rfl ?_
        refine XW.iconst (v := 1) eX5_offer_28 (by decide) ?_
        refine XW.aload_n eX5_offer_29 rfl ?_
        refine XW.getI eX5_offer_30 f5_65_5 rfl (so_26 hs) ?_
        exact hk)
    obtain ⟨Qc, hc, h⟩ := h
    refine XF.call (nx := 36) (st := []) hc (fun v I1 r I' hY hk => XW.callV (As := [.int y1, .int 1, .int (I_12 26 12)]) (st := []) eX5_offer_33 okX5_settle cv5_101 rfl (so_26 hs) hY (xnum rfl rfl rfl rfl rfl) hk) (fun _ I_33 hq => ?_)
    replace h := h () I_33 hq
    exact ⟨(), I_33, XW.vret eX5_offer_36 rfl rfl rfl rfl, h⟩
  ·
    replace h := hf c_15
    refine XF.lift (pc2 := 20) (ls2 := [some (.ref 26), some (.int y1)]) (st2 := [.int y1, .ref 26]) (I2 := I_12) ?_ (fun r I' hk => by
        refine XW.if_eq eX5_offer_15 (fun z => absurd z c_15) (fun _ => ?_)
        refine XW.aload_n eX5_offer_18 rfl ?_
        refine XW.iload_n eX5_offer_19 rfl ?_
        exact hk)
    obtain ⟨Qc, hc, h⟩ := h
    refine XF.call (nx := 23) (st := []) hc (fun v I1 r I' hY hk => XW.callV (As := [.int y1]) (st := []) eX5_offer_20 okX5_take cv5_140 rfl (so_26 hs) hY (xnum rfl rfl rfl rfl rfl) hk) (fun _ I_20 hq => ?_)
    replace h := h () I_20 hq
    refine XF.lift (pc2 := 36) (ls2 := [some (.ref 26), some (.int y1)]) (st2 := []) (I2 := I_20) ?_ (fun r I' hk => by
        refine XW.goto eX5_offer_23 ?_
        exact hk)
    exact ⟨(), I_20, XW.vret eX5_offer_36 rfl rfl rfl rfl, h⟩
set_option maxRecDepth 100000 in
set_option maxHeartbeats 4000000 in
theorem VX5_offerDueb_0 {l : Launch} {C : xC} {G : xG} (hs : SH G)  {w : Nat} (hw : RW G w) (hw0 : 49 ≤ w) (I : xI) {Q : Unit → xI → Prop} (h :
    (((I w 2) ≤ (I 26 13) → Q () I) ∧ (¬ ((I w 2) ≤ (I 26 13)) → vp_in (I 26 13) 80 ∧ (((I 26 12) < (I (w + 1) (I 26 13).toNatClampNeg) → Q () I) ∧ (¬ ((I 26 12) < (I (w + 1) (I 26 13).toNatClampNeg)) → (∃ Qc : Int32 → xI → Prop, XF fI l C mX5_waits 0 (xent mX5_waits [.ref 26, .int (I (w + 2) (I 26 13).toNatClampNeg)]) [] G I Qc ∧ ∀ (v_37 : Int32) (I_37 : xI), Qc v_37 I_37 → ((v_37 = 0 → (∃ Qc : Unit → xI → Prop, XF fV l C mX5_offer 0 (xent mX5_offer [.ref 26, .int (I_37 26 13)]) [] G I_37 Qc ∧ ∀ (u_48 : Unit) (I_48 : xI), Qc u_48 I_48 → XF fV l C mX5_offerDue 0 [some (.ref 26), some (.ref w)] [] G (wI I_48 26 13 ((I_48 26 13) + 1)) Q)) ∧ (¬ (v_37 = 0) → XF fV l C mX5_offerDue 0 [some (.ref 26), some (.ref w)] [] G (wI I_37 26 13 ((I_37 26 13) + 1)) Q)))))))) : XF fV l C mX5_offerDue 0 [some (.ref 26), some (.ref w)] [] G I Q := by
  refine XF.lift (pc2 := 8) (ls2 := [some (.ref 26), some (.ref w)]) (st2 := [.int (I w 2), .int (I 26 13)]) (I2 := I) ?_ (fun r I' hk => by
      refine XW.aload_n eX5_offerDue_0 rfl ?_
      refine XW.getI eX5_offerDue_1 f5_94_5 rfl (so_26 hs) ?_
      refine XW.aload_n eX5_offerDue_4 rfl ?_
      refine XW.getI eX5_offerDue_5 f5_86_4 rfl hw.1 ?_
      exact hk)
  obtain ⟨ht, hf⟩ := h
  refine XF.br (P := (I w 2) ≤ (I 26 13)) (fun c_8 => ?_) (fun c_8 => ?_)
  ·
    replace h := ht c_8
    refine XF.lift (pc2 := 64) (ls2 := [some (.ref 26), some (.ref w)]) (st2 := []) (I2 := I) ?_ (fun r I' hk => by
        refine XW.icmp_ge eX5_offerDue_8 (fun _ => ?_) (fun z => absurd c_8 z)
        exact hk)
    exact ⟨(), I, XW.vret eX5_offerDue_64 rfl rfl rfl rfl, h⟩
  ·
    replace h := hf c_8
    obtain ⟨q_19, h⟩ := h
    refine XF.lift (pc2 := 24) (ls2 := [some (.ref 26), some (.ref w)]) (st2 := [.int (I 26 12), .int (I (w + 1) (I 26 13).toNatClampNeg)]) (I2 := I) ?_ (fun r I' hk => by
        refine XW.icmp_ge eX5_offerDue_8 (fun z => absurd z c_8) (fun _ => ?_)
        refine XW.aload_n eX5_offerDue_11 rfl ?_
        refine XW.getR (b := (w + 1)) eX5_offerDue_12 f5_134_4 rfl hw.1 hw.2.1 ?_
        refine XW.aload_n eX5_offerDue_15 rfl ?_
        refine XW.getI eX5_offerDue_16 f5_94_5 rfl (so_26 hs) ?_
        refine XW.iaload eX5_offerDue_19 hw.2.2.2.1 q_19 ?_
        refine XW.aload_n eX5_offerDue_20 rfl ?_
        refine XW.getI eX5_offerDue_21 f5_65_5 rfl (so_26 hs) ?_
        exact hk)
    obtain ⟨ht, hf⟩ := h
    refine XF.br (P := (I 26 12) < (I (w + 1) (I 26 13).toNatClampNeg)) (fun c_24 => ?_) (fun c_24 => ?_)
    ·
      replace h := ht c_24
      refine XF.lift (pc2 := 64) (ls2 := [some (.ref 26), some (.ref w)]) (st2 := []) (I2 := I) ?_ (fun r I' hk => by
          refine XW.icmp_gt eX5_offerDue_24 (fun _ => ?_) (fun z => absurd c_24 z)
          exact hk)
      exact ⟨(), I, XW.vret eX5_offerDue_64 rfl rfl rfl rfl, h⟩
    ·
      replace h := hf c_24
      refine XF.lift (pc2 := 37) (ls2 := [some (.ref 26), some (.ref w)]) (st2 := [.int (I (w + 2) (I 26 13).toNatClampNeg), .ref 26]) (I2 := I) ?_ (fun r I' hk => by
          refine XW.icmp_gt eX5_offerDue_24 (fun z => absurd z c_24) (fun _ => ?_)
          refine XW.aload_n eX5_offerDue_27 rfl ?_
          refine XW.aload_n eX5_offerDue_28 rfl ?_
          refine XW.getR (b := (w + 2)) eX5_offerDue_29 f5_100_4 rfl hw.1 hw.2.2.1 ?_
          refine XW.aload_n eX5_offerDue_32 rfl ?_
          refine XW.getI eX5_offerDue_33 f5_94_5 rfl (so_26 hs) ?_
          refine XW.iaload eX5_offerDue_36 hw.2.2.2.2 q_19 ?_
          exact hk)
      obtain ⟨Qc, hc, h⟩ := h
      refine XF.call (nx := 40) (st := []) hc (fun v I1 r I' hY hk => XW.callV (As := [.int (I (w + 2) (I 26 13).toNatClampNeg)]) (st := []) eX5_offerDue_37 okX5_waits cv5_110 rfl (so_26 hs) hY (xnum rfl rfl rfl rfl rfl) hk) (fun v_37 I_37 hq => ?_)
      replace h := h v_37 I_37 hq
      obtain ⟨ht, hf⟩ := h
      refine XF.br (P := v_37 = 0) (fun c_40 => ?_) (fun c_40 => ?_)
      ·
        replace h := ht c_40
        refine XF.lift (pc2 := 48) (ls2 := [some (.ref 26), some (.ref w)]) (st2 := [.int (I_37 26 13), .ref 26]) (I2 := I_37) ?_ (fun r I' hk => by
            refine XW.if_ne eX5_offerDue_40 (fun z => absurd c_40 z) (fun _ => ?_)
            refine XW.aload_n eX5_offerDue_43 rfl ?_
            refine XW.aload_n eX5_offerDue_44 rfl ?_
            refine XW.getI eX5_offerDue_45 f5_94_5 rfl (so_26 hs) ?_
            exact hk)
        obtain ⟨Qc, hc, h⟩ := h
        refine XF.call (nx := 51) (st := []) hc (fun v I1 r I' hY hk => XW.callV (As := [.int (I_37 26 13)]) (st := []) eX5_offerDue_48 okX5_offer cv5_121 rfl (so_26 hs) hY (xnum rfl rfl rfl rfl rfl) hk) (fun _ I_48 hq => ?_)
        replace h := h () I_48 hq
        refine XF.lift (pc2 := 0) (ls2 := [some (.ref 26), some (.ref w)]) (st2 := []) (I2 := (wI I_48 26 13 ((I_48 26 13) + 1))) ?_ (fun r I' hk => by
            refine XW.aload_n eX5_offerDue_51 rfl ?_
            refine XW.dup eX5_offerDue_52 rfl ?_
            refine XW.getI eX5_offerDue_53 f5_94_5 rfl (so_26 hs) ?_
            refine XW.iconst (v := 1) eX5_offerDue_56 (by decide) ?_
            refine XW.iadd eX5_offerDue_57 ?_
            refine XW.putI eX5_offerDue_58 f5_94_5 (xP_of rfl (by decide)) rfl ⟨rfl, rfl⟩ (so_26 hs) ?_
            refine XW.goto eX5_offerDue_61 ?_
            exact hk)
        exact h
      ·
        replace h := hf c_40
        refine XF.lift (pc2 := 0) (ls2 := [some (.ref 26), some (.ref w)]) (st2 := []) (I2 := (wI I_37 26 13 ((I_37 26 13) + 1))) ?_ (fun r I' hk => by
            refine XW.if_ne eX5_offerDue_40 (fun _ => ?_) (fun z => absurd z c_40)
            refine XW.aload_n eX5_offerDue_51 rfl ?_
            refine XW.dup eX5_offerDue_52 rfl ?_
            refine XW.getI eX5_offerDue_53 f5_94_5 rfl (so_26 hs) ?_
            refine XW.iconst (v := 1) eX5_offerDue_56 (by decide) ?_
            refine XW.iadd eX5_offerDue_57 ?_
            refine XW.putI eX5_offerDue_58 f5_94_5 (xP_of rfl (by decide)) rfl ⟨rfl, rfl⟩ (so_26 hs) ?_
            refine XW.goto eX5_offerDue_61 ?_
            exact hk)
        exact h
set_option maxRecDepth 100000 in
set_option maxHeartbeats 4000000 in
theorem VX5_offerHeldb {l : Launch} {C : xC} {G : xG} (hs : SH G)  {w : Nat} (hw : RW G w) (hw0 : 49 ≤ w) (I : xI) {Q : Unit → xI → Prop} (h :
    XF fV l C mX5_offerHeld 2 [some (.ref 26), some (.ref w), some (.int 0), none] [] G I Q) : XF fV l C mX5_offerHeld 0 (xent mX5_offerHeld [.ref 26, .ref w]) [] G I Q := by
  show XF fV l C mX5_offerHeld 0 [some (.ref 26), some (.ref w), none, none] [] G I Q
  refine XF.lift (pc2 := 2) (ls2 := [some (.ref 26), some (.ref w), some (.int 0), none]) (st2 := []) (I2 := I) ?_ (fun r I' hk => by
      refine XW.iconst (v := 0) eX5_offerHeld_0 (by decide) ?_
      refine XW.istore_n (ls' := [some (.ref 26), some (.ref w), some (.int 0), none]) eX5_offerHeld_1 (Nat.le_of_ble_eq_true rfl) rfl ?_
      exact hk)
  exact h
set_option maxRecDepth 100000 in
set_option maxHeartbeats 4000000 in
theorem VX5_offerHeldb_2 {l : Launch} {C : xC} {G : xG} (hs : SH G)  {w : Nat} (hw : RW G w) (hw0 : 49 ≤ w) (I : xI) (x2 : Int32) {Q : Unit → xI → Prop} (h :
    (((I 3 1) ≤ x2 → Q () I) ∧ (¬ ((I 3 1) ≤ x2) → (∃ Qc : Int32 → xI → Prop, XF fI l C mX5_waits 0 (xent mX5_waits [.ref 26, .int x2]) [] G I Qc ∧ ∀ (v_15 : Int32) (I_15 : xI), Qc v_15 I_15 → ((v_15 = 0 → XF fV l C mX5_offerHeld 2 [some (.ref 26), some (.ref w), some (.int (x2 + 1)), none] [] G I_15 Q) ∧ (¬ (v_15 = 0) → (∃ Qc : Int32 → xI → Prop, XF fI l C mX5_isHalted 0 (xent mX5_isHalted [.ref 26, .int x2]) [] G I_15 Qc ∧ ∀ (v_23 : Int32) (I_23 : xI), Qc v_23 I_23 → ((v_23 = 0 → (∃ Qc : Int32 → xI → Prop, XF fI l C mX5_nextWaiting 0 (xent mX5_nextWaiting [.ref 26, .ref w, .int x2]) [] G I_23 Qc ∧ ∀ (v_32 : Int32) (I_32 : xI), Qc v_32 I_32 → ((v_32 = (-1) → XF fV l C mX5_offerHeld 2 [some (.ref 26), some (.ref w), some (.int (x2 + 1)), none] [] G I_32 Q) ∧ (¬ (v_32 = (-1)) → vp_in x2 4 ∧ (∃ Qc : Unit → xI → Prop, XF fV l C mX5_offer 0 (xent mX5_offer [.ref 26, .int v_32]) [] G (wI I_32 35 x2.toNatClampNeg (v_32 + 1)) Qc ∧ ∀ (u_52 : Unit) (I_52 : xI), Qc u_52 I_52 → XF fV l C mX5_offerHeld 2 [some (.ref 26), some (.ref w), some (.int (x2 + 1)), none] [] G I_52 Q))))) ∧ (¬ (v_23 = 0) → XF fV l C mX5_offerHeld 2 [some (.ref 26), some (.ref w), some (.int (x2 + 1)), none] [] G I_23 Q))))))))) : XF fV l C mX5_offerHeld 2 [some (.ref 26), some (.ref w), some (.int x2), none] [] G I Q := by
  refine XF.lift (pc2 := 10) (ls2 := [some (.ref 26), some (.ref w), some (.int x2), none]) (st2 := [.int (I 3 1), .int x2]) (I2 := I) ?_ (fun r I' hk => by
      refine XW.iload_n eX5_offerHeld_2 rfl ?_
      refine XW.aload_n eX5_offerHeld_3 rfl ?_
      refine XW.getR (b := 3) eX5_offerHeld_4 f5_42_5 rfl (so_26 hs) (sr_26_0 hs) ?_
      refine XW.getI eX5_offerHeld_7 f5_105_6 rfl (so_3 hs) ?_
      exact hk)
  obtain ⟨ht, hf⟩ := h
  refine XF.br (P := (I 3 1) ≤ x2) (fun c_10 => ?_) (fun c_10 => ?_)
  ·
    replace h := ht c_10
    refine XF.lift (pc2 := 61) (ls2 := [some (.ref 26), some (.ref w), some (.int x2), none]) (st2 := []) (I2 := I) ?_ (fun r I' hk => by
        refine XW.icmp_ge eX5_offerHeld_10 (fun _ => ?_) (fun z => absurd c_10 z)
        exact hk)
    exact ⟨(), I, XW.vret eX5_offerHeld_61 rfl rfl rfl rfl, h⟩
  ·
    replace h := hf c_10
    refine XF.lift (pc2 := 15) (ls2 := [some (.ref 26), some (.ref w), some (.int x2), none]) (st2 := [.int x2, .ref 26]) (I2 := I) ?_ (fun r I' hk => by
        refine XW.icmp_ge eX5_offerHeld_10 (fun z => absurd z c_10) (fun _ => ?_)
        refine XW.aload_n eX5_offerHeld_13 rfl ?_
        refine XW.iload_n eX5_offerHeld_14 rfl ?_
        exact hk)
    obtain ⟨Qc, hc, h⟩ := h
    refine XF.call (nx := 18) (st := []) hc (fun v I1 r I' hY hk => XW.callV (As := [.int x2]) (st := []) eX5_offerHeld_15 okX5_waits cv5_110 rfl (so_26 hs) hY (xnum rfl rfl rfl rfl rfl) hk) (fun v_15 I_15 hq => ?_)
    replace h := h v_15 I_15 hq
    obtain ⟨ht, hf⟩ := h
    refine XF.br (P := v_15 = 0) (fun c_18 => ?_) (fun c_18 => ?_)
    ·
      replace h := ht c_18
      refine XF.lift (pc2 := 2) (ls2 := [some (.ref 26), some (.ref w), some (.int (x2 + 1)), none]) (st2 := []) (I2 := I_15) ?_ (fun r I' hk => by
          refine XW.if_eq eX5_offerHeld_18 (fun _ => ?_) (fun z => absurd c_18 z)
          refine XW.iinc (y := (x2 + 1)) (ls' := [some (.ref 26), some (.ref w), some (.int (x2 + 1)), none]) eX5_offerHeld_55 rfl rfl rfl ?_
          refine XW.goto eX5_offerHeld_58 ?_
          exact hk)
      exact h
    ·
      replace h := hf c_18
      refine XF.lift (pc2 := 23) (ls2 := [some (.ref 26), some (.ref w), some (.int x2), none]) (st2 := [.int x2, .ref 26]) (I2 := I_15) ?_ (fun r I' hk => by
          refine XW.if_eq eX5_offerHeld_18 (fun z => absurd z c_18) (fun _ => ?_)
          refine XW.aload_n eX5_offerHeld_21 rfl ?_
          refine XW.iload_n eX5_offerHeld_22 rfl ?_
          exact hk)
      obtain ⟨Qc, hc, h⟩ := h
      refine XF.call (nx := 26) (st := []) hc (fun v I1 r I' hY hk => XW.callV (As := [.int x2]) (st := []) eX5_offerHeld_23 okX5_isHalted cv5_114 rfl (so_26 hs) hY (xnum rfl rfl rfl rfl rfl) hk) (fun v_23 I_23 hq => ?_)
      replace h := h v_23 I_23 hq
      obtain ⟨ht, hf⟩ := h
      refine XF.br (P := v_23 = 0) (fun c_26 => ?_) (fun c_26 => ?_)
      ·
        replace h := ht c_26
        refine XF.lift (pc2 := 32) (ls2 := [some (.ref 26), some (.ref w), some (.int x2), none]) (st2 := [.int x2, .ref w, .ref 26]) (I2 := I_23) ?_ (fun r I' hk => by
            refine XW.if_ne eX5_offerHeld_26 (fun z => absurd c_26 z) (fun _ => ?_)
            refine XW.aload_n eX5_offerHeld_29 rfl ?_
            refine XW.aload_n eX5_offerHeld_30 rfl ?_
            refine XW.iload_n eX5_offerHeld_31 rfl ?_
            exact hk)
        obtain ⟨Qc, hc, h⟩ := h
        refine XF.call (nx := 35) (st := []) hc (fun v I1 r I' hY hk => XW.callV (As := [.ref w, .int x2]) (st := []) eX5_offerHeld_32 okX5_nextWaiting cv5_117 rfl (so_26 hs) hY (xnum rfl rfl rfl rfl rfl) hk) (fun v_32 I_32 hq => ?_)
        replace h := h v_32 I_32 hq
        refine XF.lift (pc2 := 38) (ls2 := [some (.ref 26), some (.ref w), some (.int x2), some (.int v_32)]) (st2 := [.int (-1), .int v_32]) (I2 := I_32) ?_ (fun r I' hk => by
            refine XW.istore_n (ls' := [some (.ref 26), some (.ref w), some (.int x2), some (.int v_32)]) eX5_offerHeld_35 (Nat.le_of_ble_eq_true rfl) rfl ?_
            refine XW.iload_n eX5_offerHeld_36 rfl ?_
            refine XW.iconst (v := (-1)) eX5_offerHeld_37 (by decide) ?_
            exact hk)
        obtain ⟨ht, hf⟩ := h
        refine XF.br (P := v_32 = (-1)) (fun c_38 => ?_) (fun c_38 => ?_)
        ·
          replace h := ht c_38
          refine XF.lift (pc2 := 2) (ls2 := [some (.ref 26), some (.ref w), some (.int (x2 + 1)), none]) (st2 := []) (I2 := I_32) ?_ (fun r I' hk => by
              refine XW.icmp_eq eX5_offerHeld_38 (fun _ => ?_) (fun z => absurd c_38 z)
              refine XW.iinc (y := (x2 + 1)) (ls' := [some (.ref 26), some (.ref w), some (.int (x2 + 1)), some (.int v_32)]) eX5_offerHeld_55 rfl rfl rfl ?_
              refine XW.goto eX5_offerHeld_58 ?_
              refine XW.forget 3 rfl ?_
              exact hk)
          exact h
        ·
          replace h := hf c_38
          obtain ⟨q_49, h⟩ := h
          refine XF.lift (pc2 := 52) (ls2 := [some (.ref 26), some (.ref w), some (.int x2), some (.int v_32)]) (st2 := [.int v_32, .ref 26]) (I2 := (wI I_32 35 x2.toNatClampNeg (v_32 + 1))) ?_ (fun r I' hk => by
              refine XW.icmp_eq eX5_offerHeld_38 (fun z => absurd z c_38) (fun _ => ?_)
              refine XW.aload_n eX5_offerHeld_41 rfl ?_
              refine XW.getR (b := 35) eX5_offerHeld_42 f5_39_5 rfl (so_26 hs) (sr_26_9 hs) ?_
              refine XW.iload_n eX5_offerHeld_45 rfl ?_
              refine XW.iload_n eX5_offerHeld_46 rfl ?_
              refine XW.iconst (v := 1) eX5_offerHeld_47 (by decide) ?_
              refine XW.iadd eX5_offerHeld_48 ?_
              refine XW.iastore eX5_offerHeld_49 (sa_35 hs) q_49 ?_
              refine XW.aload_n eX5_offerHeld_50 rfl ?_
              refine XW.iload_n eX5_offerHeld_51 rfl ?_
              exact hk)
          obtain ⟨Qc, hc, h⟩ := h
          refine XF.call (nx := 55) (st := []) hc (fun v I1 r I' hY hk => XW.callV (As := [.int v_32]) (st := []) eX5_offerHeld_52 okX5_offer cv5_121 rfl (so_26 hs) hY (xnum rfl rfl rfl rfl rfl) hk) (fun _ I_52 hq => ?_)
          replace h := h () I_52 hq
          refine XF.lift (pc2 := 2) (ls2 := [some (.ref 26), some (.ref w), some (.int (x2 + 1)), none]) (st2 := []) (I2 := I_52) ?_ (fun r I' hk => by
              refine XW.iinc (y := (x2 + 1)) (ls' := [some (.ref 26), some (.ref w), some (.int (x2 + 1)), some (.int v_32)]) eX5_offerHeld_55 rfl rfl rfl ?_
              refine XW.goto eX5_offerHeld_58 ?_
              refine XW.forget 3 rfl ?_
              exact hk)
          exact h
      ·
        replace h := hf c_26
        refine XF.lift (pc2 := 2) (ls2 := [some (.ref 26), some (.ref w), some (.int (x2 + 1)), none]) (st2 := []) (I2 := I_23) ?_ (fun r I' hk => by
            refine XW.if_ne eX5_offerHeld_26 (fun _ => ?_) (fun z => absurd z c_26)
            refine XW.iinc (y := (x2 + 1)) (ls' := [some (.ref 26), some (.ref w), some (.int (x2 + 1)), none]) eX5_offerHeld_55 rfl rfl rfl ?_
            refine XW.goto eX5_offerHeld_58 ?_
            exact hk)
        exact h
set_option maxRecDepth 100000 in
set_option maxHeartbeats 4000000 in
theorem VX5_sendFirstsb {l : Launch} {C : xC} {G : xG} (hs : SH G)  (I : xI) {Q : Unit → xI → Prop} (h :
    XF fV l C mX5_sendFirsts 2 [some (.ref 26), some (.int 0)] [] G I Q) : XF fV l C mX5_sendFirsts 0 (xent mX5_sendFirsts [.ref 26]) [] G I Q := by
  show XF fV l C mX5_sendFirsts 0 [some (.ref 26), none] [] G I Q
  refine XF.lift (pc2 := 2) (ls2 := [some (.ref 26), some (.int 0)]) (st2 := []) (I2 := I) ?_ (fun r I' hk => by
      refine XW.iconst (v := 0) eX5_sendFirsts_0 (by decide) ?_
      refine XW.istore_n (ls' := [some (.ref 26), some (.int 0)]) eX5_sendFirsts_1 (Nat.le_of_ble_eq_true rfl) rfl ?_
      exact hk)
  exact h
set_option maxRecDepth 100000 in
set_option maxHeartbeats 4000000 in
theorem VX5_sendFirstsb_2 {l : Launch} {C : xC} {G : xG} (hs : SH G)  (I : xI) (x1 : Int32) {Q : Unit → xI → Prop} (h :
    (((I 3 1) ≤ x1 → Q () I) ∧ (¬ ((I 3 1) ≤ x1) → vp_in x1 4 ∧ (((I (36 + 2 * x1.toNatClampNeg) 2) ≤ 0 → XF fV l C mX5_sendFirsts 2 [some (.ref 26), some (.int (x1 + 1))] [] G I Q) ∧ (¬ ((I (36 + 2 * x1.toNatClampNeg) 2) ≤ 0) → LN G (gR G 4 x1.toNatClampNeg) ∧ ((SA (I (gR G 4 x1.toNatClampNeg) 1) (I 26 12) → (∃ Qc : Int32 → xI → Prop, XF fI l C mX3_removeFirst 0 (xent mX3_removeFirst [.ref (36 + 2 * x1.toNatClampNeg)]) [] G I Qc ∧ ∀ (v_51 : Int32) (I_51 : xI), Qc v_51 I_51 → (∃ Qc : Unit → xI → Prop, XF fV l C mX5_settle 0 (xent mX5_settle [.ref 26, .int v_51, .int 0, .int (I_51 26 12)]) [] G I_51 Qc ∧ ∀ (u_59 : Unit) (I_59 : xI), Qc u_59 I_59 → XF fV l C mX5_sendFirsts 2 [some (.ref 26), some (.int (x1 + 1))] [] G (wI I_59 26 17 ((I_59 26 17) - 1)) Q))) ∧ (¬ (SA (I (gR G 4 x1.toNatClampNeg) 1) (I 26 12)) → XF fV l C mX5_sendFirsts 2 [some (.ref 26), some (.int (x1 + 1))] [] G I Q))))))) : XF fV l C mX5_sendFirsts 2 [some (.ref 26), some (.int x1)] [] G I Q := by
  refine XF.lift (pc2 := 10) (ls2 := [some (.ref 26), some (.int x1)]) (st2 := [.int (I 3 1), .int x1]) (I2 := I) ?_ (fun r I' hk => by
      refine XW.iload_n eX5_sendFirsts_2 rfl ?_
      refine XW.aload_n eX5_sendFirsts_3 rfl ?_
      refine XW.getR (b := 3) eX5_sendFirsts_4 f5_42_5 rfl (so_26 hs) (sr_26_0 hs) ?_
      refine XW.getI eX5_sendFirsts_7 f5_105_6 rfl (so_3 hs) ?_
      exact hk)
  obtain ⟨ht, hf⟩ := h
  refine XF.br (P := (I 3 1) ≤ x1) (fun c_10 => ?_) (fun c_10 => ?_)
  ·
    replace h := ht c_10
    refine XF.lift (pc2 := 78) (ls2 := [some (.ref 26), some (.int x1)]) (st2 := []) (I2 := I) ?_ (fun r I' hk => by
        refine XW.icmp_ge eX5_sendFirsts_10 (fun _ => ?_) (fun z => absurd c_10 z)
        exact hk)
    exact ⟨(), I, XW.vret eX5_sendFirsts_78 rfl rfl rfl rfl, h⟩
  ·
    replace h := hf c_10
    obtain ⟨q_18, h⟩ := h
    refine XF.lift (pc2 := 22) (ls2 := [some (.ref 26), some (.int x1)]) (st2 := [.int (I (36 + 2 * x1.toNatClampNeg) 2)]) (I2 := I) ?_ (fun r I' hk => by
        refine XW.icmp_ge eX5_sendFirsts_10 (fun z => absurd z c_10) (fun _ => ?_)
        refine XW.aload_n eX5_sendFirsts_13 rfl ?_
        refine XW.getR (b := 27) eX5_sendFirsts_14 f5_11_5 rfl (so_26 hs) (sr_26_1 hs) ?_
        refine XW.iload_n eX5_sendFirsts_17 rfl ?_
        refine XW.aaload (b := (36 + 2 * x1.toNatClampNeg)) eX5_sendFirsts_18 (sa_27 hs) ⟨by decide, rfl⟩ q_18 (sq27 hs q_18) ?_
        refine XW.getI eX5_sendFirsts_19 f5_143_3 rfl (so27 hs q_18) ?_
        exact hk)
    obtain ⟨ht, hf⟩ := h
    refine XF.br (P := (I (36 + 2 * x1.toNatClampNeg) 2) ≤ 0) (fun c_22 => ?_) (fun c_22 => ?_)
    ·
      replace h := ht c_22
      refine XF.lift (pc2 := 2) (ls2 := [some (.ref 26), some (.int (x1 + 1))]) (st2 := []) (I2 := I) ?_ (fun r I' hk => by
          refine XW.if_le eX5_sendFirsts_22 (fun _ => ?_) (fun z => absurd c_22 z)
          refine XW.iinc (y := (x1 + 1)) (ls' := [some (.ref 26), some (.int (x1 + 1))]) eX5_sendFirsts_72 rfl rfl rfl ?_
          refine XW.goto eX5_sendFirsts_75 ?_
          exact hk)
      exact h
    ·
      replace h := hf c_22
      obtain ⟨n_38, h⟩ := h
      refine XF.lift (pc2 := 41) (ls2 := [some (.ref 26), some (.int x1)]) (st2 := [.int (bI (SA (I (gR G 4 x1.toNatClampNeg) 1) (I 26 12)))]) (I2 := I) ?_ (fun r I' hk => by
          refine XW.if_le eX5_sendFirsts_22 (fun z => absurd z c_22) (fun _ => ?_)
          refine XW.aload_n eX5_sendFirsts_25 rfl ?_
          refine XW.getR (b := 3) eX5_sendFirsts_26 f5_42_5 rfl (so_26 hs) (sr_26_0 hs) ?_
          refine XW.getR (b := 4) eX5_sendFirsts_29 f5_125_6 rfl (so_3 hs) (sr_3_0 hs) ?_
          refine XW.iload_n eX5_sendFirsts_32 rfl ?_
          refine XW.aaload (b := (gR G 4 x1.toNatClampNeg)) eX5_sendFirsts_33 (sa_4 hs) ⟨by decide, rfl⟩ q_18 rfl ?_
          refine XW.aload_n eX5_sendFirsts_34 rfl ?_
          refine XW.getI eX5_sendFirsts_35 f5_65_5 rfl (so_26 hs) ?_
          refine XW.sendsAt eX5_sendFirsts_38 co5_179_2 co5_179_8 co5_179_1 n_38 (Nat.le_of_ble_eq_true rfl) (Nat.le_of_ble_eq_true rfl) ?_
          exact hk)
      obtain ⟨ht, hf⟩ := h
      refine XF.br (P := SA (I (gR G 4 x1.toNatClampNeg) 1) (I 26 12)) (fun c_41 => ?_) (fun c_41 => ?_)
      ·
        replace h := ht c_41
        refine XF.lift (pc2 := 51) (ls2 := [some (.ref 26), some (.int x1)]) (st2 := [.ref (36 + 2 * x1.toNatClampNeg), .ref 26]) (I2 := I) ?_ (fun r I' hk => by
            refine XW.if_eqB eX5_sendFirsts_41 (fun z => absurd c_41 z) (fun _ => ?_)
            refine XW.aload_n eX5_sendFirsts_44 rfl ?_
            refine XW.aload_n eX5_sendFirsts_45 rfl ?_
            refine XW.getR (b := 27) eX5_sendFirsts_46 f5_11_5 rfl (so_26 hs) (sr_26_1 hs) ?_
            refine XW.iload_n eX5_sendFirsts_49 rfl ?_
            refine XW.aaload (b := (36 + 2 * x1.toNatClampNeg)) eX5_sendFirsts_50 (sa_27 hs) ⟨by decide, rfl⟩ q_18 (sq27 hs q_18) ?_
            exact hk)
        obtain ⟨Qc, hc, h⟩ := h
        refine XF.call (nx := 54) (st := [.ref 26]) hc (fun v I1 r I' hY hk => XW.callV (As := []) (st := [.ref 26]) eX5_sendFirsts_51 okX3_removeFirst cv5_182 rfl (so27 hs q_18) hY (xnum rfl rfl rfl rfl rfl) hk) (fun v_51 I_51 hq => ?_)
        replace h := h v_51 I_51 hq
        refine XF.lift (pc2 := 59) (ls2 := [some (.ref 26), some (.int x1)]) (st2 := [.int (I_51 26 12), .int 0, .int v_51, .ref 26]) (I2 := I_51) ?_ (fun r I' hk => by
            refine XW.iconst (v := 0) eX5_sendFirsts_54 (by decide) ?_
            refine XW.aload_n eX5_sendFirsts_55 rfl ?_
            refine XW.getI eX5_sendFirsts_56 f5_65_5 rfl (so_26 hs) ?_
            exact hk)
        obtain ⟨Qc, hc, h⟩ := h
        refine XF.call (nx := 62) (st := []) hc (fun v I1 r I' hY hk => XW.callV (As := [.int v_51, .int 0, .int (I_51 26 12)]) (st := []) eX5_sendFirsts_59 okX5_settle cv5_101 rfl (so_26 hs) hY (xnum rfl rfl rfl rfl rfl) hk) (fun _ I_59 hq => ?_)
        replace h := h () I_59 hq
        refine XF.lift (pc2 := 2) (ls2 := [some (.ref 26), some (.int (x1 + 1))]) (st2 := []) (I2 := (wI I_59 26 17 ((I_59 26 17) - 1))) ?_ (fun r I' hk => by
            refine XW.aload_n eX5_sendFirsts_62 rfl ?_
            refine XW.dup eX5_sendFirsts_63 rfl ?_
            refine XW.getI eX5_sendFirsts_64 f5_62_5 rfl (so_26 hs) ?_
            refine XW.iconst (v := 1) eX5_sendFirsts_67 (by decide) ?_
            refine XW.isub eX5_sendFirsts_68 ?_
            refine XW.putI eX5_sendFirsts_69 f5_62_5 (xP_of rfl (by decide)) rfl ⟨rfl, rfl⟩ (so_26 hs) ?_
            refine XW.iinc (y := (x1 + 1)) (ls' := [some (.ref 26), some (.int (x1 + 1))]) eX5_sendFirsts_72 rfl rfl rfl ?_
            refine XW.goto eX5_sendFirsts_75 ?_
            exact hk)
        exact h
      ·
        replace h := hf c_41
        refine XF.lift (pc2 := 2) (ls2 := [some (.ref 26), some (.int (x1 + 1))]) (st2 := []) (I2 := I) ?_ (fun r I' hk => by
            refine XW.if_eqB eX5_sendFirsts_41 (fun _ => ?_) (fun z => absurd z c_41)
            refine XW.iinc (y := (x1 + 1)) (ls' := [some (.ref 26), some (.int (x1 + 1))]) eX5_sendFirsts_72 rfl rfl rfl ?_
            refine XW.goto eX5_sendFirsts_75 ?_
            exact hk)
        exact h
set_option maxRecDepth 100000 in
set_option maxHeartbeats 4000000 in
theorem VX5_tellStatesb {l : Launch} {C : xC} {G : xG} (hs : SH G)  (I : xI) {Q : Unit → xI → Prop} (h :
    XF fV l C mX5_tellStates 2 [some (.ref 26), some (.int 0), none, none] [] G I Q) : XF fV l C mX5_tellStates 0 (xent mX5_tellStates [.ref 26]) [] G I Q := by
  show XF fV l C mX5_tellStates 0 [some (.ref 26), none, none, none] [] G I Q
  refine XF.lift (pc2 := 2) (ls2 := [some (.ref 26), some (.int 0), none, none]) (st2 := []) (I2 := I) ?_ (fun r I' hk => by
      refine XW.iconst (v := 0) eX5_tellStates_0 (by decide) ?_
      refine XW.istore_n (ls' := [some (.ref 26), some (.int 0), none, none]) eX5_tellStates_1 (Nat.le_of_ble_eq_true rfl) rfl ?_
      exact hk)
  exact h
set_option maxRecDepth 100000 in
set_option maxHeartbeats 4000000 in
theorem VX5_tellStatesb_2 {l : Launch} {C : xC} {G : xG} (hs : SH G)  (I : xI) (x1 : Int32) {Q : Unit → xI → Prop} (h :
    (((I 3 1) ≤ x1 → Q () I) ∧ (¬ ((I 3 1) ≤ x1) → vp_in x1 4 ∧ LN G (gR G 4 x1.toNatClampNeg) ∧ ((gT G (gR G 4 x1.toNatClampNeg) = 1 → ((((I 34 x1.toNatClampNeg) &&& 1) = 1 → (∃ Qc : Int32 → xI → Prop, XF fI l C mX1_tellsHalt 0 (xent mX1_tellsHalt [.ref (gR G 4 x1.toNatClampNeg), .int (I (36 + 2 * x1.toNatClampNeg) 2), .int 1]) [] G I Qc ∧ ∀ (v_62 : Int32) (I_62 : xI), Qc v_62 I_62 → ((v_62 = 0 → XF fV l C mX5_tellStates 2 [some (.ref 26), some (.int (x1 + 1)), none, none] [] G (wI I_62 34 x1.toNatClampNeg (((I_62 34 x1.toNatClampNeg) <<< (1 &&& 31)) ||| 0)) Q) ∧ (¬ (v_62 = 0) → XF fV l C mX5_tellStates 2 [some (.ref 26), some (.int (x1 + 1)), none, none] [] G (wI I_62 34 x1.toNatClampNeg (((I_62 34 x1.toNatClampNeg) <<< (1 &&& 31)) ||| 1)) Q)))) ∧ (¬ (((I 34 x1.toNatClampNeg) &&& 1) = 1) → (∃ Qc : Int32 → xI → Prop, XF fI l C mX1_tellsHalt 0 (xent mX1_tellsHalt [.ref (gR G 4 x1.toNatClampNeg), .int (I (36 + 2 * x1.toNatClampNeg) 2), .int 0]) [] G I Qc ∧ ∀ (v_62 : Int32) (I_62 : xI), Qc v_62 I_62 → ((v_62 = 0 → XF fV l C mX5_tellStates 2 [some (.ref 26), some (.int (x1 + 1)), none, none] [] G (wI I_62 34 x1.toNatClampNeg (((I_62 34 x1.toNatClampNeg) <<< (1 &&& 31)) ||| 0)) Q) ∧ (¬ (v_62 = 0) → XF fV l C mX5_tellStates 2 [some (.ref 26), some (.int (x1 + 1)), none, none] [] G (wI I_62 34 x1.toNatClampNeg (((I_62 34 x1.toNatClampNeg) <<< (1 &&& 31)) ||| 1)) Q)))))) ∧ (¬ (gT G (gR G 4 x1.toNatClampNeg) = 1) → XF fV l C mX5_tellStates 2 [some (.ref 26), some (.int (x1 + 1)), none, none] [] G I Q))))) : XF fV l C mX5_tellStates 2 [some (.ref 26), some (.int x1), none, none] [] G I Q := by
  refine XF.lift (pc2 := 10) (ls2 := [some (.ref 26), some (.int x1), none, none]) (st2 := [.int (I 3 1), .int x1]) (I2 := I) ?_ (fun r I' hk => by
      refine XW.iload_n eX5_tellStates_2 rfl ?_
      refine XW.aload_n eX5_tellStates_3 rfl ?_
      refine XW.getR (b := 3) eX5_tellStates_4 f5_42_5 rfl (so_26 hs) (sr_26_0 hs) ?_
      refine XW.getI eX5_tellStates_7 f5_105_6 rfl (so_3 hs) ?_
      exact hk)
  obtain ⟨ht, hf⟩ := h
  refine XF.br (P := (I 3 1) ≤ x1) (fun c_10 => ?_) (fun c_10 => ?_)
  ·
    replace h := ht c_10
    refine XF.lift (pc2 := 96) (ls2 := [some (.ref 26), some (.int x1), none, none]) (st2 := []) (I2 := I) ?_ (fun r I' hk => by
        refine XW.icmp_ge eX5_tellStates_10 (fun _ => ?_) (fun z => absurd c_10 z)
        exact hk)
    exact ⟨(), I, XW.vret eX5_tellStates_96 rfl rfl rfl rfl, h⟩
  ·
    replace h := hf c_10
    obtain ⟨q_21, h⟩ := h
    obtain ⟨n_24, h⟩ := h
    refine XF.lift (pc2 := 27) (ls2 := [some (.ref 26), some (.int x1), none, some (.ref (gR G 4 x1.toNatClampNeg))]) (st2 := [.int (bI (gT G (gR G 4 x1.toNatClampNeg) = 1))]) (I2 := I) ?_ (fun r I' hk => by
        refine XW.icmp_ge eX5_tellStates_10 (fun z => absurd z c_10) (fun _ => ?_)
        refine XW.aload_n eX5_tellStates_13 rfl ?_
        refine XW.getR (b := 3) eX5_tellStates_14 f5_42_5 rfl (so_26 hs) (sr_26_0 hs) ?_
        refine XW.getR (b := 4) eX5_tellStates_17 f5_125_6 rfl (so_3 hs) (sr_3_0 hs) ?_
        refine XW.iload_n eX5_tellStates_20 rfl ?_
        refine XW.aaload (b := (gR G 4 x1.toNatClampNeg)) eX5_tellStates_21 (sa_4 hs) ⟨by decide, rfl⟩ q_21 rfl ?_
        refine XW.astore_n (ls' := [some (.ref 26), some (.int x1), none, some (.ref (gR G 4 x1.toNatClampNeg))]) eX5_tellStates_22 (Nat.le_of_ble_eq_true rfl) rfl ?_
        refine XW.aload_n eX5_tellStates_23 rfl ?_
        refine XW.isHeld eX5_tellStates_24 cl5_129 n_24 ?_
        exact hk)
    obtain ⟨ht, hf⟩ := h
    refine XF.br (P := gT G (gR G 4 x1.toNatClampNeg) = 1) (fun c_27 => ?_) (fun c_27 => ?_)
    ·
      replace h := ht c_27
      refine XF.lift (pc2 := 54) (ls2 := [some (.ref 26), some (.int x1), some (.ref (gR G 4 x1.toNatClampNeg)), some (.ref (gR G 4 x1.toNatClampNeg))]) (st2 := [.int 1, .int ((I 34 x1.toNatClampNeg) &&& 1), .int (I (36 + 2 * x1.toNatClampNeg) 2), .ref (gR G 4 x1.toNatClampNeg)]) (I2 := I) ?_ (fun r I' hk => by
          refine XW.if_eqB eX5_tellStates_27 (fun z => absurd c_27 z) (fun _ => ?_)
          refine XW.aload_n eX5_tellStates_30 rfl ?_
          refine XW.cast (q := (RX1, TX1, 6)) eX5_tellStates_31 (n_24.held c_27) rfl cl5_129 (Or.inl rfl) ?_
          refine XW.astore_n (ls' := [some (.ref 26), some (.int x1), some (.ref (gR G 4 x1.toNatClampNeg)), some (.ref (gR G 4 x1.toNatClampNeg))]) eX5_tellStates_34 (Nat.le_of_ble_eq_true rfl) rfl ?_
          refine XW.aload_n eX5_tellStates_35 rfl ?_
          refine XW.aload_n eX5_tellStates_36 rfl ?_
          refine XW.getR (b := 27) eX5_tellStates_37 f5_11_5 rfl (so_26 hs) (sr_26_1 hs) ?_
          refine XW.iload_n eX5_tellStates_40 rfl ?_
          refine XW.aaload (b := (36 + 2 * x1.toNatClampNeg)) eX5_tellStates_41 (sa_27 hs) ⟨by decide, rfl⟩ q_21 (sq27 hs q_21) ?_
          refine XW.getI eX5_tellStates_42 f5_143_3 rfl (so27 hs q_21) ?_
          refine XW.aload_n eX5_tellStates_45 rfl ?_
          refine XW.getR (b := 34) eX5_tellStates_46 f5_36_5 rfl (so_26 hs) (sr_26_8 hs) ?_
          refine XW.iload_n eX5_tellStates_49 rfl ?_
          refine XW.iaload eX5_tellStates_50 (sa_34 hs) q_21 ?_
          refine XW.iconst (v := 1) eX5_tellStates_51 (by decide) ?_
          refine XW.iand eX5_tellStates_52 ?_
          refine XW.iconst (v := 1) eX5_tellStates_53 (by decide) ?_
          exact hk)
      obtain ⟨ht, hf⟩ := h
      refine XF.br (P := ((I 34 x1.toNatClampNeg) &&& 1) = 1) (fun c_54 => ?_) (fun c_54 => ?_)
      ·
        replace h := ht c_54
        refine XF.lift (pc2 := 62) (ls2 := [some (.ref 26), some (.int x1), some (.ref (gR G 4 x1.toNatClampNeg)), some (.ref (gR G 4 x1.toNatClampNeg))]) (st2 := [.int 1, .int (I (36 + 2 * x1.toNatClampNeg) 2), .ref (gR G 4 x1.toNatClampNeg)]) (I2 := I) ?_ (fun r I' hk => by
            refine XW.icmp_ne eX5_tellStates_54 (fun z => absurd c_54 z) (fun _ => ?_)
            refine XW.iconst (v := 1) eX5_tellStates_57 (by decide) ?_
            refine XW.goto eX5_tellStates_58 ?_
            exact hk)
        obtain ⟨Qc, hc, h⟩ := h
        refine XF.call (nx := 65) (st := []) hc (fun v I1 r I' hY hk => XW.callV (As := [.int (I (36 + 2 * x1.toNatClampNeg) 2), .int 1]) (st := []) eX5_tellStates_62 okX1_tellsHalt cv5_185 rfl (n_24.held c_27) hY (xnum rfl rfl rfl rfl rfl) hk) (fun v_62 I_62 hq => ?_)
        replace h := h v_62 I_62 hq
        refine XF.lift (pc2 := 80) (ls2 := [some (.ref 26), some (.int x1), some (.ref (gR G 4 x1.toNatClampNeg)), some (.int v_62)]) (st2 := [.int v_62, .int ((I_62 34 x1.toNatClampNeg) <<< (1 &&& 31)), .int x1, .ref 34]) (I2 := I_62) ?_ (fun r I' hk => by
            refine XW.istore_n (ls' := [some (.ref 26), some (.int x1), some (.ref (gR G 4 x1.toNatClampNeg)), some (.int v_62)]) eX5_tellStates_65 (Nat.le_of_ble_eq_true rfl) rfl ?_
            refine XW.aload_n eX5_tellStates_66 rfl ?_
            refine XW.getR (b := 34) eX5_tellStates_67 f5_36_5 rfl (so_26 hs) (sr_26_8 hs) ?_
            refine XW.iload_n eX5_tellStates_70 rfl ?_
            refine XW.aload_n eX5_tellStates_71 rfl ?_
            refine XW.getR (b := 34) eX5_tellStates_72 f5_36_5 rfl (so_26 hs) (sr_26_8 hs) ?_
            refine XW.iload_n eX5_tellStates_75 rfl ?_
            refine XW.iaload eX5_tellStates_76 (sa_34 hs) q_21 ?_
            refine XW.iconst (v := 1) eX5_tellStates_77 (by decide) ?_
            refine XW.ishl eX5_tellStates_78 ?_
            refine XW.iload_n eX5_tellStates_79 rfl ?_
            exact hk)
        obtain ⟨ht, hf⟩ := h
        refine XF.br (P := v_62 = 0) (fun c_80 => ?_) (fun c_80 => ?_)
        ·
          replace h := ht c_80
          refine XF.lift (pc2 := 2) (ls2 := [some (.ref 26), some (.int (x1 + 1)), none, none]) (st2 := []) (I2 := (wI I_62 34 x1.toNatClampNeg (((I_62 34 x1.toNatClampNeg) <<< (1 &&& 31)) ||| 0))) ?_ (fun r I' hk => by
              refine XW.if_eq eX5_tellStates_80 (fun _ => ?_) (fun z => absurd c_80 z)
              refine XW.iconst (v := 0) eX5_tellStates_87 (by decide) ?_
              refine XW.ior eX5_tellStates_88 ?_
              refine XW.iastore eX5_tellStates_89 (sa_34 hs) q_21 ?_
              refine XW.iinc (y := (x1 + 1)) (ls' := [some (.ref 26), some (.int (x1 + 1)), some (.ref (gR G 4 x1.toNatClampNeg)), some (.int v_62)]) eX5_tellStates_90 rfl rfl rfl ?_
              refine XW.goto eX5_tellStates_93 ?_
              refine XW.forget 2 rfl ?_
              refine XW.forget 3 rfl ?_
              exact hk)
          exact h
        ·
          replace h := hf c_80
          refine XF.lift (pc2 := 2) (ls2 := [some (.ref 26), some (.int (x1 + 1)), none, none]) (st2 := []) (I2 := (wI I_62 34 x1.toNatClampNeg (((I_62 34 x1.toNatClampNeg) <<< (1 &&& 31)) ||| 1))) ?_ (fun r I' hk => by
              refine XW.if_eq eX5_tellStates_80 (fun z => absurd z c_80) (fun _ => ?_)
              refine XW.iconst (v := 1) eX5_tellStates_83 (by decide) ?_
              refine XW.goto eX5_tellStates_84 ?_
              refine XW.ior eX5_tellStates_88 ?_
              refine XW.iastore eX5_tellStates_89 (sa_34 hs) q_21 ?_
              refine XW.iinc (y := (x1 + 1)) (ls' := [some (.ref 26), some (.int (x1 + 1)), some (.ref (gR G 4 x1.toNatClampNeg)), some (.int v_62)]) eX5_tellStates_90 rfl rfl rfl ?_
              refine XW.goto eX5_tellStates_93 ?_
              refine XW.forget 2 rfl ?_
              refine XW.forget 3 rfl ?_
              exact hk)
          exact h
      ·
        replace h := hf c_54
        refine XF.lift (pc2 := 62) (ls2 := [some (.ref 26), some (.int x1), some (.ref (gR G 4 x1.toNatClampNeg)), some (.ref (gR G 4 x1.toNatClampNeg))]) (st2 := [.int 0, .int (I (36 + 2 * x1.toNatClampNeg) 2), .ref (gR G 4 x1.toNatClampNeg)]) (I2 := I) ?_ (fun r I' hk => by
            refine XW.icmp_ne eX5_tellStates_54 (fun _ => ?_) (fun z => absurd z c_54)
            refine XW.iconst (v := 0) eX5_tellStates_61 (by decide) ?_
            exact hk)
        obtain ⟨Qc, hc, h⟩ := h
        refine XF.call (nx := 65) (st := []) hc (fun v I1 r I' hY hk => XW.callV (As := [.int (I (36 + 2 * x1.toNatClampNeg) 2), .int 0]) (st := []) eX5_tellStates_62 okX1_tellsHalt cv5_185 rfl (n_24.held c_27) hY (xnum rfl rfl rfl rfl rfl) hk) (fun v_62 I_62 hq => ?_)
        replace h := h v_62 I_62 hq
        refine XF.lift (pc2 := 80) (ls2 := [some (.ref 26), some (.int x1), some (.ref (gR G 4 x1.toNatClampNeg)), some (.int v_62)]) (st2 := [.int v_62, .int ((I_62 34 x1.toNatClampNeg) <<< (1 &&& 31)), .int x1, .ref 34]) (I2 := I_62) ?_ (fun r I' hk => by
            refine XW.istore_n (ls' := [some (.ref 26), some (.int x1), some (.ref (gR G 4 x1.toNatClampNeg)), some (.int v_62)]) eX5_tellStates_65 (Nat.le_of_ble_eq_true rfl) rfl ?_
            refine XW.aload_n eX5_tellStates_66 rfl ?_
            refine XW.getR (b := 34) eX5_tellStates_67 f5_36_5 rfl (so_26 hs) (sr_26_8 hs) ?_
            refine XW.iload_n eX5_tellStates_70 rfl ?_
            refine XW.aload_n eX5_tellStates_71 rfl ?_
            refine XW.getR (b := 34) eX5_tellStates_72 f5_36_5 rfl (so_26 hs) (sr_26_8 hs) ?_
            refine XW.iload_n eX5_tellStates_75 rfl ?_
            refine XW.iaload eX5_tellStates_76 (sa_34 hs) q_21 ?_
            refine XW.iconst (v := 1) eX5_tellStates_77 (by decide) ?_
            refine XW.ishl eX5_tellStates_78 ?_
            refine XW.iload_n eX5_tellStates_79 rfl ?_
            exact hk)
        obtain ⟨ht, hf⟩ := h
        refine XF.br (P := v_62 = 0) (fun c_80 => ?_) (fun c_80 => ?_)
        ·
          replace h := ht c_80
          refine XF.lift (pc2 := 2) (ls2 := [some (.ref 26), some (.int (x1 + 1)), none, none]) (st2 := []) (I2 := (wI I_62 34 x1.toNatClampNeg (((I_62 34 x1.toNatClampNeg) <<< (1 &&& 31)) ||| 0))) ?_ (fun r I' hk => by
              refine XW.if_eq eX5_tellStates_80 (fun _ => ?_) (fun z => absurd c_80 z)
              refine XW.iconst (v := 0) eX5_tellStates_87 (by decide) ?_
              refine XW.ior eX5_tellStates_88 ?_
              refine XW.iastore eX5_tellStates_89 (sa_34 hs) q_21 ?_
              refine XW.iinc (y := (x1 + 1)) (ls' := [some (.ref 26), some (.int (x1 + 1)), some (.ref (gR G 4 x1.toNatClampNeg)), some (.int v_62)]) eX5_tellStates_90 rfl rfl rfl ?_
              refine XW.goto eX5_tellStates_93 ?_
              refine XW.forget 2 rfl ?_
              refine XW.forget 3 rfl ?_
              exact hk)
          exact h
        ·
          replace h := hf c_80
          refine XF.lift (pc2 := 2) (ls2 := [some (.ref 26), some (.int (x1 + 1)), none, none]) (st2 := []) (I2 := (wI I_62 34 x1.toNatClampNeg (((I_62 34 x1.toNatClampNeg) <<< (1 &&& 31)) ||| 1))) ?_ (fun r I' hk => by
              refine XW.if_eq eX5_tellStates_80 (fun z => absurd z c_80) (fun _ => ?_)
              refine XW.iconst (v := 1) eX5_tellStates_83 (by decide) ?_
              refine XW.goto eX5_tellStates_84 ?_
              refine XW.ior eX5_tellStates_88 ?_
              refine XW.iastore eX5_tellStates_89 (sa_34 hs) q_21 ?_
              refine XW.iinc (y := (x1 + 1)) (ls' := [some (.ref 26), some (.int (x1 + 1)), some (.ref (gR G 4 x1.toNatClampNeg)), some (.int v_62)]) eX5_tellStates_90 rfl rfl rfl ?_
              refine XW.goto eX5_tellStates_93 ?_
              refine XW.forget 2 rfl ?_
              refine XW.forget 3 rfl ?_
              exact hk)
          exact h
    ·
      replace h := hf c_27
      refine XF.lift (pc2 := 2) (ls2 := [some (.ref 26), some (.int (x1 + 1)), none, none]) (st2 := []) (I2 := I) ?_ (fun r I' hk => by
          refine XW.if_eqB eX5_tellStates_27 (fun _ => ?_) (fun z => absurd z c_27)
          refine XW.iinc (y := (x1 + 1)) (ls' := [some (.ref 26), some (.int (x1 + 1)), none, some (.ref (gR G 4 x1.toNatClampNeg))]) eX5_tellStates_90 rfl rfl rfl ?_
          refine XW.goto eX5_tellStates_93 ?_
          refine XW.forget 3 rfl ?_
          exact hk)
      exact h
set_option maxRecDepth 100000 in
set_option maxHeartbeats 4000000 in
theorem VX5_sendRestb {l : Launch} {C : xC} {G : xG} (hs : SH G)  (I : xI) {Q : Unit → xI → Prop} (h :
    XF fV l C mX5_sendRest 2 [some (.ref 26), some (.int 0), none] [] G I Q) : XF fV l C mX5_sendRest 0 (xent mX5_sendRest [.ref 26]) [] G I Q := by
  show XF fV l C mX5_sendRest 0 [some (.ref 26), none, none] [] G I Q
  refine XF.lift (pc2 := 2) (ls2 := [some (.ref 26), some (.int 0), none]) (st2 := []) (I2 := I) ?_ (fun r I' hk => by
      refine XW.iconst (v := 0) eX5_sendRest_0 (by decide) ?_
      refine XW.istore_n (ls' := [some (.ref 26), some (.int 0), none]) eX5_sendRest_1 (Nat.le_of_ble_eq_true rfl) rfl ?_
      exact hk)
  exact h
set_option maxRecDepth 100000 in
set_option maxHeartbeats 4000000 in
theorem VX5_sendRestb_2 {l : Launch} {C : xC} {G : xG} (hs : SH G)  (I : xI) (x1 : Int32) {Q : Unit → xI → Prop} (h :
    ((4 ≤ x1 → Q () I) ∧ (¬ (4 ≤ x1) → vp_in x1 4 ∧ XF fV l C mX5_sendRest 17 [some (.ref 26), some (.int x1), some (.int (I (36 + 2 * x1.toNatClampNeg) 2))] [] G I Q))) : XF fV l C mX5_sendRest 2 [some (.ref 26), some (.int x1), none] [] G I Q := by
  refine XF.lift (pc2 := 4) (ls2 := [some (.ref 26), some (.int x1), none]) (st2 := [.int 4, .int x1]) (I2 := I) ?_ (fun r I' hk => by
      refine XW.iload_n eX5_sendRest_2 rfl ?_
      refine XW.iconst (v := 4) eX5_sendRest_3 (by decide) ?_
      exact hk)
  obtain ⟨ht, hf⟩ := h
  refine XF.br (P := 4 ≤ x1) (fun c_4 => ?_) (fun c_4 => ?_)
  ·
    replace h := ht c_4
    refine XF.lift (pc2 := 50) (ls2 := [some (.ref 26), some (.int x1), none]) (st2 := []) (I2 := I) ?_ (fun r I' hk => by
        refine XW.icmp_ge eX5_sendRest_4 (fun _ => ?_) (fun z => absurd c_4 z)
        exact hk)
    exact ⟨(), I, XW.vret eX5_sendRest_50 rfl rfl rfl rfl, h⟩
  ·
    replace h := hf c_4
    obtain ⟨q_12, h⟩ := h
    refine XF.lift (pc2 := 17) (ls2 := [some (.ref 26), some (.int x1), some (.int (I (36 + 2 * x1.toNatClampNeg) 2))]) (st2 := []) (I2 := I) ?_ (fun r I' hk => by
        refine XW.icmp_ge eX5_sendRest_4 (fun z => absurd z c_4) (fun _ => ?_)
        refine XW.aload_n eX5_sendRest_7 rfl ?_
        refine XW.getR (b := 27) eX5_sendRest_8 f5_11_5 rfl (so_26 hs) (sr_26_1 hs) ?_
        refine XW.iload_n eX5_sendRest_11 rfl ?_
        refine XW.aaload (b := (36 + 2 * x1.toNatClampNeg)) eX5_sendRest_12 (sa_27 hs) ⟨by decide, rfl⟩ q_12 (sq27 hs q_12) ?_
        refine XW.getI eX5_sendRest_13 f5_143_3 rfl (so27 hs q_12) ?_
        refine XW.istore_n (ls' := [some (.ref 26), some (.int x1), some (.int (I (36 + 2 * x1.toNatClampNeg) 2))]) eX5_sendRest_16 (Nat.le_of_ble_eq_true rfl) rfl ?_
        exact hk)
    exact h
set_option maxRecDepth 100000 in
set_option maxHeartbeats 4000000 in
theorem VX5_sendRestb_17 {l : Launch} {C : xC} {G : xG} (hs : SH G)  (I : xI) (x1 x2 : Int32) {Q : Unit → xI → Prop} (h :
    ((x2 ≤ 0 → XF fV l C mX5_sendRest 2 [some (.ref 26), some (.int (x1 + 1)), none] [] G I Q) ∧ (¬ (x2 ≤ 0) → vp_in x1 4 ∧ (∃ Qc : Int32 → xI → Prop, XF fI l C mX3_removeFirst 0 (xent mX3_removeFirst [.ref (36 + 2 * x1.toNatClampNeg)]) [] G I Qc ∧ ∀ (v_28 : Int32) (I_28 : xI), Qc v_28 I_28 → (∃ Qc : Unit → xI → Prop, XF fV l C mX5_settle 0 (xent mX5_settle [.ref 26, .int v_28, .int 0, .int 400]) [] G I_28 Qc ∧ ∀ (u_35 : Unit) (I_35 : xI), Qc u_35 I_35 → XF fV l C mX5_sendRest 17 [some (.ref 26), some (.int x1), some (.int (x2 + (-1)))] [] G I_35 Q))))) : XF fV l C mX5_sendRest 17 [some (.ref 26), some (.int x1), some (.int x2)] [] G I Q := by
  refine XF.lift (pc2 := 18) (ls2 := [some (.ref 26), some (.int x1), some (.int x2)]) (st2 := [.int x2]) (I2 := I) ?_ (fun r I' hk => by
      refine XW.iload_n eX5_sendRest_17 rfl ?_
      exact hk)
  obtain ⟨ht, hf⟩ := h
  refine XF.br (P := x2 ≤ 0) (fun c_18 => ?_) (fun c_18 => ?_)
  ·
    replace h := ht c_18
    refine XF.lift (pc2 := 2) (ls2 := [some (.ref 26), some (.int (x1 + 1)), none]) (st2 := []) (I2 := I) ?_ (fun r I' hk => by
        refine XW.if_le eX5_sendRest_18 (fun _ => ?_) (fun z => absurd c_18 z)
        refine XW.iinc (y := (x1 + 1)) (ls' := [some (.ref 26), some (.int (x1 + 1)), some (.int x2)]) eX5_sendRest_44 rfl rfl rfl ?_
        refine XW.goto eX5_sendRest_47 ?_
        refine XW.forget 2 rfl ?_
        exact hk)
    exact h
  ·
    replace h := hf c_18
    obtain ⟨q_27, h⟩ := h
    refine XF.lift (pc2 := 28) (ls2 := [some (.ref 26), some (.int x1), some (.int x2)]) (st2 := [.ref (36 + 2 * x1.toNatClampNeg), .ref 26]) (I2 := I) ?_ (fun r I' hk => by
        refine XW.if_le eX5_sendRest_18 (fun z => absurd z c_18) (fun _ => ?_)
        refine XW.aload_n eX5_sendRest_21 rfl ?_
        refine XW.aload_n eX5_sendRest_22 rfl ?_
        refine XW.getR (b := 27) eX5_sendRest_23 f5_11_5 rfl (so_26 hs) (sr_26_1 hs) ?_
        refine XW.iload_n eX5_sendRest_26 rfl ?_
        refine XW.aaload (b := (36 + 2 * x1.toNatClampNeg)) eX5_sendRest_27 (sa_27 hs) ⟨by decide, rfl⟩ q_27 (sq27 hs q_27) ?_
        exact hk)
    obtain ⟨Qc, hc, h⟩ := h
    refine XF.call (nx := 31) (st := [.ref 26]) hc (fun v I1 r I' hY hk => XW.callV (As := []) (st := [.ref 26]) eX5_sendRest_28 okX3_removeFirst cv5_182 rfl (so27 hs q_27) hY (xnum rfl rfl rfl rfl rfl) hk) (fun v_28 I_28 hq => ?_)
    replace h := h v_28 I_28 hq
    refine XF.lift (pc2 := 35) (ls2 := [some (.ref 26), some (.int x1), some (.int x2)]) (st2 := [.int 400, .int 0, .int v_28, .ref 26]) (I2 := I_28) ?_ (fun r I' hk => by
        refine XW.iconst (v := 0) eX5_sendRest_31 (by decide) ?_
        refine XW.sipush (v := 400) eX5_sendRest_32 (by decide) ?_
        exact hk)
    obtain ⟨Qc, hc, h⟩ := h
    refine XF.call (nx := 38) (st := []) hc (fun v I1 r I' hY hk => XW.callV (As := [.int v_28, .int 0, .int 400]) (st := []) eX5_sendRest_35 okX5_settle cv5_101 rfl (so_26 hs) hY (xnum rfl rfl rfl rfl rfl) hk) (fun _ I_35 hq => ?_)
    replace h := h () I_35 hq
    refine XF.lift (pc2 := 17) (ls2 := [some (.ref 26), some (.int x1), some (.int (x2 + (-1)))]) (st2 := []) (I2 := I_35) ?_ (fun r I' hk => by
        refine XW.iinc (y := (x2 + (-1))) (ls' := [some (.ref 26), some (.int x1), some (.int (x2 + (-1)))]) eX5_sendRest_38 rfl rfl rfl ?_
        refine XW.goto eX5_sendRest_41 ?_
        exact hk)
    exact h
set_option maxRecDepth 100000 in
set_option maxHeartbeats 4000000 in
theorem VX5_beginb {l : Launch} {C : xC} {G : xG} (hs : SH G)  {w : Nat} (hw : RW G w) (hw0 : 49 ≤ w) (I : xI) {Q : Unit → xI → Prop} (h :
    XF fV l C mX5_begin 38 [some (.ref 26), some (.ref w), some (.int 0)] [] G (wI (wI (wI (wI (wI (wI I 26 14 (I w 2)) 26 16 ((wI I 26 14 (I w 2)) w 2)) 26 13 0) 26 15 0) 26 17 0) 26 18 0) Q) : XF fV l C mX5_begin 0 (xent mX5_begin [.ref 26, .ref w]) [] G I Q := by
  show XF fV l C mX5_begin 0 [some (.ref 26), some (.ref w), none] [] G I Q
  refine XF.lift (pc2 := 38) (ls2 := [some (.ref 26), some (.ref w), some (.int 0)]) (st2 := []) (I2 := (wI (wI (wI (wI (wI (wI I 26 14 (I w 2)) 26 16 ((wI I 26 14 (I w 2)) w 2)) 26 13 0) 26 15 0) 26 17 0) 26 18 0)) ?_ (fun r I' hk => by
      refine XW.aload_n eX5_begin_0 rfl ?_
      refine XW.aload_n eX5_begin_1 rfl ?_
      refine XW.getI eX5_begin_2 f5_86_4 rfl hw.1 ?_
      refine XW.putI eX5_begin_5 f5_91_5 (xP_of rfl (by decide)) rfl ⟨rfl, rfl⟩ (so_26 hs) ?_
      refine XW.aload_n eX5_begin_8 rfl ?_
      refine XW.aload_n eX5_begin_9 rfl ?_
      refine XW.getI eX5_begin_10 f5_86_4 rfl hw.1 ?_
      refine XW.putI eX5_begin_13 f5_59_5 (xP_of rfl (by decide)) rfl ⟨rfl, rfl⟩ (so_26 hs) ?_
      refine XW.aload_n eX5_begin_16 rfl ?_
      refine XW.iconst (v := 0) eX5_begin_17 (by decide) ?_
      refine XW.putI eX5_begin_18 f5_94_5 (xP_of rfl (by decide)) rfl ⟨rfl, rfl⟩ (so_26 hs) ?_
      refine XW.aload_n eX5_begin_21 rfl ?_
      refine XW.iconst (v := 0) eX5_begin_22 (by decide) ?_
      refine XW.putI eX5_begin_23 f5_80_5 (xP_of rfl (by decide)) rfl ⟨rfl, rfl⟩ (so_26 hs) ?_
      refine XW.aload_n eX5_begin_26 rfl ?_
      refine XW.iconst (v := 0) eX5_begin_27 (by decide) ?_
      refine XW.putI eX5_begin_28 f5_62_5 (xP_of rfl (by decide)) rfl ⟨rfl, rfl⟩ (so_26 hs) ?_
      refine XW.aload_n eX5_begin_31 rfl ?_
      refine XW.iconst (v := 0) eX5_begin_32 (by decide) ?_
      refine XW.putI eX5_begin_33 f5_97_5 (xP_of rfl (by decide)) rfl ⟨rfl, rfl⟩ (so_26 hs) ?_
      refine XW.iconst (v := 0) eX5_begin_36 (by decide) ?_
      refine XW.istore_n (ls' := [some (.ref 26), some (.ref w), some (.int 0)]) eX5_begin_37 (Nat.le_of_ble_eq_true rfl) rfl ?_
      exact hk)
  exact h
set_option maxRecDepth 100000 in
set_option maxHeartbeats 4000000 in
theorem VX5_beginb_38 {l : Launch} {C : xC} {G : xG} (hs : SH G)  {w : Nat} (hw : RW G w) (hw0 : 49 ≤ w) (I : xI) (x2 : Int32) {Q : Unit → xI → Prop} (h :
    (((I 26 14) ≤ x2 → XF fV l C mX5_begin 92 [some (.ref 26), some (.ref w), some (.int 0)] [] G I Q) ∧ (¬ ((I 26 14) ≤ x2) → vp_in x2 80 ∧ (∃ Qc : Unit → xI → Prop, XF fV l C mX5_settle 0 (xent mX5_settle [.ref 26, .int x2, .int 3, .int 400]) [] G (wI (wI I 28 x2.toNatClampNeg (I (w + 2) x2.toNatClampNeg)) 29 x2.toNatClampNeg 400) Qc ∧ ∀ (u_73 : Unit) (I_73 : xI), Qc u_73 I_73 → XF fV l C mX5_begin 38 [some (.ref 26), some (.ref w), some (.int (x2 + 1))] [] G (wI I_73 32 x2.toNatClampNeg (-2)) Q)))) : XF fV l C mX5_begin 38 [some (.ref 26), some (.ref w), some (.int x2)] [] G I Q := by
  refine XF.lift (pc2 := 43) (ls2 := [some (.ref 26), some (.ref w), some (.int x2)]) (st2 := [.int (I 26 14), .int x2]) (I2 := I) ?_ (fun r I' hk => by
      refine XW.iload_n eX5_begin_38 rfl ?_
      refine XW.aload_n eX5_begin_39 rfl ?_
      refine XW.getI eX5_begin_40 f5_91_5 rfl (so_26 hs) ?_
      exact hk)
  obtain ⟨ht, hf⟩ := h
  refine XF.br (P := (I 26 14) ≤ x2) (fun c_43 => ?_) (fun c_43 => ?_)
  ·
    replace h := ht c_43
    refine XF.lift (pc2 := 92) (ls2 := [some (.ref 26), some (.ref w), some (.int 0)]) (st2 := []) (I2 := I) ?_ (fun r I' hk => by
        refine XW.icmp_ge eX5_begin_43 (fun _ => ?_) (fun z => absurd c_43 z)
        refine XW.iconst (v := 0) eX5_begin_90 (by decide) ?_
        refine XW.istore_n (ls' := [some (.ref 26), some (.ref w), some (.int 0)]) eX5_begin_91 (Nat.le_of_ble_eq_true rfl) rfl ?_
        exact hk)
    exact h
  ·
    replace h := hf c_43
    obtain ⟨q_56, h⟩ := h
    refine XF.lift (pc2 := 73) (ls2 := [some (.ref 26), some (.ref w), some (.int x2)]) (st2 := [.int 400, .int 3, .int x2, .ref 26]) (I2 := (wI (wI I 28 x2.toNatClampNeg (I (w + 2) x2.toNatClampNeg)) 29 x2.toNatClampNeg 400)) ?_ (fun r I' hk => by
        refine XW.icmp_ge eX5_begin_43 (fun z => absurd z c_43) (fun _ => ?_)
        refine XW.aload_n eX5_begin_46 rfl ?_
        refine XW.getR (b := 28) eX5_begin_47 f5_17_5 rfl (so_26 hs) (sr_26_2 hs) ?_
        refine XW.iload_n eX5_begin_50 rfl ?_
        refine XW.aload_n eX5_begin_51 rfl ?_
        refine XW.getR (b := (w + 2)) eX5_begin_52 f5_100_4 rfl hw.1 hw.2.2.1 ?_
        refine XW.iload_n eX5_begin_55 rfl ?_
        refine XW.iaload eX5_begin_56 hw.2.2.2.2 q_56 ?_
        refine XW.iastore eX5_begin_57 (sa_28 hs) q_56 ?_
        refine XW.aload_n eX5_begin_58 rfl ?_
        refine XW.getR (b := 29) eX5_begin_59 f5_21_5 rfl (so_26 hs) (sr_26_3 hs) ?_
        refine XW.iload_n eX5_begin_62 rfl ?_
        refine XW.sipush (v := 400) eX5_begin_63 (by decide) ?_
        refine XW.iastore eX5_begin_66 (sa_29 hs) q_56 ?_
        refine XW.aload_n eX5_begin_67 rfl ?_
        refine XW.iload_n eX5_begin_68 rfl ?_
        refine XW.iconst (v := 3) eX5_begin_69 (by decide) ?_
        refine XW.sipush (v := 400) eX5_begin_70 (by decide) ?_
        exact hk)
    obtain ⟨Qc, hc, h⟩ := h
    refine XF.call (nx := 76) (st := []) hc (fun v I1 r I' hY hk => XW.callV (As := [.int x2, .int 3, .int 400]) (st := []) eX5_begin_73 okX5_settle cv5_101 rfl (so_26 hs) hY (xnum rfl rfl rfl rfl rfl) hk) (fun _ I_73 hq => ?_)
    replace h := h () I_73 hq
    refine XF.lift (pc2 := 38) (ls2 := [some (.ref 26), some (.ref w), some (.int (x2 + 1))]) (st2 := []) (I2 := (wI I_73 32 x2.toNatClampNeg (-2))) ?_ (fun r I' hk => by
        refine XW.aload_n eX5_begin_76 rfl ?_
        refine XW.getR (b := 32) eX5_begin_77 f5_30_5 rfl (so_26 hs) (sr_26_6 hs) ?_
        refine XW.iload_n eX5_begin_80 rfl ?_
        refine XW.bipush (v := (-2)) eX5_begin_81 (by decide) ?_
        refine XW.iastore eX5_begin_83 (sa_32 hs) q_56 ?_
        refine XW.iinc (y := (x2 + 1)) (ls' := [some (.ref 26), some (.ref w), some (.int (x2 + 1))]) eX5_begin_84 rfl rfl rfl ?_
        refine XW.goto eX5_begin_87 ?_
        exact hk)
    exact h
set_option maxRecDepth 100000 in
set_option maxHeartbeats 4000000 in
theorem VX5_beginb_92 {l : Launch} {C : xC} {G : xG} (hs : SH G)  {w : Nat} (hw : RW G w) (hw0 : 49 ≤ w) (I : xI) (x2 : Int32) {Q : Unit → xI → Prop} (h :
    ((4 ≤ x2 → Q () I) ∧ (¬ (4 ≤ x2) → vp_in x2 4 ∧ XF fV l C mX5_begin 92 [some (.ref 26), some (.ref w), some (.int (x2 + 1))] [] G (wI (wI (wI I 33 x2.toNatClampNeg 0) 34 x2.toNatClampNeg 0) 35 x2.toNatClampNeg 0) Q))) : XF fV l C mX5_begin 92 [some (.ref 26), some (.ref w), some (.int x2)] [] G I Q := by
  refine XF.lift (pc2 := 94) (ls2 := [some (.ref 26), some (.ref w), some (.int x2)]) (st2 := [.int 4, .int x2]) (I2 := I) ?_ (fun r I' hk => by
      refine XW.iload_n eX5_begin_92 rfl ?_
      refine XW.iconst (v := 4) eX5_begin_93 (by decide) ?_
      exact hk)
  obtain ⟨ht, hf⟩ := h
  refine XF.br (P := 4 ≤ x2) (fun c_94 => ?_) (fun c_94 => ?_)
  ·
    replace h := ht c_94
    refine XF.lift (pc2 := 124) (ls2 := [some (.ref 26), some (.ref w), some (.int x2)]) (st2 := []) (I2 := I) ?_ (fun r I' hk => by
        refine XW.icmp_ge eX5_begin_94 (fun _ => ?_) (fun z => absurd c_94 z)
        exact hk)
    exact ⟨(), I, XW.vret eX5_begin_124 rfl rfl rfl rfl, h⟩
  ·
    replace h := hf c_94
    obtain ⟨q_103, h⟩ := h
    refine XF.lift (pc2 := 92) (ls2 := [some (.ref 26), some (.ref w), some (.int (x2 + 1))]) (st2 := []) (I2 := (wI (wI (wI I 33 x2.toNatClampNeg 0) 34 x2.toNatClampNeg 0) 35 x2.toNatClampNeg 0)) ?_ (fun r I' hk => by
        refine XW.icmp_ge eX5_begin_94 (fun z => absurd z c_94) (fun _ => ?_)
        refine XW.aload_n eX5_begin_97 rfl ?_
        refine XW.getR (b := 33) eX5_begin_98 f5_33_5 rfl (so_26 hs) (sr_26_7 hs) ?_
        refine XW.iload_n eX5_begin_101 rfl ?_
        refine XW.iconst (v := 0) eX5_begin_102 (by decide) ?_
        refine XW.iastore eX5_begin_103 (sa_33 hs) q_103 ?_
        refine XW.aload_n eX5_begin_104 rfl ?_
        refine XW.getR (b := 34) eX5_begin_105 f5_36_5 rfl (so_26 hs) (sr_26_8 hs) ?_
        refine XW.iload_n eX5_begin_108 rfl ?_
        refine XW.iconst (v := 0) eX5_begin_109 (by decide) ?_
        refine XW.iastore eX5_begin_110 (sa_34 hs) q_103 ?_
        refine XW.aload_n eX5_begin_111 rfl ?_
        refine XW.getR (b := 35) eX5_begin_112 f5_39_5 rfl (so_26 hs) (sr_26_9 hs) ?_
        refine XW.iload_n eX5_begin_115 rfl ?_
        refine XW.iconst (v := 0) eX5_begin_116 (by decide) ?_
        refine XW.iastore eX5_begin_117 (sa_35 hs) q_103 ?_
        refine XW.iinc (y := (x2 + 1)) (ls' := [some (.ref 26), some (.ref w), some (.int (x2 + 1))]) eX5_begin_118 rfl rfl rfl ?_
        refine XW.goto eX5_begin_121 ?_
        exact hk)
    exact h
set_option maxRecDepth 100000 in
set_option maxHeartbeats 4000000 in
theorem VX5_playb {l : Launch} {C : xC} {G : xG} (hs : SH G)  {w : Nat} (hw : RW G w) (hw0 : 49 ≤ w) (I : xI) (y2 y3 : Int32) {Q : Unit → xI → Prop} (h :
    (∃ Qc : Unit → xI → Prop, XF fV l C mX5_begin 0 (xent mX5_begin [.ref 26, .ref w]) [] G I Qc ∧ ∀ (u_2 : Unit) (I_2 : xI), Qc u_2 I_2 → (y3 = 0 ∨ y3 = 1) ∧ XF fV l C mX5_play 18 [some (.ref 26), some (.ref w), some (.int y2), some (.int y3), some (.int 0)] [] G (wI (wI I_2 26 10 y2) 26 11 y3) Q)) : XF fV l C mX5_play 0 (xent mX5_play [.ref 26, .ref w, .int y2, .int y3]) [] G I Q := by
  show XF fV l C mX5_play 0 [some (.ref 26), some (.ref w), some (.int y2), some (.int y3), none] [] G I Q
  refine XF.lift (pc2 := 2) (ls2 := [some (.ref 26), some (.ref w), some (.int y2), some (.int y3), none]) (st2 := [.ref w, .ref 26]) (I2 := I) ?_ (fun r I' hk => by
      refine XW.aload_n eX5_play_0 rfl ?_
      refine XW.aload_n eX5_play_1 rfl ?_
      exact hk)
  obtain ⟨Qc, hc, h⟩ := h
  refine XF.call (nx := 5) (st := []) hc (fun v I1 r I' hY hk => XW.callV (As := [.ref w]) (st := []) eX5_play_2 okX5_begin cv5_47 rfl (so_26 hs) hY (xnum rfl rfl rfl rfl rfl) hk) (fun _ I_2 hq => ?_)
  replace h := h () I_2 hq
  obtain ⟨b_12, h⟩ := h
  refine XF.lift (pc2 := 18) (ls2 := [some (.ref 26), some (.ref w), some (.int y2), some (.int y3), some (.int 0)]) (st2 := []) (I2 := (wI (wI I_2 26 10 y2) 26 11 y3)) ?_ (fun r I' hk => by
      refine XW.aload_n eX5_play_5 rfl ?_
      refine XW.iload_n eX5_play_6 rfl ?_
      refine XW.putI eX5_play_7 f5_51_5 (xP_of rfl (by decide)) rfl ⟨rfl, rfl⟩ (so_26 hs) ?_
      refine XW.aload_n eX5_play_10 rfl ?_
      refine XW.iload_n eX5_play_11 rfl ?_
      refine XW.putI eX5_play_12 f5_55_5 (xP_of rfl (by decide)) rfl ⟨(nar01 b_12), (fit01 b_12)⟩ (so_26 hs) ?_
      refine XW.iconst (v := 0) eX5_play_15 (by decide) ?_
      refine XW.istore (ls' := [some (.ref 26), some (.ref w), some (.int y2), some (.int y3), some (.int 0)]) eX5_play_16 (Nat.le_of_ble_eq_true rfl) rfl ?_
      exact hk)
  exact h
set_option maxRecDepth 100000 in
set_option maxHeartbeats 4000000 in
theorem VX5_playb_18 {l : Launch} {C : xC} {G : xG} (hs : SH G)  {w : Nat} (hw : RW G w) (hw0 : 49 ≤ w) (I : xI) (x2 x3 x4 : Int32) {Q : Unit → xI → Prop} (h :
    ((400 ≤ x4 → (∃ Qc : Unit → xI → Prop, XF fV l C mX5_sendRest 0 (xent mX5_sendRest [.ref 26]) [] G I Qc ∧ ∀ (u_79 : Unit) (I_79 : xI), Qc u_79 I_79 → Q () I_79)) ∧ (¬ (400 ≤ x4) → ((((I 26 16) + (I 26 17)) ≤ 0 → (∃ Qc : Unit → xI → Prop, XF fV l C mX5_sendRest 0 (xent mX5_sendRest [.ref 26]) [] G I Qc ∧ ∀ (u_79 : Unit) (I_79 : xI), Qc u_79 I_79 → Q () I_79)) ∧ (¬ (((I 26 16) + (I 26 17)) ≤ 0) → (∃ Qc : Unit → xI → Prop, XF fV l C mX5_offerHeld 0 (xent mX5_offerHeld [.ref 26, .ref w]) [] G (wI I 26 12 x4) Qc ∧ ∀ (u_46 : Unit) (I_46 : xI), Qc u_46 I_46 → (∃ Qc : Unit → xI → Prop, XF fV l C mX5_offerDue 0 (xent mX5_offerDue [.ref 26, .ref w]) [] G I_46 Qc ∧ ∀ (u_51 : Unit) (I_51 : xI), Qc u_51 I_51 → (∃ Qc : Unit → xI → Prop, XF fV l C mX5_sendFirsts 0 (xent mX5_sendFirsts [.ref 26]) [] G I_51 Qc ∧ ∀ (u_55 : Unit) (I_55 : xI), Qc u_55 I_55 → (∃ Qc : Unit → xI → Prop, XF fV l C mX5_tellStates 0 (xent mX5_tellStates [.ref 26]) [] G I_55 Qc ∧ ∀ (u_59 : Unit) (I_59 : xI), Qc u_59 I_59 → XF fV l C mX5_play 18 [some (.ref 26), some (.ref w), some (.int x2), some (.int x3), some (.int (x4 + 1))] [] G (wI I_59 26 15 ((I_59 26 15) + 1)) Q))))))))) : XF fV l C mX5_play 18 [some (.ref 26), some (.ref w), some (.int x2), some (.int x3), some (.int x4)] [] G I Q := by
  refine XF.lift (pc2 := 23) (ls2 := [some (.ref 26), some (.ref w), some (.int x2), some (.int x3), some (.int x4)]) (st2 := [.int 400, .int x4]) (I2 := I) ?_ (fun r I' hk => by
      refine XW.iload eX5_play_18 rfl ?_
      refine XW.sipush (v := 400) eX5_play_20 (by decide) ?_
      exact hk)
  obtain ⟨ht, hf⟩ := h
  refine XF.br (P := 400 ≤ x4) (fun c_23 => ?_) (fun c_23 => ?_)
  ·
    replace h := ht c_23
    refine XF.lift (pc2 := 79) (ls2 := [some (.ref 26), some (.ref w), some (.int x2), some (.int x3), some (.int x4)]) (st2 := [.ref 26]) (I2 := I) ?_ (fun r I' hk => by
        refine XW.icmp_ge eX5_play_23 (fun _ => ?_) (fun z => absurd c_23 z)
        refine XW.aload_n eX5_play_78 rfl ?_
        exact hk)
    obtain ⟨Qc, hc, h⟩ := h
    refine XF.call (nx := 82) (st := []) hc (fun v I1 r I' hY hk => XW.callV (As := []) (st := []) eX5_play_79 okX5_sendRest cv5_83 rfl (so_26 hs) hY (xnum rfl rfl rfl rfl rfl) hk) (fun _ I_79 hq => ?_)
    replace h := h () I_79 hq
    exact ⟨(), I_79, XW.vret eX5_play_82 rfl rfl rfl rfl, h⟩
  ·
    replace h := hf c_23
    refine XF.lift (pc2 := 35) (ls2 := [some (.ref 26), some (.ref w), some (.int x2), some (.int x3), some (.int x4)]) (st2 := [.int ((I 26 16) + (I 26 17))]) (I2 := I) ?_ (fun r I' hk => by
        refine XW.icmp_ge eX5_play_23 (fun z => absurd z c_23) (fun _ => ?_)
        refine XW.aload_n eX5_play_26 rfl ?_
        refine XW.getI eX5_play_27 f5_59_5 rfl (so_26 hs) ?_
        refine XW.aload_n eX5_play_30 rfl ?_
        refine XW.getI eX5_play_31 f5_62_5 rfl (so_26 hs) ?_
        refine XW.iadd eX5_play_34 ?_
        exact hk)
    obtain ⟨ht, hf⟩ := h
    refine XF.br (P := ((I 26 16) + (I 26 17)) ≤ 0) (fun c_35 => ?_) (fun c_35 => ?_)
    ·
      replace h := ht c_35
      refine XF.lift (pc2 := 79) (ls2 := [some (.ref 26), some (.ref w), some (.int x2), some (.int x3), some (.int x4)]) (st2 := [.ref 26]) (I2 := I) ?_ (fun r I' hk => by
          refine XW.if_le eX5_play_35 (fun _ => ?_) (fun z => absurd c_35 z)
          refine XW.aload_n eX5_play_78 rfl ?_
          exact hk)
      obtain ⟨Qc, hc, h⟩ := h
      refine XF.call (nx := 82) (st := []) hc (fun v I1 r I' hY hk => XW.callV (As := []) (st := []) eX5_play_79 okX5_sendRest cv5_83 rfl (so_26 hs) hY (xnum rfl rfl rfl rfl rfl) hk) (fun _ I_79 hq => ?_)
      replace h := h () I_79 hq
      exact ⟨(), I_79, XW.vret eX5_play_82 rfl rfl rfl rfl, h⟩
    ·
      replace h := hf c_35
      refine XF.lift (pc2 := 46) (ls2 := [some (.ref 26), some (.ref w), some (.int x2), some (.int x3), some (.int x4)]) (st2 := [.ref w, .ref 26]) (I2 := (wI I 26 12 x4)) ?_ (fun r I' hk => by
          refine XW.if_le eX5_play_35 (fun z => absurd z c_35) (fun _ => ?_)
          refine XW.aload_n eX5_play_38 rfl ?_
          refine XW.iload eX5_play_39 rfl ?_
          refine XW.putI eX5_play_41 f5_65_5 (xP_of rfl (by decide)) rfl ⟨rfl, rfl⟩ (so_26 hs) ?_
          refine XW.aload_n eX5_play_44 rfl ?_
          refine XW.aload_n eX5_play_45 rfl ?_
          exact hk)
      obtain ⟨Qc, hc, h⟩ := h
      refine XF.call (nx := 49) (st := []) hc (fun v I1 r I' hY hk => XW.callV (As := [.ref w]) (st := []) eX5_play_46 okX5_offerHeld cv5_68 rfl (so_26 hs) hY (xnum rfl rfl rfl rfl rfl) hk) (fun _ I_46 hq => ?_)
      replace h := h () I_46 hq
      refine XF.lift (pc2 := 51) (ls2 := [some (.ref 26), some (.ref w), some (.int x2), some (.int x3), some (.int x4)]) (st2 := [.ref w, .ref 26]) (I2 := I_46) ?_ (fun r I' hk => by
          refine XW.aload_n eX5_play_49 rfl ?_
          refine XW.aload_n eX5_play_50 rfl ?_
          exact hk)
      obtain ⟨Qc, hc, h⟩ := h
      refine XF.call (nx := 54) (st := []) hc (fun v I1 r I' hY hk => XW.callV (As := [.ref w]) (st := []) eX5_play_51 okX5_offerDue cv5_71 rfl (so_26 hs) hY (xnum rfl rfl rfl rfl rfl) hk) (fun _ I_51 hq => ?_)
      replace h := h () I_51 hq
      refine XF.lift (pc2 := 55) (ls2 := [some (.ref 26), some (.ref w), some (.int x2), some (.int x3), some (.int x4)]) (st2 := [.ref 26]) (I2 := I_51) ?_ (fun r I' hk => by
          refine XW.aload_n eX5_play_54 rfl ?_
          exact hk)
      obtain ⟨Qc, hc, h⟩ := h
      refine XF.call (nx := 58) (st := []) hc (fun v I1 r I' hY hk => XW.callV (As := []) (st := []) eX5_play_55 okX5_sendFirsts cv5_74 rfl (so_26 hs) hY (xnum rfl rfl rfl rfl rfl) hk) (fun _ I_55 hq => ?_)
      replace h := h () I_55 hq
      refine XF.lift (pc2 := 59) (ls2 := [some (.ref 26), some (.ref w), some (.int x2), some (.int x3), some (.int x4)]) (st2 := [.ref 26]) (I2 := I_55) ?_ (fun r I' hk => by
          refine XW.aload_n eX5_play_58 rfl ?_
          exact hk)
      obtain ⟨Qc, hc, h⟩ := h
      refine XF.call (nx := 62) (st := []) hc (fun v I1 r I' hY hk => XW.callV (As := []) (st := []) eX5_play_59 okX5_tellStates cv5_77 rfl (so_26 hs) hY (xnum rfl rfl rfl rfl rfl) hk) (fun _ I_59 hq => ?_)
      replace h := h () I_59 hq
      refine XF.lift (pc2 := 18) (ls2 := [some (.ref 26), some (.ref w), some (.int x2), some (.int x3), some (.int (x4 + 1))]) (st2 := []) (I2 := (wI I_59 26 15 ((I_59 26 15) + 1))) ?_ (fun r I' hk => by
          refine XW.aload_n eX5_play_62 rfl ?_
          refine XW.dup eX5_play_63 rfl ?_
          refine XW.getI eX5_play_64 f5_80_5 rfl (so_26 hs) ?_
          refine XW.iconst (v := 1) eX5_play_67 (by decide) ?_
          refine XW.iadd eX5_play_68 ?_
          refine XW.putI eX5_play_69 f5_80_5 (xP_of rfl (by decide)) rfl ⟨rfl, rfl⟩ (so_26 hs) ?_
          refine XW.iinc (y := (x4 + 1)) (ls' := [some (.ref 26), some (.ref w), some (.int x2), some (.int x3), some (.int (x4 + 1))]) eX5_play_72 rfl rfl rfl ?_
          refine XW.goto eX5_play_75 ?_
          exact hk)
      exact h
set_option maxRecDepth 100000 in
set_option maxHeartbeats 4000000 in
theorem VX5_countOfb {l : Launch} {C : xC} {G : xG} (hs : SH G)  (I : xI) (y1 y2 : Int32) {Q : Int32 → xI → Prop} (h :
    XF fI l C mX5_countOf 5 [some (.ref 26), some (.int y1), some (.int y2), some (.int 0), some (.int 0)] [] G I Q) : XF fI l C mX5_countOf 0 (xent mX5_countOf [.ref 26, .int y1, .int y2]) [] G I Q := by
  show XF fI l C mX5_countOf 0 [some (.ref 26), some (.int y1), some (.int y2), none, none] [] G I Q
  refine XF.lift (pc2 := 5) (ls2 := [some (.ref 26), some (.int y1), some (.int y2), some (.int 0), some (.int 0)]) (st2 := []) (I2 := I) ?_ (fun r I' hk => by
      refine XW.iconst (v := 0) eX5_countOf_0 (by decide) ?_
      refine XW.istore_n (ls' := [some (.ref 26), some (.int y1), some (.int y2), some (.int 0), none]) eX5_countOf_1 (Nat.le_of_ble_eq_true rfl) rfl ?_
      refine XW.iconst (v := 0) eX5_countOf_2 (by decide) ?_
      refine XW.istore (ls' := [some (.ref 26), some (.int y1), some (.int y2), some (.int 0), some (.int 0)]) eX5_countOf_3 (Nat.le_of_ble_eq_true rfl) rfl ?_
      exact hk)
  exact h
set_option maxRecDepth 100000 in
set_option maxHeartbeats 4000000 in
theorem VX5_countOfb_5 {l : Launch} {C : xC} {G : xG} (hs : SH G)  (I : xI) (x1 x2 x3 x4 : Int32) {Q : Int32 → xI → Prop} (h :
    (((I 26 14) ≤ x4 → Q x3 I) ∧ (¬ ((I 26 14) ≤ x4) → vp_in x4 80 ∧ (((I 30 x4.toNatClampNeg) = x2 → ((x1 = (-1) → XF fI l C mX5_countOf 5 [some (.ref 26), some (.int x1), some (.int x2), some (.int (x3 + 1)), some (.int (x4 + 1))] [] G I Q) ∧ (¬ (x1 = (-1)) → (((I 28 x4.toNatClampNeg) = x1 → XF fI l C mX5_countOf 5 [some (.ref 26), some (.int x1), some (.int x2), some (.int (x3 + 1)), some (.int (x4 + 1))] [] G I Q) ∧ (¬ ((I 28 x4.toNatClampNeg) = x1) → XF fI l C mX5_countOf 5 [some (.ref 26), some (.int x1), some (.int x2), some (.int x3), some (.int (x4 + 1))] [] G I Q))))) ∧ (¬ ((I 30 x4.toNatClampNeg) = x2) → XF fI l C mX5_countOf 5 [some (.ref 26), some (.int x1), some (.int x2), some (.int x3), some (.int (x4 + 1))] [] G I Q))))) : XF fI l C mX5_countOf 5 [some (.ref 26), some (.int x1), some (.int x2), some (.int x3), some (.int x4)] [] G I Q := by
  refine XF.lift (pc2 := 11) (ls2 := [some (.ref 26), some (.int x1), some (.int x2), some (.int x3), some (.int x4)]) (st2 := [.int (I 26 14), .int x4]) (I2 := I) ?_ (fun r I' hk => by
      refine XW.iload eX5_countOf_5 rfl ?_
      refine XW.aload_n eX5_countOf_7 rfl ?_
      refine XW.getI eX5_countOf_8 f5_91_5 rfl (so_26 hs) ?_
      exact hk)
  obtain ⟨ht, hf⟩ := h
  refine XF.br (P := (I 26 14) ≤ x4) (fun c_11 => ?_) (fun c_11 => ?_)
  ·
    replace h := ht c_11
    refine XF.lift (pc2 := 51) (ls2 := [some (.ref 26), some (.int x1), some (.int x2), some (.int x3), some (.int x4)]) (st2 := [.int x3]) (I2 := I) ?_ (fun r I' hk => by
        refine XW.icmp_ge eX5_countOf_11 (fun _ => ?_) (fun z => absurd c_11 z)
        refine XW.iload_n eX5_countOf_50 rfl ?_
        exact hk)
    exact ⟨x3, I, XW.iret eX5_countOf_51 rfl rfl rfl rfl rfl, h⟩
  ·
    replace h := hf c_11
    obtain ⟨q_20, h⟩ := h
    refine XF.lift (pc2 := 22) (ls2 := [some (.ref 26), some (.int x1), some (.int x2), some (.int x3), some (.int x4)]) (st2 := [.int x2, .int (I 30 x4.toNatClampNeg)]) (I2 := I) ?_ (fun r I' hk => by
        refine XW.icmp_ge eX5_countOf_11 (fun z => absurd z c_11) (fun _ => ?_)
        refine XW.aload_n eX5_countOf_14 rfl ?_
        refine XW.getR (b := 30) eX5_countOf_15 f5_24_5 rfl (so_26 hs) (sr_26_4 hs) ?_
        refine XW.iload eX5_countOf_18 rfl ?_
        refine XW.iaload eX5_countOf_20 (sa_30 hs) q_20 ?_
        refine XW.iload_n eX5_countOf_21 rfl ?_
        exact hk)
    obtain ⟨ht, hf⟩ := h
    refine XF.br (P := (I 30 x4.toNatClampNeg) = x2) (fun c_22 => ?_) (fun c_22 => ?_)
    ·
      replace h := ht c_22
      refine XF.lift (pc2 := 27) (ls2 := [some (.ref 26), some (.int x1), some (.int x2), some (.int x3), some (.int x4)]) (st2 := [.int (-1), .int x1]) (I2 := I) ?_ (fun r I' hk => by
          refine XW.icmp_ne eX5_countOf_22 (fun z => absurd c_22 z) (fun _ => ?_)
          refine XW.iload_n eX5_countOf_25 rfl ?_
          refine XW.iconst (v := (-1)) eX5_countOf_26 (by decide) ?_
          exact hk)
      obtain ⟨ht, hf⟩ := h
      refine XF.br (P := x1 = (-1)) (fun c_27 => ?_) (fun c_27 => ?_)
      ·
        replace h := ht c_27
        refine XF.lift (pc2 := 5) (ls2 := [some (.ref 26), some (.int x1), some (.int x2), some (.int (x3 + 1)), some (.int (x4 + 1))]) (st2 := []) (I2 := I) ?_ (fun r I' hk => by
            refine XW.icmp_eq eX5_countOf_27 (fun _ => ?_) (fun z => absurd c_27 z)
            refine XW.iinc (y := (x3 + 1)) (ls' := [some (.ref 26), some (.int x1), some (.int x2), some (.int (x3 + 1)), some (.int x4)]) eX5_countOf_41 rfl rfl rfl ?_
            refine XW.iinc (y := (x4 + 1)) (ls' := [some (.ref 26), some (.int x1), some (.int x2), some (.int (x3 + 1)), some (.int (x4 + 1))]) eX5_countOf_44 rfl rfl rfl ?_
            refine XW.goto eX5_countOf_47 ?_
            exact hk)
        exact h
      ·
        replace h := hf c_27
        refine XF.lift (pc2 := 38) (ls2 := [some (.ref 26), some (.int x1), some (.int x2), some (.int x3), some (.int x4)]) (st2 := [.int x1, .int (I 28 x4.toNatClampNeg)]) (I2 := I) ?_ (fun r I' hk => by
            refine XW.icmp_eq eX5_countOf_27 (fun z => absurd z c_27) (fun _ => ?_)
            refine XW.aload_n eX5_countOf_30 rfl ?_
            refine XW.getR (b := 28) eX5_countOf_31 f5_17_5 rfl (so_26 hs) (sr_26_2 hs) ?_
            refine XW.iload eX5_countOf_34 rfl ?_
            refine XW.iaload eX5_countOf_36 (sa_28 hs) q_20 ?_
            refine XW.iload_n eX5_countOf_37 rfl ?_
            exact hk)
        obtain ⟨ht, hf⟩ := h
        refine XF.br (P := (I 28 x4.toNatClampNeg) = x1) (fun c_38 => ?_) (fun c_38 => ?_)
        ·
          replace h := ht c_38
          refine XF.lift (pc2 := 5) (ls2 := [some (.ref 26), some (.int x1), some (.int x2), some (.int (x3 + 1)), some (.int (x4 + 1))]) (st2 := []) (I2 := I) ?_ (fun r I' hk => by
              refine XW.icmp_ne eX5_countOf_38 (fun z => absurd c_38 z) (fun _ => ?_)
              refine XW.iinc (y := (x3 + 1)) (ls' := [some (.ref 26), some (.int x1), some (.int x2), some (.int (x3 + 1)), some (.int x4)]) eX5_countOf_41 rfl rfl rfl ?_
              refine XW.iinc (y := (x4 + 1)) (ls' := [some (.ref 26), some (.int x1), some (.int x2), some (.int (x3 + 1)), some (.int (x4 + 1))]) eX5_countOf_44 rfl rfl rfl ?_
              refine XW.goto eX5_countOf_47 ?_
              exact hk)
          exact h
        ·
          replace h := hf c_38
          refine XF.lift (pc2 := 5) (ls2 := [some (.ref 26), some (.int x1), some (.int x2), some (.int x3), some (.int (x4 + 1))]) (st2 := []) (I2 := I) ?_ (fun r I' hk => by
              refine XW.icmp_ne eX5_countOf_38 (fun _ => ?_) (fun z => absurd z c_38)
              refine XW.iinc (y := (x4 + 1)) (ls' := [some (.ref 26), some (.int x1), some (.int x2), some (.int x3), some (.int (x4 + 1))]) eX5_countOf_44 rfl rfl rfl ?_
              refine XW.goto eX5_countOf_47 ?_
              exact hk)
          exact h
    ·
      replace h := hf c_22
      refine XF.lift (pc2 := 5) (ls2 := [some (.ref 26), some (.int x1), some (.int x2), some (.int x3), some (.int (x4 + 1))]) (st2 := []) (I2 := I) ?_ (fun r I' hk => by
          refine XW.icmp_ne eX5_countOf_22 (fun _ => ?_) (fun z => absurd z c_22)
          refine XW.iinc (y := (x4 + 1)) (ls' := [some (.ref 26), some (.int x1), some (.int x2), some (.int x3), some (.int (x4 + 1))]) eX5_countOf_44 rfl rfl rfl ?_
          refine XW.goto eX5_countOf_47 ?_
          exact hk)
      exact h
set_option maxRecDepth 100000 in
set_option maxHeartbeats 4000000 in
theorem VX5_lengthAtb {l : Launch} {C : xC} {G : xG} (hs : SH G)  (I : xI) (y1 y2 : Int32) {Q : Int32 → xI → Prop} (h :
    XF fI l C mX5_lengthAt 5 [some (.ref 26), some (.int y1), some (.int y2), some (.int 0), some (.int 0)] [] G I Q) : XF fI l C mX5_lengthAt 0 (xent mX5_lengthAt [.ref 26, .int y1, .int y2]) [] G I Q := by
  show XF fI l C mX5_lengthAt 0 [some (.ref 26), some (.int y1), some (.int y2), none, none] [] G I Q
  refine XF.lift (pc2 := 5) (ls2 := [some (.ref 26), some (.int y1), some (.int y2), some (.int 0), some (.int 0)]) (st2 := []) (I2 := I) ?_ (fun r I' hk => by
      refine XW.iconst (v := 0) eX5_lengthAt_0 (by decide) ?_
      refine XW.istore_n (ls' := [some (.ref 26), some (.int y1), some (.int y2), some (.int 0), none]) eX5_lengthAt_1 (Nat.le_of_ble_eq_true rfl) rfl ?_
      refine XW.iconst (v := 0) eX5_lengthAt_2 (by decide) ?_
      refine XW.istore (ls' := [some (.ref 26), some (.int y1), some (.int y2), some (.int 0), some (.int 0)]) eX5_lengthAt_3 (Nat.le_of_ble_eq_true rfl) rfl ?_
      exact hk)
  exact h
set_option maxRecDepth 100000 in
set_option maxHeartbeats 4000000 in
theorem VX5_lengthAtb_5 {l : Launch} {C : xC} {G : xG} (hs : SH G)  (I : xI) (x1 x2 x3 x4 : Int32) {Q : Int32 → xI → Prop} (h :
    (((I 26 14) ≤ x4 → Q x3 I) ∧ (¬ ((I 26 14) ≤ x4) → vp_in x4 80 ∧ (((I 28 x4.toNatClampNeg) = x1 → ((x2 < (I 29 x4.toNatClampNeg) → XF fI l C mX5_lengthAt 5 [some (.ref 26), some (.int x1), some (.int x2), some (.int x3), some (.int (x4 + 1))] [] G I Q) ∧ (¬ (x2 < (I 29 x4.toNatClampNeg)) → (((I 31 x4.toNatClampNeg) ≤ x2 → XF fI l C mX5_lengthAt 5 [some (.ref 26), some (.int x1), some (.int x2), some (.int x3), some (.int (x4 + 1))] [] G I Q) ∧ (¬ ((I 31 x4.toNatClampNeg) ≤ x2) → XF fI l C mX5_lengthAt 5 [some (.ref 26), some (.int x1), some (.int x2), some (.int (x3 + 1)), some (.int (x4 + 1))] [] G I Q))))) ∧ (¬ ((I 28 x4.toNatClampNeg) = x1) → XF fI l C mX5_lengthAt 5 [some (.ref 26), some (.int x1), some (.int x2), some (.int x3), some (.int (x4 + 1))] [] G I Q))))) : XF fI l C mX5_lengthAt 5 [some (.ref 26), some (.int x1), some (.int x2), some (.int x3), some (.int x4)] [] G I Q := by
  refine XF.lift (pc2 := 11) (ls2 := [some (.ref 26), some (.int x1), some (.int x2), some (.int x3), some (.int x4)]) (st2 := [.int (I 26 14), .int x4]) (I2 := I) ?_ (fun r I' hk => by
      refine XW.iload eX5_lengthAt_5 rfl ?_
      refine XW.aload_n eX5_lengthAt_7 rfl ?_
      refine XW.getI eX5_lengthAt_8 f5_91_5 rfl (so_26 hs) ?_
      exact hk)
  obtain ⟨ht, hf⟩ := h
  refine XF.br (P := (I 26 14) ≤ x4) (fun c_11 => ?_) (fun c_11 => ?_)
  ·
    replace h := ht c_11
    refine XF.lift (pc2 := 57) (ls2 := [some (.ref 26), some (.int x1), some (.int x2), some (.int x3), some (.int x4)]) (st2 := [.int x3]) (I2 := I) ?_ (fun r I' hk => by
        refine XW.icmp_ge eX5_lengthAt_11 (fun _ => ?_) (fun z => absurd c_11 z)
        refine XW.iload_n eX5_lengthAt_56 rfl ?_
        exact hk)
    exact ⟨x3, I, XW.iret eX5_lengthAt_57 rfl rfl rfl rfl rfl, h⟩
  ·
    replace h := hf c_11
    obtain ⟨q_20, h⟩ := h
    refine XF.lift (pc2 := 22) (ls2 := [some (.ref 26), some (.int x1), some (.int x2), some (.int x3), some (.int x4)]) (st2 := [.int x1, .int (I 28 x4.toNatClampNeg)]) (I2 := I) ?_ (fun r I' hk => by
        refine XW.icmp_ge eX5_lengthAt_11 (fun z => absurd z c_11) (fun _ => ?_)
        refine XW.aload_n eX5_lengthAt_14 rfl ?_
        refine XW.getR (b := 28) eX5_lengthAt_15 f5_17_5 rfl (so_26 hs) (sr_26_2 hs) ?_
        refine XW.iload eX5_lengthAt_18 rfl ?_
        refine XW.iaload eX5_lengthAt_20 (sa_28 hs) q_20 ?_
        refine XW.iload_n eX5_lengthAt_21 rfl ?_
        exact hk)
    obtain ⟨ht, hf⟩ := h
    refine XF.br (P := (I 28 x4.toNatClampNeg) = x1) (fun c_22 => ?_) (fun c_22 => ?_)
    ·
      replace h := ht c_22
      refine XF.lift (pc2 := 33) (ls2 := [some (.ref 26), some (.int x1), some (.int x2), some (.int x3), some (.int x4)]) (st2 := [.int x2, .int (I 29 x4.toNatClampNeg)]) (I2 := I) ?_ (fun r I' hk => by
          refine XW.icmp_ne eX5_lengthAt_22 (fun z => absurd c_22 z) (fun _ => ?_)
          refine XW.aload_n eX5_lengthAt_25 rfl ?_
          refine XW.getR (b := 29) eX5_lengthAt_26 f5_21_5 rfl (so_26 hs) (sr_26_3 hs) ?_
          refine XW.iload eX5_lengthAt_29 rfl ?_
          refine XW.iaload eX5_lengthAt_31 (sa_29 hs) q_20 ?_
          refine XW.iload_n eX5_lengthAt_32 rfl ?_
          exact hk)
      obtain ⟨ht, hf⟩ := h
      refine XF.br (P := x2 < (I 29 x4.toNatClampNeg)) (fun c_33 => ?_) (fun c_33 => ?_)
      ·
        replace h := ht c_33
        refine XF.lift (pc2 := 5) (ls2 := [some (.ref 26), some (.int x1), some (.int x2), some (.int x3), some (.int (x4 + 1))]) (st2 := []) (I2 := I) ?_ (fun r I' hk => by
            refine XW.icmp_gt eX5_lengthAt_33 (fun _ => ?_) (fun z => absurd c_33 z)
            refine XW.iinc (y := (x4 + 1)) (ls' := [some (.ref 26), some (.int x1), some (.int x2), some (.int x3), some (.int (x4 + 1))]) eX5_lengthAt_50 rfl rfl rfl ?_
            refine XW.goto eX5_lengthAt_53 ?_
            exact hk)
        exact h
      ·
        replace h := hf c_33
        refine XF.lift (pc2 := 44) (ls2 := [some (.ref 26), some (.int x1), some (.int x2), some (.int x3), some (.int x4)]) (st2 := [.int (I 31 x4.toNatClampNeg), .int x2]) (I2 := I) ?_ (fun r I' hk => by
            refine XW.icmp_gt eX5_lengthAt_33 (fun z => absurd z c_33) (fun _ => ?_)
            refine XW.iload_n eX5_lengthAt_36 rfl ?_
            refine XW.aload_n eX5_lengthAt_37 rfl ?_
            refine XW.getR (b := 31) eX5_lengthAt_38 f5_27_5 rfl (so_26 hs) (sr_26_5 hs) ?_
            refine XW.iload eX5_lengthAt_41 rfl ?_
            refine XW.iaload eX5_lengthAt_43 (sa_31 hs) q_20 ?_
            exact hk)
        obtain ⟨ht, hf⟩ := h
        refine XF.br (P := (I 31 x4.toNatClampNeg) ≤ x2) (fun c_44 => ?_) (fun c_44 => ?_)
        ·
          replace h := ht c_44
          refine XF.lift (pc2 := 5) (ls2 := [some (.ref 26), some (.int x1), some (.int x2), some (.int x3), some (.int (x4 + 1))]) (st2 := []) (I2 := I) ?_ (fun r I' hk => by
              refine XW.icmp_ge eX5_lengthAt_44 (fun _ => ?_) (fun z => absurd c_44 z)
              refine XW.iinc (y := (x4 + 1)) (ls' := [some (.ref 26), some (.int x1), some (.int x2), some (.int x3), some (.int (x4 + 1))]) eX5_lengthAt_50 rfl rfl rfl ?_
              refine XW.goto eX5_lengthAt_53 ?_
              exact hk)
          exact h
        ·
          replace h := hf c_44
          refine XF.lift (pc2 := 5) (ls2 := [some (.ref 26), some (.int x1), some (.int x2), some (.int (x3 + 1)), some (.int (x4 + 1))]) (st2 := []) (I2 := I) ?_ (fun r I' hk => by
              refine XW.icmp_ge eX5_lengthAt_44 (fun z => absurd z c_44) (fun _ => ?_)
              refine XW.iinc (y := (x3 + 1)) (ls' := [some (.ref 26), some (.int x1), some (.int x2), some (.int (x3 + 1)), some (.int x4)]) eX5_lengthAt_47 rfl rfl rfl ?_
              refine XW.iinc (y := (x4 + 1)) (ls' := [some (.ref 26), some (.int x1), some (.int x2), some (.int (x3 + 1)), some (.int (x4 + 1))]) eX5_lengthAt_50 rfl rfl rfl ?_
              refine XW.goto eX5_lengthAt_53 ?_
              exact hk)
          exact h
    ·
      replace h := hf c_22
      refine XF.lift (pc2 := 5) (ls2 := [some (.ref 26), some (.int x1), some (.int x2), some (.int x3), some (.int (x4 + 1))]) (st2 := []) (I2 := I) ?_ (fun r I' hk => by
          refine XW.icmp_ne eX5_lengthAt_22 (fun _ => ?_) (fun z => absurd z c_22)
          refine XW.iinc (y := (x4 + 1)) (ls' := [some (.ref 26), some (.int x1), some (.int x2), some (.int x3), some (.int (x4 + 1))]) eX5_lengthAt_50 rfl rfl rfl ?_
          refine XW.goto eX5_lengthAt_53 ?_
          exact hk)
      exact h
