/-! the reference: sheets, rows, what a run told -/
abbrev mHZ (I : xI) : Prop := ∀ s, s < 4 → ∃ z, z ≤ 160 ∧ I 78 s = nI z
abbrev mHM (I : xI) : Prop := ∀ r, r < 4 → ∃ c, c ≤ 80 ∧ I 81 r = nI c
theorem vin_3 {x : Int32} (h : 0 ≤ x ∧ x ≤ 3) : vp_in x 4 := vin_k h (by decide)
theorem vin_sz {I : xI} {x i : Int32} (hz : mHZ I) (hx : 0 ≤ x ∧ x ≤ 3) (hi : 0 ≤ i ∧ i ≤ I 78 x.toNatClampNeg - 1) : vp_in i 160 := by
  obtain ⟨z, h1, h2⟩ := hz _ (xin_lt (vin_3 hx))
  exact vin_l h2 h1 (by decide) hi
theorem vin_my {I : xI} {x i : Int32} (hm : mHM I) (hx : 0 ≤ x ∧ x ≤ 3) (hi : 0 ≤ i ∧ i ≤ I 81 x.toNatClampNeg - 1) : vp_in i 80 := by
  obtain ⟨z, h1, h2⟩ := hm _ (xin_lt (vin_3 hx))
  exact vin_l h2 h1 (by decide) hi

def sX10_item (I : xI)  (x : Int32) (y : Int32) (i : Int32) (v : Int32) : Int32 := (if 0 ≤ x ∧ x ≤ 3 then (if 0 ≤ y ∧ y ≤ 2 then (if 0 ≤ (I 77 x.toNatClampNeg) then (if (I 77 x.toNatClampNeg) = y then (if 0 ≤ i ∧ i ≤ ((I 78 x.toNatClampNeg) - 1) then 1 else (-13)) else (-12)) else (-11)) else (-1)) else (-1))
def tX10_item (I : xI)  (x : Int32) (y : Int32) (i : Int32) (v : Int32) : xI := (if 0 ≤ x ∧ x ≤ 3 then (if 0 ≤ y ∧ y ≤ 2 then (if 0 ≤ (I 77 x.toNatClampNeg) then (if (I 77 x.toNatClampNeg) = y then (if 0 ≤ i ∧ i ≤ ((I 78 x.toNatClampNeg) - 1) then (if y = 0 then (wI I 79 ((160 * x) + i).toNatClampNeg (v).toInt8.toInt32) else (if y = 1 then (wI I 79 ((160 * x) + i).toNatClampNeg (v).toInt16.toInt32) else (wI I 79 ((160 * x) + i).toNatClampNeg v))) else I) else I) else I) else I) else I)
set_option maxRecDepth 100000 in
set_option maxHeartbeats 4000000 in
theorem YX10_item {l : Launch} {C : xC} {G : xG} (hs : SH G) (I : xI) (hz : mHZ I) (x : Int32) (y : Int32) (i : Int32) (v : Int32) : XW l C mX10_item 0 (xent mX10_item [.ref 69, .int x, .int y, .int i, .int v]) [] G I (some (.int (sX10_item I  x y i v))) G (tX10_item I  x y i v) := by
  show XW l C mX10_item 0 [some (.ref 69), some (.int x), some (.int y), some (.int i), some (.int v)] [] G I _ G _
  refine XW.iload_n eX10_item_0 rfl ?_
  refine XW.callS (As := [.int x]) (st := []) eX10_item_1 okX10_isSheet cs10_135 rfl (YX10_isSheet I  x) (xnum rfl rfl rfl rfl rfl) ?_
  refine XW.if_eqB eX10_item_4 (fun c_4 => ?_) (fun c_4 => ?_)
  ·
    skip
    refine XW.iconst (v := (-1)) eX10_item_16 (by decide) ?_
    exact XW.iret eX10_item_17 rfl rfl (by (try unfold sX10_item); (try unfold tX10_item); (try rw [if_neg c_4]); (try rfl)) rfl (by (try unfold sX10_item); (try unfold tX10_item); (try rw [if_neg c_4]); (try rfl))
  ·
    skip
    refine XW.iload_n eX10_item_7 rfl ?_
    refine XW.iconst (v := 0) eX10_item_8 (by decide) ?_
    refine XW.iconst (v := 2) eX10_item_9 (by decide) ?_
    refine XW.callS (As := [.int y, .int 0, .int 2]) (st := []) eX10_item_10 okX10_in cs10_123 rfl (YX10_in I  y 0 2) (xnum rfl rfl rfl rfl rfl) ?_
    refine XW.if_neB eX10_item_13 (fun c_13 => ?_) (fun c_13 => ?_)
    ·
      skip
      refine XW.aload_n eX10_item_18 rfl ?_
      refine XW.getR (b := 77) eX10_item_19 f10_41_10 rfl (so_69 hs) (sr_69_10 hs) ?_
      refine XW.iload_n eX10_item_22 rfl ?_
      refine XW.iaload eX10_item_23 (sa_77 hs) (vin_k c_4 (by decide)) ?_
      refine XW.if_ge eX10_item_24 (fun c_24 => ?_) (fun c_24 => ?_)
      ·
        skip
        refine XW.aload_n eX10_item_30 rfl ?_
        refine XW.getR (b := 77) eX10_item_31 f10_41_10 rfl (so_69 hs) (sr_69_10 hs) ?_
        refine XW.iload_n eX10_item_34 rfl ?_
        refine XW.iaload eX10_item_35 (sa_77 hs) (vin_k c_4 (by decide)) ?_
        refine XW.iload_n eX10_item_36 rfl ?_
        refine XW.icmp_eq eX10_item_37 (fun c_37 => ?_) (fun c_37 => ?_)
        ·
          skip
          refine XW.iload_n eX10_item_43 rfl ?_
          refine XW.iconst (v := 0) eX10_item_44 (by decide) ?_
          refine XW.aload_n eX10_item_45 rfl ?_
          refine XW.getR (b := 78) eX10_item_46 f10_44_10 rfl (so_69 hs) (sr_69_11 hs) ?_
          refine XW.iload_n eX10_item_49 rfl ?_
          refine XW.iaload eX10_item_50 (sa_78 hs) (vin_k c_4 (by decide)) ?_
          refine XW.iconst (v := 1) eX10_item_51 (by decide) ?_
          refine XW.isub eX10_item_52 ?_
          refine XW.callS (As := [.int i, .int 0, .int ((I 78 x.toNatClampNeg) - 1)]) (st := []) eX10_item_53 okX10_in cs10_123 rfl (YX10_in I  i 0 ((I 78 x.toNatClampNeg) - 1)) (xnum rfl rfl rfl rfl rfl) ?_
          refine XW.if_neB eX10_item_56 (fun c_56 => ?_) (fun c_56 => ?_)
          ·
            skip
            refine XW.aload_n eX10_item_62 rfl ?_
            refine XW.getR (b := 79) eX10_item_63 f10_47_10 rfl (so_69 hs) (sr_69_12 hs) ?_
            refine XW.sipush (v := 160) eX10_item_66 (by decide) ?_
            refine XW.iload_n eX10_item_69 rfl ?_
            refine XW.imul eX10_item_70 ?_
            refine XW.iload_n eX10_item_71 rfl ?_
            refine XW.iadd eX10_item_72 ?_
            refine XW.iload_n eX10_item_73 rfl ?_
            refine XW.if_ne eX10_item_74 (fun c_74 => ?_) (fun c_74 => ?_)
            ·
              skip
              refine XW.iload_n eX10_item_83 rfl ?_
              refine XW.iconst (v := 1) eX10_item_84 (by decide) ?_
              refine XW.icmp_ne eX10_item_85 (fun c_85 => ?_) (fun c_85 => ?_)
              ·
                skip
                refine XW.iload eX10_item_94 rfl ?_
                refine XW.iastore eX10_item_96 (sa_79 hs) (vin160 (vin_3 c_4) (vin_sz hz c_4 c_56)) ?_
                refine XW.iconst (v := 1) eX10_item_97 (by decide) ?_
                exact XW.iret eX10_item_98 rfl rfl (by (try unfold sX10_item); (try unfold tX10_item); (try rw [if_pos c_4]); (try rw [if_pos c_13]); (try rw [if_pos c_24]); (try rw [if_pos c_37]); (try rw [if_pos c_56]); (try rw [if_neg c_74]); (try rw [if_neg c_85]); (try rfl)) rfl (by (try unfold sX10_item); (try unfold tX10_item); (try rw [if_pos c_4]); (try rw [if_pos c_13]); (try rw [if_pos c_24]); (try rw [if_pos c_37]); (try rw [if_pos c_56]); (try rw [if_neg c_74]); (try rw [if_neg c_85]); (try rfl))
              ·
                skip
                refine XW.iload eX10_item_88 rfl ?_
                refine XW.i2s eX10_item_90 ?_
                refine XW.goto eX10_item_91 ?_
                refine XW.iastore eX10_item_96 (sa_79 hs) (vin160 (vin_3 c_4) (vin_sz hz c_4 c_56)) ?_
                refine XW.iconst (v := 1) eX10_item_97 (by decide) ?_
                exact XW.iret eX10_item_98 rfl rfl (by (try unfold sX10_item); (try unfold tX10_item); (try rw [if_pos c_4]); (try rw [if_pos c_13]); (try rw [if_pos c_24]); (try rw [if_pos c_37]); (try rw [if_pos c_56]); (try rw [if_neg c_74]); (try rw [if_pos c_85]); (try rfl)) rfl (by (try unfold sX10_item); (try unfold tX10_item); (try rw [if_pos c_4]); (try rw [if_pos c_13]); (try rw [if_pos c_24]); (try rw [if_pos c_37]); (try rw [if_pos c_56]); (try rw [if_neg c_74]); (try rw [if_pos c_85]); (try rfl))
            ·
              skip
              refine XW.iload eX10_item_77 rfl ?_
              refine XW.i2b eX10_item_79 ?_
              refine XW.goto eX10_item_80 ?_
              refine XW.iastore eX10_item_96 (sa_79 hs) (vin160 (vin_3 c_4) (vin_sz hz c_4 c_56)) ?_
              refine XW.iconst (v := 1) eX10_item_97 (by decide) ?_
              exact XW.iret eX10_item_98 rfl rfl (by (try unfold sX10_item); (try unfold tX10_item); (try rw [if_pos c_4]); (try rw [if_pos c_13]); (try rw [if_pos c_24]); (try rw [if_pos c_37]); (try rw [if_pos c_56]); (try rw [if_pos c_74]); (try rfl)) rfl (by (try unfold sX10_item); (try unfold tX10_item); (try rw [if_pos c_4]); (try rw [if_pos c_13]); (try rw [if_pos c_24]); (try rw [if_pos c_37]); (try rw [if_pos c_56]); (try rw [if_pos c_74]); (try rfl))
          ·
            skip
            refine XW.bipush (v := (-13)) eX10_item_59 (by decide) ?_
            exact XW.iret eX10_item_61 rfl rfl (by (try unfold sX10_item); (try unfold tX10_item); (try rw [if_pos c_4]); (try rw [if_pos c_13]); (try rw [if_pos c_24]); (try rw [if_pos c_37]); (try rw [if_neg c_56]); (try rfl)) rfl (by (try unfold sX10_item); (try unfold tX10_item); (try rw [if_pos c_4]); (try rw [if_pos c_13]); (try rw [if_pos c_24]); (try rw [if_pos c_37]); (try rw [if_neg c_56]); (try rfl))
        ·
          skip
          refine XW.bipush (v := (-12)) eX10_item_40 (by decide) ?_
          exact XW.iret eX10_item_42 rfl rfl (by (try unfold sX10_item); (try unfold tX10_item); (try rw [if_pos c_4]); (try rw [if_pos c_13]); (try rw [if_pos c_24]); (try rw [if_neg c_37]); (try rfl)) rfl (by (try unfold sX10_item); (try unfold tX10_item); (try rw [if_pos c_4]); (try rw [if_pos c_13]); (try rw [if_pos c_24]); (try rw [if_neg c_37]); (try rfl))
      ·
        skip
        refine XW.bipush (v := (-11)) eX10_item_27 (by decide) ?_
        exact XW.iret eX10_item_29 rfl rfl (by (try unfold sX10_item); (try unfold tX10_item); (try rw [if_pos c_4]); (try rw [if_pos c_13]); (try rw [if_neg c_24]); (try rfl)) rfl (by (try unfold sX10_item); (try unfold tX10_item); (try rw [if_pos c_4]); (try rw [if_pos c_13]); (try rw [if_neg c_24]); (try rfl))
    ·
      skip
      refine XW.iconst (v := (-1)) eX10_item_16 (by decide) ?_
      exact XW.iret eX10_item_17 rfl rfl (by (try unfold sX10_item); (try unfold tX10_item); (try rw [if_pos c_4]); (try rw [if_neg c_13]); (try rfl)) rfl (by (try unfold sX10_item); (try unfold tX10_item); (try rw [if_pos c_4]); (try rw [if_neg c_13]); (try rfl))
def sX10_clear (I : xI)  (x : Int32) : Int32 := (if 0 ≤ x ∧ x ≤ 3 then (I 81 x.toNatClampNeg) else (-1))
def tX10_clear (I : xI)  (x : Int32) : xI := (if 0 ≤ x ∧ x ≤ 3 then (wI (wI I 81 x.toNatClampNeg 0) 84 x.toNatClampNeg 0) else I)
set_option maxRecDepth 100000 in
set_option maxHeartbeats 4000000 in
theorem YX10_clear {l : Launch} {C : xC} {G : xG} (hs : SH G) (I : xI)  (x : Int32) : XW l C mX10_clear 0 (xent mX10_clear [.ref 69, .int x]) [] G I (some (.int (sX10_clear I  x))) G (tX10_clear I  x) := by
  show XW l C mX10_clear 0 [some (.ref 69), some (.int x), none] [] G I _ G _
  refine XW.iload_n eX10_clear_0 rfl ?_
  refine XW.callS (As := [.int x]) (st := []) eX10_clear_1 okX10_isRow cs10_141 rfl (YX10_isRow I  x) (xnum rfl rfl rfl rfl rfl) ?_
  refine XW.if_neB eX10_clear_4 (fun c_4 => ?_) (fun c_4 => ?_)
  ·
    skip
    refine XW.aload_n eX10_clear_9 rfl ?_
    refine XW.getR (b := 81) eX10_clear_10 f10_53_10 rfl (so_69 hs) (sr_69_14 hs) ?_
    refine XW.iload_n eX10_clear_13 rfl ?_
    refine XW.iaload eX10_clear_14 (sa_81 hs) (vin_k c_4 (by decide)) ?_
    refine XW.istore_n (ls' := [some (.ref 69), some (.int x), some (.int (I 81 x.toNatClampNeg))]) eX10_clear_15 (Nat.le_of_ble_eq_true rfl) rfl ?_
    refine XW.aload_n eX10_clear_16 rfl ?_
    refine XW.getR (b := 81) eX10_clear_17 f10_53_10 rfl (so_69 hs) (sr_69_14 hs) ?_
    refine XW.iload_n eX10_clear_20 rfl ?_
    refine XW.iconst (v := 0) eX10_clear_21 (by decide) ?_
    refine XW.iastore eX10_clear_22 (sa_81 hs) (vin_k c_4 (by decide)) ?_
    refine XW.aload_n eX10_clear_23 rfl ?_
    refine XW.getR (b := 84) eX10_clear_24 f10_62_10 rfl (so_69 hs) (sr_69_17 hs) ?_
    refine XW.iload_n eX10_clear_27 rfl ?_
    refine XW.iconst (v := 0) eX10_clear_28 (by decide) ?_
    refine XW.bastore eX10_clear_29 (sa_84 hs) (vin_k c_4 (by decide)) rfl ?_
    refine XW.iload_n eX10_clear_30 rfl ?_
    exact XW.iret eX10_clear_31 rfl rfl (by (try unfold sX10_clear); (try unfold tX10_clear); (try rw [if_pos c_4]); (try rfl)) rfl (by (try unfold sX10_clear); (try unfold tX10_clear); (try rw [if_pos c_4]); (try rfl))
  ·
    skip
    refine XW.iconst (v := (-1)) eX10_clear_7 (by decide) ?_
    exact XW.iret eX10_clear_8 rfl rfl (by (try unfold sX10_clear); (try unfold tX10_clear); (try rw [if_neg c_4]); (try rfl)) rfl (by (try unfold sX10_clear); (try unfold tX10_clear); (try rw [if_neg c_4]); (try rfl))
def sX10_letter (I : xI)  (x : Int32) (k : Int32) (w : Int32) : Int32 := (if 0 ≤ x ∧ x ≤ 3 then (if k = (-1) then (I 81 x.toNatClampNeg) else (if 0 ≤ k ∧ k ≤ ((I 81 x.toNatClampNeg) - 1) then (if 0 ≤ w ∧ w ≤ 1 then (if w = 0 then (I 82 ((80 * x) + k).toNatClampNeg) else (I 83 ((80 * x) + k).toNatClampNeg)) else (-1)) else (-1))) else (-1))
set_option maxRecDepth 100000 in
set_option maxHeartbeats 4000000 in
theorem YX10_letter {l : Launch} {C : xC} {G : xG} (hs : SH G) (I : xI) (hm : mHM I) (x : Int32) (k : Int32) (w : Int32) : XW l C mX10_letter 0 (xent mX10_letter [.ref 69, .int x, .int k, .int w]) [] G I (some (.int (sX10_letter I  x k w))) G I := by
  show XW l C mX10_letter 0 [some (.ref 69), some (.int x), some (.int k), some (.int w)] [] G I _ G _
  refine XW.iload_n eX10_letter_0 rfl ?_
  refine XW.callS (As := [.int x]) (st := []) eX10_letter_1 okX10_isRow cs10_141 rfl (YX10_isRow I  x) (xnum rfl rfl rfl rfl rfl) ?_
  refine XW.if_neB eX10_letter_4 (fun c_4 => ?_) (fun c_4 => ?_)
  ·
    skip
    refine XW.iload_n eX10_letter_9 rfl ?_
    refine XW.iconst (v := (-1)) eX10_letter_10 (by decide) ?_
    refine XW.icmp_ne eX10_letter_11 (fun c_11 => ?_) (fun c_11 => ?_)
    ·
      skip
      refine XW.iload_n eX10_letter_21 rfl ?_
      refine XW.iconst (v := 0) eX10_letter_22 (by decide) ?_
      refine XW.aload_n eX10_letter_23 rfl ?_
      refine XW.getR (b := 81) eX10_letter_24 f10_53_10 rfl (so_69 hs) (sr_69_14 hs) ?_
      refine XW.iload_n eX10_letter_27 rfl ?_
      refine XW.iaload eX10_letter_28 (sa_81 hs) (vin_k c_4 (by decide)) ?_
      refine XW.iconst (v := 1) eX10_letter_29 (by decide) ?_
      refine XW.isub eX10_letter_30 ?_
      refine XW.callS (As := [.int k, .int 0, .int ((I 81 x.toNatClampNeg) - 1)]) (st := []) eX10_letter_31 okX10_in cs10_123 rfl (YX10_in I  k 0 ((I 81 x.toNatClampNeg) - 1)) (xnum rfl rfl rfl rfl rfl) ?_
      refine XW.if_eqB eX10_letter_34 (fun c_34 => ?_) (fun c_34 => ?_)
      ·
        skip
        refine XW.iconst (v := (-1)) eX10_letter_46 (by decide) ?_
        exact XW.iret eX10_letter_47 rfl rfl (by (try unfold sX10_letter); (try unfold tX10_letter); (try rw [if_pos c_4]); (try rw [if_neg c_11]); (try rw [if_neg c_34]); (try rfl)) rfl (by (try unfold sX10_letter); (try unfold tX10_letter); (try rw [if_pos c_4]); (try rw [if_neg c_11]); (try rw [if_neg c_34]); (try rfl))
      ·
        skip
        refine XW.iload_n eX10_letter_37 rfl ?_
        refine XW.iconst (v := 0) eX10_letter_38 (by decide) ?_
        refine XW.iconst (v := 1) eX10_letter_39 (by decide) ?_
        refine XW.callS (As := [.int w, .int 0, .int 1]) (st := []) eX10_letter_40 okX10_in cs10_123 rfl (YX10_in I  w 0 1) (xnum rfl rfl rfl rfl rfl) ?_
        refine XW.if_neB eX10_letter_43 (fun c_43 => ?_) (fun c_43 => ?_)
        ·
          skip
          refine XW.iload_n eX10_letter_48 rfl ?_
          refine XW.if_ne eX10_letter_49 (fun c_49 => ?_) (fun c_49 => ?_)
          ·
            skip
            refine XW.aload_n eX10_letter_66 rfl ?_
            refine XW.getR (b := 83) eX10_letter_67 f10_59_10 rfl (so_69 hs) (sr_69_16 hs) ?_
            refine XW.bipush (v := 80) eX10_letter_70 (by decide) ?_
            refine XW.iload_n eX10_letter_72 rfl ?_
            refine XW.imul eX10_letter_73 ?_
            refine XW.iload_n eX10_letter_74 rfl ?_
            refine XW.iadd eX10_letter_75 ?_
            refine XW.iaload eX10_letter_76 (sa_83 hs) (vin80 (vin_3 c_4) (vin_my hm c_4 c_34)) ?_
            exact XW.iret eX10_letter_77 rfl rfl (by (try unfold sX10_letter); (try unfold tX10_letter); (try rw [if_pos c_4]); (try rw [if_neg c_11]); (try rw [if_pos c_34]); (try rw [if_pos c_43]); (try rw [if_neg c_49]); (try rfl)) rfl (by (try unfold sX10_letter); (try unfold tX10_letter); (try rw [if_pos c_4]); (try rw [if_neg c_11]); (try rw [if_pos c_34]); (try rw [if_pos c_43]); (try rw [if_neg c_49]); (try rfl))
          ·
            skip
            refine XW.aload_n eX10_letter_52 rfl ?_
            refine XW.getR (b := 82) eX10_letter_53 f10_56_10 rfl (so_69 hs) (sr_69_15 hs) ?_
            refine XW.bipush (v := 80) eX10_letter_56 (by decide) ?_
            refine XW.iload_n eX10_letter_58 rfl ?_
            refine XW.imul eX10_letter_59 ?_
            refine XW.iload_n eX10_letter_60 rfl ?_
            refine XW.iadd eX10_letter_61 ?_
            refine XW.iaload eX10_letter_62 (sa_82 hs) (vin80 (vin_3 c_4) (vin_my hm c_4 c_34)) ?_
            refine XW.goto eX10_letter_63 ?_
            exact XW.iret eX10_letter_77 rfl rfl (by (try unfold sX10_letter); (try unfold tX10_letter); (try rw [if_pos c_4]); (try rw [if_neg c_11]); (try rw [if_pos c_34]); (try rw [if_pos c_43]); (try rw [if_pos c_49]); (try rfl)) rfl (by (try unfold sX10_letter); (try unfold tX10_letter); (try rw [if_pos c_4]); (try rw [if_neg c_11]); (try rw [if_pos c_34]); (try rw [if_pos c_43]); (try rw [if_pos c_49]); (try rfl))
        ·
          skip
          refine XW.iconst (v := (-1)) eX10_letter_46 (by decide) ?_
          exact XW.iret eX10_letter_47 rfl rfl (by (try unfold sX10_letter); (try unfold tX10_letter); (try rw [if_pos c_4]); (try rw [if_neg c_11]); (try rw [if_pos c_34]); (try rw [if_neg c_43]); (try rfl)) rfl (by (try unfold sX10_letter); (try unfold tX10_letter); (try rw [if_pos c_4]); (try rw [if_neg c_11]); (try rw [if_pos c_34]); (try rw [if_neg c_43]); (try rfl))
    ·
      skip
      refine XW.aload_n eX10_letter_14 rfl ?_
      refine XW.getR (b := 81) eX10_letter_15 f10_53_10 rfl (so_69 hs) (sr_69_14 hs) ?_
      refine XW.iload_n eX10_letter_18 rfl ?_
      refine XW.iaload eX10_letter_19 (sa_81 hs) (vin_k c_4 (by decide)) ?_
      exact XW.iret eX10_letter_20 rfl rfl (by (try unfold sX10_letter); (try unfold tX10_letter); (try rw [if_pos c_4]); (try rw [if_pos c_11]); (try rfl)) rfl (by (try unfold sX10_letter); (try unfold tX10_letter); (try rw [if_pos c_4]); (try rw [if_pos c_11]); (try rfl))
  ·
    skip
    refine XW.iconst (v := (-1)) eX10_letter_7 (by decide) ?_
    exact XW.iret eX10_letter_8 rfl rfl (by (try unfold sX10_letter); (try unfold tX10_letter); (try rw [if_neg c_4]); (try rfl)) rfl (by (try unfold sX10_letter); (try unfold tX10_letter); (try rw [if_neg c_4]); (try rfl))
def sX10_length (I : xI)  (x : Int32) (t : Int32) : Int32 := (if (I 69 34) = 0 then (-1) else (if 0 ≤ x ∧ x ≤ (I 69 1 - 1) then (if 0 ≤ t ∧ t ≤ 399 then (I 95 ((400 * x) + t).toNatClampNeg) else (-1)) else (-1)))
set_option maxRecDepth 100000 in
set_option maxHeartbeats 4000000 in
theorem YX10_length {l : Launch} {C : xC} {G : xG} (hs : SH G) (I : xI) {n : Nat} (hn : I 69 1 = nI n) (h1 : 1 ≤ n) (h4 : n ≤ 4) (x : Int32) (t : Int32) : XW l C mX10_length 0 (xent mX10_length [.ref 69, .int x, .int t]) [] G I (some (.int (sX10_length I  x t))) G I := by
  show XW l C mX10_length 0 [some (.ref 69), some (.int x), some (.int t)] [] G I _ G _
  refine XW.aload_n eX10_length_0 rfl ?_
  refine XW.getI eX10_length_1 f10_206_10 rfl (so_69 hs) ?_
  refine XW.if_eq eX10_length_4 (fun c_4 => ?_) (fun c_4 => ?_)
  ·
    skip
    refine XW.iconst (v := (-1)) eX10_length_41 (by decide) ?_
    exact XW.iret eX10_length_42 rfl rfl (by (try unfold sX10_length); (try unfold tX10_length); (try rw [if_pos c_4]); (try rfl)) rfl (by (try unfold sX10_length); (try unfold tX10_length); (try rw [if_pos c_4]); (try rfl))
  ·
    skip
    refine XW.aload_n eX10_length_7 rfl ?_
    refine XW.iload_n eX10_length_8 rfl ?_
    refine XW.callV (As := [.int x]) (st := []) eX10_length_9 okX10_isLine cv10_131 rfl (so_69 hs) (YX10_isLine hs I  x) (xnum rfl rfl rfl rfl rfl) ?_
    refine XW.if_eqB eX10_length_12 (fun c_12 => ?_) (fun c_12 => ?_)
    ·
      skip
      refine XW.iconst (v := (-1)) eX10_length_41 (by decide) ?_
      exact XW.iret eX10_length_42 rfl rfl (by (try unfold sX10_length); (try unfold tX10_length); (try rw [if_neg c_4]); (try rw [if_neg c_12]); (try rfl)) rfl (by (try unfold sX10_length); (try unfold tX10_length); (try rw [if_neg c_4]); (try rw [if_neg c_12]); (try rfl))
    ·
      skip
      refine XW.iload_n eX10_length_15 rfl ?_
      refine XW.iconst (v := 0) eX10_length_16 (by decide) ?_
      refine XW.sipush (v := 399) eX10_length_17 (by decide) ?_
      refine XW.callS (As := [.int t, .int 0, .int 399]) (st := []) eX10_length_20 okX10_in cs10_123 rfl (YX10_in I  t 0 399) (xnum rfl rfl rfl rfl rfl) ?_
      refine XW.if_eqB eX10_length_23 (fun c_23 => ?_) (fun c_23 => ?_)
      ·
        skip
        refine XW.iconst (v := (-1)) eX10_length_41 (by decide) ?_
        exact XW.iret eX10_length_42 rfl rfl (by (try unfold sX10_length); (try unfold tX10_length); (try rw [if_neg c_4]); (try rw [if_pos c_12]); (try rw [if_neg c_23]); (try rfl)) rfl (by (try unfold sX10_length); (try unfold tX10_length); (try rw [if_neg c_4]); (try rw [if_pos c_12]); (try rw [if_neg c_23]); (try rfl))
      ·
        skip
        refine XW.aload_n eX10_length_26 rfl ?_
        refine XW.getR (b := 95) eX10_length_27 f10_96_10 rfl (so_69 hs) (sr_69_33 hs) ?_
        refine XW.sipush (v := 400) eX10_length_30 (by decide) ?_
        refine XW.iload_n eX10_length_33 rfl ?_
        refine XW.imul eX10_length_34 ?_
        refine XW.iload_n eX10_length_35 rfl ?_
        refine XW.iadd eX10_length_36 ?_
        refine XW.iaload eX10_length_37 (sa_95 hs) (vin400 (vin_l hn h4 (by decide) c_12) (vin_k c_23 (by decide))) ?_
        refine XW.goto eX10_length_38 ?_
        exact XW.iret eX10_length_42 rfl rfl (by (try unfold sX10_length); (try unfold tX10_length); (try rw [if_neg c_4]); (try rw [if_pos c_12]); (try rw [if_pos c_23]); (try rfl)) rfl (by (try unfold sX10_length); (try unfold tX10_length); (try rw [if_neg c_4]); (try rw [if_pos c_12]); (try rw [if_pos c_23]); (try rfl))
def sX10_fate (I : xI)  (k : Int32) (w : Int32) : Int32 := (if (I 69 34) = 0 then (-1) else (if 0 ≤ k ∧ k ≤ ((I 69 35) - 1) then (if 0 ≤ w ∧ w ≤ 2 then (if w = 0 then (I 96 k.toNatClampNeg) else (if w = 1 then (I 97 k.toNatClampNeg) else (I 98 k.toNatClampNeg))) else (-1)) else (-1)))
set_option maxRecDepth 100000 in
set_option maxHeartbeats 4000000 in
theorem YX10_fate {l : Launch} {C : xC} {G : xG} (hs : SH G) (I : xI) {rm : Nat} (hr : I 69 35 = nI rm) (hrm : rm ≤ 80) (k : Int32) (w : Int32) : XW l C mX10_fate 0 (xent mX10_fate [.ref 69, .int k, .int w]) [] G I (some (.int (sX10_fate I  k w))) G I := by
  show XW l C mX10_fate 0 [some (.ref 69), some (.int k), some (.int w)] [] G I _ G _
  refine XW.aload_n eX10_fate_0 rfl ?_
  refine XW.getI eX10_fate_1 f10_206_10 rfl (so_69 hs) ?_
  refine XW.if_eq eX10_fate_4 (fun c_4 => ?_) (fun c_4 => ?_)
  ·
    skip
    refine XW.iconst (v := (-1)) eX10_fate_30 (by decide) ?_
    exact XW.iret eX10_fate_31 rfl rfl (by (try unfold sX10_fate); (try unfold tX10_fate); (try rw [if_pos c_4]); (try rfl)) rfl (by (try unfold sX10_fate); (try unfold tX10_fate); (try rw [if_pos c_4]); (try rfl))
  ·
    skip
    refine XW.iload_n eX10_fate_7 rfl ?_
    refine XW.iconst (v := 0) eX10_fate_8 (by decide) ?_
    refine XW.aload_n eX10_fate_9 rfl ?_
    refine XW.getI eX10_fate_10 f10_209_10 rfl (so_69 hs) ?_
    refine XW.iconst (v := 1) eX10_fate_13 (by decide) ?_
    refine XW.isub eX10_fate_14 ?_
    refine XW.callS (As := [.int k, .int 0, .int ((I 69 35) - 1)]) (st := []) eX10_fate_15 okX10_in cs10_123 rfl (YX10_in I  k 0 ((I 69 35) - 1)) (xnum rfl rfl rfl rfl rfl) ?_
    refine XW.if_eqB eX10_fate_18 (fun c_18 => ?_) (fun c_18 => ?_)
    ·
      skip
      refine XW.iconst (v := (-1)) eX10_fate_30 (by decide) ?_
      exact XW.iret eX10_fate_31 rfl rfl (by (try unfold sX10_fate); (try unfold tX10_fate); (try rw [if_neg c_4]); (try rw [if_neg c_18]); (try rfl)) rfl (by (try unfold sX10_fate); (try unfold tX10_fate); (try rw [if_neg c_4]); (try rw [if_neg c_18]); (try rfl))
    ·
      skip
      refine XW.iload_n eX10_fate_21 rfl ?_
      refine XW.iconst (v := 0) eX10_fate_22 (by decide) ?_
      refine XW.iconst (v := 2) eX10_fate_23 (by decide) ?_
      refine XW.callS (As := [.int w, .int 0, .int 2]) (st := []) eX10_fate_24 okX10_in cs10_123 rfl (YX10_in I  w 0 2) (xnum rfl rfl rfl rfl rfl) ?_
      refine XW.if_neB eX10_fate_27 (fun c_27 => ?_) (fun c_27 => ?_)
      ·
        skip
        refine XW.iload_n eX10_fate_32 rfl ?_
        refine XW.if_ne eX10_fate_33 (fun c_33 => ?_) (fun c_33 => ?_)
        ·
          skip
          refine XW.iload_n eX10_fate_45 rfl ?_
          refine XW.iconst (v := 1) eX10_fate_46 (by decide) ?_
          refine XW.icmp_ne eX10_fate_47 (fun c_47 => ?_) (fun c_47 => ?_)
          ·
            skip
            refine XW.aload_n eX10_fate_59 rfl ?_
            refine XW.getR (b := 98) eX10_fate_60 f10_105_10 rfl (so_69 hs) (sr_69_39 hs) ?_
            refine XW.iload_n eX10_fate_63 rfl ?_
            refine XW.iaload eX10_fate_64 (sa_98 hs) (vin_l hr hrm (by decide) c_18) ?_
            exact XW.iret eX10_fate_65 rfl rfl (by (try unfold sX10_fate); (try unfold tX10_fate); (try rw [if_neg c_4]); (try rw [if_pos c_18]); (try rw [if_pos c_27]); (try rw [if_neg c_33]); (try rw [if_neg c_47]); (try rfl)) rfl (by (try unfold sX10_fate); (try unfold tX10_fate); (try rw [if_neg c_4]); (try rw [if_pos c_18]); (try rw [if_pos c_27]); (try rw [if_neg c_33]); (try rw [if_neg c_47]); (try rfl))
          ·
            skip
            refine XW.aload_n eX10_fate_50 rfl ?_
            refine XW.getR (b := 97) eX10_fate_51 f10_102_10 rfl (so_69 hs) (sr_69_38 hs) ?_
            refine XW.iload_n eX10_fate_54 rfl ?_
            refine XW.iaload eX10_fate_55 (sa_97 hs) (vin_l hr hrm (by decide) c_18) ?_
            refine XW.goto eX10_fate_56 ?_
            exact XW.iret eX10_fate_65 rfl rfl (by (try unfold sX10_fate); (try unfold tX10_fate); (try rw [if_neg c_4]); (try rw [if_pos c_18]); (try rw [if_pos c_27]); (try rw [if_neg c_33]); (try rw [if_pos c_47]); (try rfl)) rfl (by (try unfold sX10_fate); (try unfold tX10_fate); (try rw [if_neg c_4]); (try rw [if_pos c_18]); (try rw [if_pos c_27]); (try rw [if_neg c_33]); (try rw [if_pos c_47]); (try rfl))
        ·
          skip
          refine XW.aload_n eX10_fate_36 rfl ?_
          refine XW.getR (b := 96) eX10_fate_37 f10_99_10 rfl (so_69 hs) (sr_69_37 hs) ?_
          refine XW.iload_n eX10_fate_40 rfl ?_
          refine XW.iaload eX10_fate_41 (sa_96 hs) (vin_l hr hrm (by decide) c_18) ?_
          refine XW.goto eX10_fate_42 ?_
          exact XW.iret eX10_fate_65 rfl rfl (by (try unfold sX10_fate); (try unfold tX10_fate); (try rw [if_neg c_4]); (try rw [if_pos c_18]); (try rw [if_pos c_27]); (try rw [if_pos c_33]); (try rfl)) rfl (by (try unfold sX10_fate); (try unfold tX10_fate); (try rw [if_neg c_4]); (try rw [if_pos c_18]); (try rw [if_pos c_27]); (try rw [if_pos c_33]); (try rfl))
      ·
        skip
        refine XW.iconst (v := (-1)) eX10_fate_30 (by decide) ?_
        exact XW.iret eX10_fate_31 rfl rfl (by (try unfold sX10_fate); (try unfold tX10_fate); (try rw [if_neg c_4]); (try rw [if_pos c_18]); (try rw [if_neg c_27]); (try rfl)) rfl (by (try unfold sX10_fate); (try unfold tX10_fate); (try rw [if_neg c_4]); (try rw [if_pos c_18]); (try rw [if_neg c_27]); (try rfl))
theorem iw1 {i n z : Int32} (h : i < 0) : bI (0 ≤ i ∧ i.toInt + n.toInt ≤ z.toInt) = 0 := if_neg (fun q => Int32.not_le.mpr h q.1)
theorem iw2 {i n z : Int32} (h : 0 < lg_cmp (i.toInt64 + n.toInt64) z.toInt64) : bI (0 ≤ i ∧ i.toInt + n.toInt ≤ z.toInt) = 0 := if_neg (fun q => by have := (lcmp_pos i n z).mp h; omega)
theorem iw3 {i n z : Int32} (h0 : ¬ i < 0) (h : ¬ 0 < lg_cmp (i.toInt64 + n.toInt64) z.toInt64) : bI (0 ≤ i ∧ i.toInt + n.toInt ≤ z.toInt) = 1 := if_pos ⟨Int32.not_lt.mp h0, Int.not_lt.mp (fun q => h ((lcmp_pos i n z).mpr q))⟩
set_option maxRecDepth 100000 in
set_option maxHeartbeats 4000000 in
theorem YX10_isWithin {l : Launch} {C : xC} {G : xG} (hs : SH G) (I : xI) (s i n : Int32) (hx : 0 ≤ s ∧ s ≤ 3) : XW l C mX10_isWithin 0 (xent mX10_isWithin [.ref 69, .int s, .int i, .int n]) [] G I (some (.int (bI (0 ≤ i ∧ i.toInt + n.toInt ≤ (I 78 s.toNatClampNeg).toInt)))) G I := by
  show XW l C mX10_isWithin 0 [some (.ref 69), some (.int s), some (.int i), some (.int n)] [] G I _ G _
  refine XW.iload_n eX10_isWithin_0 rfl ?_
  refine XW.if_lt eX10_isWithin_1 (fun c_1 => ?_) (fun c_1 => ?_)
  ·
    skip
    refine XW.iconst (v := 0) eX10_isWithin_24 (by decide) ?_
    exact XW.iret eX10_isWithin_25 rfl rfl (congrArg (fun z => some (Value.int z)) (iw1 c_1)) rfl rfl
  ·
    skip
    refine XW.iload_n eX10_isWithin_4 rfl ?_
    refine XW.i2l eX10_isWithin_5 ?_
    refine XW.iload_n eX10_isWithin_6 rfl ?_
    refine XW.i2l eX10_isWithin_7 ?_
    refine XW.ladd eX10_isWithin_8 ?_
    refine XW.aload_n eX10_isWithin_9 rfl ?_
    refine XW.getR (b := 78) eX10_isWithin_10 f10_44_10 rfl (so_69 hs) (sr_69_11 hs) ?_
    refine XW.iload_n eX10_isWithin_13 rfl ?_
    refine XW.iaload eX10_isWithin_14 (sa_78 hs) (vin_3 hx) ?_
    refine XW.i2l eX10_isWithin_15 ?_
    refine XW.lcmp eX10_isWithin_16 ?_
    refine XW.if_gt eX10_isWithin_17 (fun c_17 => ?_) (fun c_17 => ?_)
    ·
      skip
      refine XW.iconst (v := 0) eX10_isWithin_24 (by decide) ?_
      exact XW.iret eX10_isWithin_25 rfl rfl (congrArg (fun z => some (Value.int z)) (by first | exact iw2 c_17 | exact iw3 c_1 c_17)) rfl rfl
    ·
      skip
      refine XW.iconst (v := 1) eX10_isWithin_20 (by decide) ?_
      refine XW.goto eX10_isWithin_21 ?_
      exact XW.iret eX10_isWithin_25 rfl rfl (congrArg (fun z => some (Value.int z)) (by first | exact iw2 c_17 | exact iw3 c_1 c_17)) rfl rfl
set_option maxRecDepth 100000 in
set_option maxHeartbeats 4000000 in
theorem LX10_sheet {l : Launch} {C : xC} {G : xG} (hs : SH G) (J : xI) {s : Nat} (hs4 : s < 4) {y z : Int32} {r : Option Value} {G' : xG} {I' : xI} (kx : XW l C mX10_sheet 77 [some (.ref 69), some (.int (nI s)), some (.int y), some (.int z), some (.int (nI 160))] [] G (wA J 79 (zr (J 79) (160 * s) 160)) r G' I') : ∀ (k i : Nat), i ≤ 160 → 160 < i + k → XW l C mX10_sheet 49 [some (.ref 69), some (.int (nI s)), some (.int y), some (.int z), some (.int (nI i))] [] G (wA J 79 (zr (J 79) (160 * s) i)) r G' I' := by
  intro k
  induction k with
  | zero =>
    intro i h1 h2
    exact absurd h2 (by omega)
  | succ k ih =>
    intro i h1 h2
    refine XW.iload eX10_sheet_49 rfl ?_
    refine XW.sipush (v := 160) eX10_sheet_51 (by decide) ?_
    refine XW.icmp_ge eX10_sheet_54 (fun c_54 => ?_) (fun c_54 => ?_)
    ·
      have hi : ¬ i < 160 := fun h => nI_ge h (by omega) c_54
      have hi2 : i = 160 := by omega
      subst hi2
      exact XW.to kx rfl rfl rfl
    ·
      have hi : i < 160 := Nat.lt_of_not_le (fun h => c_54 (by rw [show (160 : Int32) = nI 160 from rfl]; exact nI_le h (by omega)))
      refine XW.aload_n eX10_sheet_57 rfl ?_
      refine XW.getR (b := 79) eX10_sheet_58 f10_47_10 rfl (so_69 hs) (sr_69_12 hs) ?_
      refine XW.sipush (v := 160) eX10_sheet_61 (by decide) ?_
      refine XW.iload_n eX10_sheet_64 rfl ?_
      refine XW.imul eX10_sheet_65 ?_
      refine XW.iload eX10_sheet_66 rfl ?_
      refine XW.iadd eX10_sheet_68 ?_
      refine XW.iconst (v := 0) eX10_sheet_69 (by decide) ?_
      refine XW.iastore eX10_sheet_70 (sa_79 hs) (vin160 (vp_in_nI hs4 (by decide)) (vp_in_nI hi (by decide))) ?_
      refine XW.iinc (y := ((nI i) + 1)) (ls' := [some (.ref 69), some (.int (nI s)), some (.int y), some (.int z), some (.int ((nI i) + 1))]) eX10_sheet_71 rfl rfl rfl ?_
      refine XW.goto eX10_sheet_74 ?_
      exact XW.to (ih (i + 1) (by omega) (by omega)) (by simp only [nI_succ]) rfl (by rw [wI_wA, show (160 : Int32) = nI 160 from rfl, pk_mul, nI_add, nI_clamp (by omega), zr_succ])
def sX10_sheet (x y n : Int32) : Int32 := if 0 ≤ x ∧ x ≤ 3 then (if 0 ≤ y ∧ y ≤ 2 then (if n ≤ 160 then (if 0 ≤ n then n else (-14)) else (-1)) else (-1)) else (-1)
def uX10_sheet (I : xI) (x y n : Int32) : xI := wA (wI (wI I 77 x.toNatClampNeg y) 78 x.toNatClampNeg n) 79 (zr (I 79) (160 * x.toNatClampNeg) 160)
def tX10_sheet (I : xI) (x y n : Int32) : xI := if 0 ≤ x ∧ x ≤ 3 then (if 0 ≤ y ∧ y ≤ 2 then (if n ≤ 160 then (if 0 ≤ n then uX10_sheet I x y n else I) else I) else I) else I
set_option maxRecDepth 100000 in
set_option maxHeartbeats 4000000 in
theorem YX10_sheet {l : Launch} {C : xC} {G : xG} (hs : SH G) (I : xI) (x y n : Int32) : XW l C mX10_sheet 0 (xent mX10_sheet [.ref 69, .int x, .int y, .int n]) [] G I (some (.int (sX10_sheet x y n))) G (tX10_sheet I x y n) := by
  show XW l C mX10_sheet 0 [some (.ref 69), some (.int x), some (.int y), some (.int n), none] [] G I _ G _
  refine XW.iload_n eX10_sheet_0 rfl ?_
  refine XW.callS (As := [.int x]) (st := []) eX10_sheet_1 okX10_isSheet cs10_135 rfl (YX10_isSheet I  x) (xnum rfl rfl rfl rfl rfl) ?_
  refine XW.if_eqB eX10_sheet_4 (fun c_4 => ?_) (fun c_4 => ?_)
  ·
    skip
    refine XW.iconst (v := (-1)) eX10_sheet_23 (by decide) ?_
    exact XW.iret eX10_sheet_24 rfl rfl (by (try unfold sX10_sheet); (try unfold tX10_sheet); (try rw [if_neg c_4]); (try rfl)) rfl (by (try unfold sX10_sheet); (try unfold tX10_sheet); (try rw [if_neg c_4]); (try rfl))
  ·
    skip
    refine XW.iload_n eX10_sheet_7 rfl ?_
    refine XW.iconst (v := 0) eX10_sheet_8 (by decide) ?_
    refine XW.iconst (v := 2) eX10_sheet_9 (by decide) ?_
    refine XW.callS (As := [.int y, .int 0, .int 2]) (st := []) eX10_sheet_10 okX10_in cs10_123 rfl (YX10_in I  y 0 2) (xnum rfl rfl rfl rfl rfl) ?_
    refine XW.if_eqB eX10_sheet_13 (fun c_13 => ?_) (fun c_13 => ?_)
    ·
      skip
      refine XW.iconst (v := (-1)) eX10_sheet_23 (by decide) ?_
      exact XW.iret eX10_sheet_24 rfl rfl (by (try unfold sX10_sheet); (try unfold tX10_sheet); (try rw [if_pos c_4]); (try rw [if_neg c_13]); (try rfl)) rfl (by (try unfold sX10_sheet); (try unfold tX10_sheet); (try rw [if_pos c_4]); (try rw [if_neg c_13]); (try rfl))
    ·
      skip
      refine XW.iload_n eX10_sheet_16 rfl ?_
      refine XW.sipush (v := 160) eX10_sheet_17 (by decide) ?_
      refine XW.icmp_le eX10_sheet_20 (fun c_20 => ?_) (fun c_20 => ?_)
      ·
        skip
        refine XW.iload_n eX10_sheet_25 rfl ?_
        refine XW.if_ge eX10_sheet_26 (fun c_26 => ?_) (fun c_26 => ?_)
        ·
          skip
          refine XW.aload_n eX10_sheet_32 rfl ?_
          refine XW.getR (b := 77) eX10_sheet_33 f10_41_10 rfl (so_69 hs) (sr_69_10 hs) ?_
          refine XW.iload_n eX10_sheet_36 rfl ?_
          refine XW.iload_n eX10_sheet_37 rfl ?_
          refine XW.iastore eX10_sheet_38 (sa_77 hs) (vin_k c_4 (by decide)) ?_
          refine XW.aload_n eX10_sheet_39 rfl ?_
          refine XW.getR (b := 78) eX10_sheet_40 f10_44_10 rfl (so_69 hs) (sr_69_11 hs) ?_
          refine XW.iload_n eX10_sheet_43 rfl ?_
          refine XW.iload_n eX10_sheet_44 rfl ?_
          refine XW.iastore eX10_sheet_45 (sa_78 hs) (vin_k c_4 (by decide)) ?_
          refine XW.iconst (v := 0) eX10_sheet_46 (by decide) ?_
          refine XW.istore (ls' := [some (.ref 69), some (.int x), some (.int y), some (.int n), some (.int 0)]) eX10_sheet_47 (Nat.le_of_ble_eq_true rfl) rfl ?_
          obtain ⟨s, hs4, rfl⟩ := vp_in_of (vin_3 c_4) (by decide)
          refine XW.to (LX10_sheet hs (wI (wI I 77 (nI s).toNatClampNeg y) 78 (nI s).toNatClampNeg n) hs4 ?_ 161 0 (by omega) (by omega)) rfl rfl (by rw [zr_0, wA_self])
          refine XW.iload_n eX10_sheet_77 rfl ?_
          exact XW.iret eX10_sheet_78 rfl rfl (by unfold sX10_sheet; rw [if_pos c_4, if_pos c_13, if_pos c_20, if_pos c_26]) rfl (by unfold tX10_sheet; rw [if_pos c_4, if_pos c_13, if_pos c_20, if_pos c_26]; unfold uX10_sheet; rw [nI_clamp (by omega)]; rfl)
        ·
          skip
          refine XW.bipush (v := (-14)) eX10_sheet_29 (by decide) ?_
          exact XW.iret eX10_sheet_31 rfl rfl (by (try unfold sX10_sheet); (try unfold tX10_sheet); (try rw [if_pos c_4]); (try rw [if_pos c_13]); (try rw [if_pos c_20]); (try rw [if_neg c_26]); (try rfl)) rfl (by (try unfold sX10_sheet); (try unfold tX10_sheet); (try rw [if_pos c_4]); (try rw [if_pos c_13]); (try rw [if_pos c_20]); (try rw [if_neg c_26]); (try rfl))
      ·
        skip
        refine XW.iconst (v := (-1)) eX10_sheet_23 (by decide) ?_
        exact XW.iret eX10_sheet_24 rfl rfl (by (try unfold sX10_sheet); (try unfold tX10_sheet); (try rw [if_pos c_4]); (try rw [if_pos c_13]); (try rw [if_neg c_20]); (try rfl)) rfl (by (try unfold sX10_sheet); (try unfold tX10_sheet); (try rw [if_pos c_4]); (try rw [if_pos c_13]); (try rw [if_neg c_20]); (try rfl))
