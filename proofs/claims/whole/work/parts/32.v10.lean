/-! what is left to show of each method -/
set_option maxRecDepth 100000 in
set_option maxHeartbeats 4000000 in
theorem VX10_line {l : Launch} {C : xC} {G : xG} (hs : SH G)  (I : xI) (y1 y2 : Int32) {Q : Int32 → xI → Prop} (h :
    (∃ Qc : Int32 → xI → Prop, XF fI l C mX10_in 0 (xent mX10_in [.int y1, .int 0, .int 2]) [] G I Qc ∧ ∀ (v_3 : Int32) (I_3 : xI), Qc v_3 I_3 → ((v_3 = 0 → Q (-1) I_3) ∧ (¬ (v_3 = 0) → (∃ Qc : Int32 → xI → Prop, XF fI l C mX10_in 0 (xent mX10_in [.int y2, .int 0, .int 12]) [] G I_3 Qc ∧ ∀ (v_13 : Int32) (I_13 : xI), Qc v_13 I_13 → ((v_13 = 0 → Q (-1) I_13) ∧ (¬ (v_13 = 0) → ((y1 ≤ 0 → (((I_13 69 1) = 4 → Q (-3) I_13) ∧ (¬ ((I_13 69 1) = 4) → vp_in (I_13 69 1) 4 ∧ Q (((I_13 69 1) + 1) - 1) (wI (wI (wI (wI (wI (wI (wI (wI I_13 70 (I_13 69 1).toNatClampNeg y1) 71 (I_13 69 1).toNatClampNeg y2) 72 (I_13 69 1).toNatClampNeg 1) 73 (I_13 69 1).toNatClampNeg 1) 74 (I_13 69 1).toNatClampNeg 2) 75 (I_13 69 1).toNatClampNeg 1) 76 (I_13 69 1).toNatClampNeg 1) 69 1 ((I_13 69 1) + 1))))) ∧ (¬ (y1 ≤ 0) → (∃ Qc : Int32 → xI → Prop, XF fI l C mX10_allParts 0 (xent mX10_allParts [.ref 69]) [] G I_13 Qc ∧ ∀ (v_26 : Int32) (I_26 : xI), Qc v_26 I_26 → (((v_26 + 1) ≤ (I_26 69 0) → (((I_26 69 1) = 4 → Q (-3) I_26) ∧ (¬ ((I_26 69 1) = 4) → vp_in (I_26 69 1) 4 ∧ Q (((I_26 69 1) + 1) - 1) (wI (wI (wI (wI (wI (wI (wI (wI I_26 70 (I_26 69 1).toNatClampNeg y1) 71 (I_26 69 1).toNatClampNeg y2) 72 (I_26 69 1).toNatClampNeg 1) 73 (I_26 69 1).toNatClampNeg 1) 74 (I_26 69 1).toNatClampNeg 2) 75 (I_26 69 1).toNatClampNeg 1) 76 (I_26 69 1).toNatClampNeg 1) 69 1 ((I_26 69 1) + 1))))) ∧ (¬ ((v_26 + 1) ≤ (I_26 69 0)) → Q (-2) I_26)))))))))))) : XF fI l C mX10_line 0 (xent mX10_line [.ref 69, .int y1, .int y2]) [] G I Q := by
  show XF fI l C mX10_line 0 [some (.ref 69), some (.int y1), some (.int y2)] [] G I Q
  refine XF.lift (pc2 := 3) (ls2 := [some (.ref 69), some (.int y1), some (.int y2)]) (st2 := [.int 2, .int 0, .int y1]) (I2 := I) ?_ (fun r I' hk => by
      refine XW.iload_n eX10_line_0 rfl ?_
      refine XW.iconst (v := 0) eX10_line_1 (by decide) ?_
      refine XW.iconst (v := 2) eX10_line_2 (by decide) ?_
      exact hk)
  obtain ⟨Qc, hc, h⟩ := h
  refine XF.call (nx := 6) (st := []) hc (fun v I1 r I' hY hk => XW.callS (As := [.int y1, .int 0, .int 2]) (st := []) eX10_line_3 okX10_in cs10_123 rfl hY (xnum rfl rfl rfl rfl rfl) hk) (fun v_3 I_3 hq => ?_)
  replace h := h v_3 I_3 hq
  obtain ⟨ht, hf⟩ := h
  refine XF.br (P := v_3 = 0) (fun c_6 => ?_) (fun c_6 => ?_)
  ·
    replace h := ht c_6
    refine XF.lift (pc2 := 20) (ls2 := [some (.ref 69), some (.int y1), some (.int y2)]) (st2 := [.int (-1)]) (I2 := I_3) ?_ (fun r I' hk => by
        refine XW.if_eq eX10_line_6 (fun _ => ?_) (fun z => absurd c_6 z)
        refine XW.iconst (v := (-1)) eX10_line_19 (by decide) ?_
        exact hk)
    exact ⟨(-1), I_3, XW.iret eX10_line_20 rfl rfl rfl rfl rfl, h⟩
  ·
    replace h := hf c_6
    refine XF.lift (pc2 := 13) (ls2 := [some (.ref 69), some (.int y1), some (.int y2)]) (st2 := [.int 12, .int 0, .int y2]) (I2 := I_3) ?_ (fun r I' hk => by
        refine XW.if_eq eX10_line_6 (fun z => absurd z c_6) (fun _ => ?_)
        refine XW.iload_n eX10_line_9 rfl ?_
        refine XW.iconst (v := 0) eX10_line_10 (by decide) ?_
        refine XW.bipush (v := 12) eX10_line_11 (by decide) ?_
        exact hk)
    obtain ⟨Qc, hc, h⟩ := h
    refine XF.call (nx := 16) (st := []) hc (fun v I1 r I' hY hk => XW.callS (As := [.int y2, .int 0, .int 12]) (st := []) eX10_line_13 okX10_in cs10_123 rfl hY (xnum rfl rfl rfl rfl rfl) hk) (fun v_13 I_13 hq => ?_)
    replace h := h v_13 I_13 hq
    obtain ⟨ht, hf⟩ := h
    refine XF.br (P := v_13 = 0) (fun c_16 => ?_) (fun c_16 => ?_)
    ·
      replace h := ht c_16
      refine XF.lift (pc2 := 20) (ls2 := [some (.ref 69), some (.int y1), some (.int y2)]) (st2 := [.int (-1)]) (I2 := I_13) ?_ (fun r I' hk => by
          refine XW.if_ne eX10_line_16 (fun z => absurd c_16 z) (fun _ => ?_)
          refine XW.iconst (v := (-1)) eX10_line_19 (by decide) ?_
          exact hk)
      exact ⟨(-1), I_13, XW.iret eX10_line_20 rfl rfl rfl rfl rfl, h⟩
    ·
      replace h := hf c_16
      refine XF.lift (pc2 := 22) (ls2 := [some (.ref 69), some (.int y1), some (.int y2)]) (st2 := [.int y1]) (I2 := I_13) ?_ (fun r I' hk => by
          refine XW.if_ne eX10_line_16 (fun _ => ?_) (fun z => absurd z c_16)
          refine XW.iload_n eX10_line_21 rfl ?_
          exact hk)
      obtain ⟨ht, hf⟩ := h
      refine XF.br (P := y1 ≤ 0) (fun c_22 => ?_) (fun c_22 => ?_)
      ·
        replace h := ht c_22
        refine XF.lift (pc2 := 46) (ls2 := [some (.ref 69), some (.int y1), some (.int y2)]) (st2 := [.int 4, .int (I_13 69 1)]) (I2 := I_13) ?_ (fun r I' hk => by
            refine XW.if_le eX10_line_22 (fun _ => ?_) (fun z => absurd c_22 z)
            refine XW.aload_n eX10_line_41 rfl ?_
            refine XW.getI eX10_line_42 f10_13_10 rfl (so_69 hs) ?_
            refine XW.iconst (v := 4) eX10_line_45 (by decide) ?_
            exact hk)
        obtain ⟨ht, hf⟩ := h
        refine XF.br (P := (I_13 69 1) = 4) (fun c_46 => ?_) (fun c_46 => ?_)
        ·
          replace h := ht c_46
          refine XF.lift (pc2 := 51) (ls2 := [some (.ref 69), some (.int y1), some (.int y2)]) (st2 := [.int (-3)]) (I2 := I_13) ?_ (fun r I' hk => by
              refine XW.icmp_ne eX10_line_46 (fun z => absurd c_46 z) (fun _ => ?_)
              refine XW.bipush (v := (-3)) eX10_line_49 (by decide) ?_
              exact hk)
          exact ⟨(-3), I_13, XW.iret eX10_line_51 rfl rfl rfl rfl rfl, h⟩
        ·
          replace h := hf c_46
          obtain ⟨q_61, h⟩ := h
          refine XF.lift (pc2 := 138) (ls2 := [some (.ref 69), some (.int y1), some (.int y2)]) (st2 := [.int (((I_13 69 1) + 1) - 1)]) (I2 := (wI (wI (wI (wI (wI (wI (wI (wI I_13 70 (I_13 69 1).toNatClampNeg y1) 71 (I_13 69 1).toNatClampNeg y2) 72 (I_13 69 1).toNatClampNeg 1) 73 (I_13 69 1).toNatClampNeg 1) 74 (I_13 69 1).toNatClampNeg 2) 75 (I_13 69 1).toNatClampNeg 1) 76 (I_13 69 1).toNatClampNeg 1) 69 1 ((I_13 69 1) + 1))) ?_ (fun r I' hk => by
              refine XW.icmp_ne eX10_line_46 (fun _ => ?_) (fun z => absurd z c_46)
              refine XW.aload_n eX10_line_52 rfl ?_
              refine XW.getR (b := 70) eX10_line_53 f10_16_10 rfl (so_69 hs) (sr_69_2 hs) ?_
              refine XW.aload_n eX10_line_56 rfl ?_
              refine XW.getI eX10_line_57 f10_13_10 rfl (so_69 hs) ?_
              refine XW.iload_n eX10_line_60 rfl ?_
              refine XW.iastore eX10_line_61 (sa_70 hs) q_61 ?_
              refine XW.aload_n eX10_line_62 rfl ?_
              refine XW.getR (b := 71) eX10_line_63 f10_20_10 rfl (so_69 hs) (sr_69_3 hs) ?_
              refine XW.aload_n eX10_line_66 rfl ?_
              refine XW.getI eX10_line_67 f10_13_10 rfl (so_69 hs) ?_
              refine XW.iload_n eX10_line_70 rfl ?_
              refine XW.iastore eX10_line_71 (sa_71 hs) q_61 ?_
              refine XW.aload_n eX10_line_72 rfl ?_
              refine XW.getR (b := 72) eX10_line_73 f10_23_10 rfl (so_69 hs) (sr_69_4 hs) ?_
              refine XW.aload_n eX10_line_76 rfl ?_
              refine XW.getI eX10_line_77 f10_13_10 rfl (so_69 hs) ?_
              refine XW.iconst (v := 1) eX10_line_80 (by decide) ?_
              refine XW.iastore eX10_line_81 (sa_72 hs) q_61 ?_
              refine XW.aload_n eX10_line_82 rfl ?_
              refine XW.getR (b := 73) eX10_line_83 f10_26_10 rfl (so_69 hs) (sr_69_5 hs) ?_
              refine XW.aload_n eX10_line_86 rfl ?_
              refine XW.getI eX10_line_87 f10_13_10 rfl (so_69 hs) ?_
              refine XW.iconst (v := 1) eX10_line_90 (by decide) ?_
              refine XW.iastore eX10_line_91 (sa_73 hs) q_61 ?_
              refine XW.aload_n eX10_line_92 rfl ?_
              refine XW.getR (b := 74) eX10_line_93 f10_29_10 rfl (so_69 hs) (sr_69_6 hs) ?_
              refine XW.aload_n eX10_line_96 rfl ?_
              refine XW.getI eX10_line_97 f10_13_10 rfl (so_69 hs) ?_
              refine XW.iconst (v := 2) eX10_line_100 (by decide) ?_
              refine XW.iastore eX10_line_101 (sa_74 hs) q_61 ?_
              refine XW.aload_n eX10_line_102 rfl ?_
              refine XW.getR (b := 75) eX10_line_103 f10_32_10 rfl (so_69 hs) (sr_69_7 hs) ?_
              refine XW.aload_n eX10_line_106 rfl ?_
              refine XW.getI eX10_line_107 f10_13_10 rfl (so_69 hs) ?_
              refine XW.iconst (v := 1) eX10_line_110 (by decide) ?_
              refine XW.iastore eX10_line_111 (sa_75 hs) q_61 ?_
              refine XW.aload_n eX10_line_112 rfl ?_
              refine XW.getR (b := 76) eX10_line_113 f10_35_10 rfl (so_69 hs) (sr_69_8 hs) ?_
              refine XW.aload_n eX10_line_116 rfl ?_
              refine XW.getI eX10_line_117 f10_13_10 rfl (so_69 hs) ?_
              refine XW.iconst (v := 1) eX10_line_120 (by decide) ?_
              refine XW.iastore eX10_line_121 (sa_76 hs) q_61 ?_
              refine XW.aload_n eX10_line_122 rfl ?_
              refine XW.dup eX10_line_123 rfl ?_
              refine XW.getI eX10_line_124 f10_13_10 rfl (so_69 hs) ?_
              refine XW.iconst (v := 1) eX10_line_127 (by decide) ?_
              refine XW.iadd eX10_line_128 ?_
              refine XW.putI eX10_line_129 f10_13_10 (xP_of rfl (by decide)) rfl ⟨rfl, rfl⟩ (so_69 hs) ?_
              refine XW.aload_n eX10_line_132 rfl ?_
              refine XW.getI eX10_line_133 f10_13_10 rfl (so_69 hs) ?_
              refine XW.iconst (v := 1) eX10_line_136 (by decide) ?_
              refine XW.isub eX10_line_137 ?_
              exact hk)
          exact ⟨(((I_13 69 1) + 1) - 1), (wI (wI (wI (wI (wI (wI (wI (wI I_13 70 (I_13 69 1).toNatClampNeg y1) 71 (I_13 69 1).toNatClampNeg y2) 72 (I_13 69 1).toNatClampNeg 1) 73 (I_13 69 1).toNatClampNeg 1) 74 (I_13 69 1).toNatClampNeg 2) 75 (I_13 69 1).toNatClampNeg 1) 76 (I_13 69 1).toNatClampNeg 1) 69 1 ((I_13 69 1) + 1)), XW.iret eX10_line_138 rfl rfl rfl rfl rfl, h⟩
      ·
        replace h := hf c_22
        refine XF.lift (pc2 := 26) (ls2 := [some (.ref 69), some (.int y1), some (.int y2)]) (st2 := [.ref 69]) (I2 := I_13) ?_ (fun r I' hk => by
            refine XW.if_le eX10_line_22 (fun z => absurd z c_22) (fun _ => ?_)
            refine XW.aload_n eX10_line_25 rfl ?_
            exact hk)
        obtain ⟨Qc, hc, h⟩ := h
        refine XF.call (nx := 29) (st := []) hc (fun v I1 r I' hY hk => XW.callV (As := []) (st := []) eX10_line_26 okX10_allParts cv10_127 rfl (so_69 hs) hY (xnum rfl rfl rfl rfl rfl) hk) (fun v_26 I_26 hq => ?_)
        replace h := h v_26 I_26 hq
        refine XF.lift (pc2 := 35) (ls2 := [some (.ref 69), some (.int y1), some (.int y2)]) (st2 := [.int (I_26 69 0), .int (v_26 + 1)]) (I2 := I_26) ?_ (fun r I' hk => by
            refine XW.iconst (v := 1) eX10_line_29 (by decide) ?_
            refine XW.iadd eX10_line_30 ?_
            refine XW.aload_n eX10_line_31 rfl ?_
            refine XW.getI eX10_line_32 f10_7_10 rfl (so_69 hs) ?_
            exact hk)
        obtain ⟨ht, hf⟩ := h
        refine XF.br (P := (v_26 + 1) ≤ (I_26 69 0)) (fun c_35 => ?_) (fun c_35 => ?_)
        ·
          replace h := ht c_35
          refine XF.lift (pc2 := 46) (ls2 := [some (.ref 69), some (.int y1), some (.int y2)]) (st2 := [.int 4, .int (I_26 69 1)]) (I2 := I_26) ?_ (fun r I' hk => by
              refine XW.icmp_le eX10_line_35 (fun _ => ?_) (fun z => absurd c_35 z)
              refine XW.aload_n eX10_line_41 rfl ?_
              refine XW.getI eX10_line_42 f10_13_10 rfl (so_69 hs) ?_
              refine XW.iconst (v := 4) eX10_line_45 (by decide) ?_
              exact hk)
          obtain ⟨ht, hf⟩ := h
          refine XF.br (P := (I_26 69 1) = 4) (fun c_46 => ?_) (fun c_46 => ?_)
          ·
            replace h := ht c_46
            refine XF.lift (pc2 := 51) (ls2 := [some (.ref 69), some (.int y1), some (.int y2)]) (st2 := [.int (-3)]) (I2 := I_26) ?_ (fun r I' hk => by
                refine XW.icmp_ne eX10_line_46 (fun z => absurd c_46 z) (fun _ => ?_)
                refine XW.bipush (v := (-3)) eX10_line_49 (by decide) ?_
                exact hk)
            exact ⟨(-3), I_26, XW.iret eX10_line_51 rfl rfl rfl rfl rfl, h⟩
          ·
            replace h := hf c_46
            obtain ⟨q_61, h⟩ := h
            refine XF.lift (pc2 := 138) (ls2 := [some (.ref 69), some (.int y1), some (.int y2)]) (st2 := [.int (((I_26 69 1) + 1) - 1)]) (I2 := (wI (wI (wI (wI (wI (wI (wI (wI I_26 70 (I_26 69 1).toNatClampNeg y1) 71 (I_26 69 1).toNatClampNeg y2) 72 (I_26 69 1).toNatClampNeg 1) 73 (I_26 69 1).toNatClampNeg 1) 74 (I_26 69 1).toNatClampNeg 2) 75 (I_26 69 1).toNatClampNeg 1) 76 (I_26 69 1).toNatClampNeg 1) 69 1 ((I_26 69 1) + 1))) ?_ (fun r I' hk => by
                refine XW.icmp_ne eX10_line_46 (fun _ => ?_) (fun z => absurd z c_46)
                refine XW.aload_n eX10_line_52 rfl ?_
                refine XW.getR (b := 70) eX10_line_53 f10_16_10 rfl (so_69 hs) (sr_69_2 hs) ?_
                refine XW.aload_n eX10_line_56 rfl ?_
                refine XW.getI eX10_line_57 f10_13_10 rfl (so_69 hs) ?_
                refine XW.iload_n eX10_line_60 rfl ?_
                refine XW.iastore eX10_line_61 (sa_70 hs) q_61 ?_
                refine XW.aload_n eX10_line_62 rfl ?_
                refine XW.getR (b := 71) eX10_line_63 f10_20_10 rfl (so_69 hs) (sr_69_3 hs) ?_
                refine XW.aload_n eX10_line_66 rfl ?_
                refine XW.getI eX10_line_67 f10_13_10 rfl (so_69 hs) ?_
                refine XW.iload_n eX10_line_70 rfl ?_
                refine XW.iastore eX10_line_71 (sa_71 hs) q_61 ?_
                refine XW.aload_n eX10_line_72 rfl ?_
                refine XW.getR (b := 72) eX10_line_73 f10_23_10 rfl (so_69 hs) (sr_69_4 hs) ?_
                refine XW.aload_n eX10_line_76 rfl ?_
                refine XW.getI eX10_line_77 f10_13_10 rfl (so_69 hs) ?_
                refine XW.iconst (v := 1) eX10_line_80 (by decide) ?_
                refine XW.iastore eX10_line_81 (sa_72 hs) q_61 ?_
                refine XW.aload_n eX10_line_82 rfl ?_
                refine XW.getR (b := 73) eX10_line_83 f10_26_10 rfl (so_69 hs) (sr_69_5 hs) ?_
                refine XW.aload_n eX10_line_86 rfl ?_
                refine XW.getI eX10_line_87 f10_13_10 rfl (so_69 hs) ?_
                refine XW.iconst (v := 1) eX10_line_90 (by decide) ?_
                refine XW.iastore eX10_line_91 (sa_73 hs) q_61 ?_
                refine XW.aload_n eX10_line_92 rfl ?_
                refine XW.getR (b := 74) eX10_line_93 f10_29_10 rfl (so_69 hs) (sr_69_6 hs) ?_
                refine XW.aload_n eX10_line_96 rfl ?_
                refine XW.getI eX10_line_97 f10_13_10 rfl (so_69 hs) ?_
                refine XW.iconst (v := 2) eX10_line_100 (by decide) ?_
                refine XW.iastore eX10_line_101 (sa_74 hs) q_61 ?_
                refine XW.aload_n eX10_line_102 rfl ?_
                refine XW.getR (b := 75) eX10_line_103 f10_32_10 rfl (so_69 hs) (sr_69_7 hs) ?_
                refine XW.aload_n eX10_line_106 rfl ?_
                refine XW.getI eX10_line_107 f10_13_10 rfl (so_69 hs) ?_
                refine XW.iconst (v := 1) eX10_line_110 (by decide) ?_
                refine XW.iastore eX10_line_111 (sa_75 hs) q_61 ?_
                refine XW.aload_n eX10_line_112 rfl ?_
                refine XW.getR (b := 76) eX10_line_113 f10_35_10 rfl (so_69 hs) (sr_69_8 hs) ?_
                refine XW.aload_n eX10_line_116 rfl ?_
                refine XW.getI eX10_line_117 f10_13_10 rfl (so_69 hs) ?_
                refine XW.iconst (v := 1) eX10_line_120 (by decide) ?_
                refine XW.iastore eX10_line_121 (sa_76 hs) q_61 ?_
                refine XW.aload_n eX10_line_122 rfl ?_
                refine XW.dup eX10_line_123 rfl ?_
                refine XW.getI eX10_line_124 f10_13_10 rfl (so_69 hs) ?_
                refine XW.iconst (v := 1) eX10_line_127 (by decide) ?_
                refine XW.iadd eX10_line_128 ?_
                refine XW.putI eX10_line_129 f10_13_10 (xP_of rfl (by decide)) rfl ⟨rfl, rfl⟩ (so_69 hs) ?_
                refine XW.aload_n eX10_line_132 rfl ?_
                refine XW.getI eX10_line_133 f10_13_10 rfl (so_69 hs) ?_
                refine XW.iconst (v := 1) eX10_line_136 (by decide) ?_
                refine XW.isub eX10_line_137 ?_
                exact hk)
            exact ⟨(((I_26 69 1) + 1) - 1), (wI (wI (wI (wI (wI (wI (wI (wI I_26 70 (I_26 69 1).toNatClampNeg y1) 71 (I_26 69 1).toNatClampNeg y2) 72 (I_26 69 1).toNatClampNeg 1) 73 (I_26 69 1).toNatClampNeg 1) 74 (I_26 69 1).toNatClampNeg 2) 75 (I_26 69 1).toNatClampNeg 1) 76 (I_26 69 1).toNatClampNeg 1) 69 1 ((I_26 69 1) + 1)), XW.iret eX10_line_138 rfl rfl rfl rfl rfl, h⟩
        ·
          replace h := hf c_35
          refine XF.lift (pc2 := 40) (ls2 := [some (.ref 69), some (.int y1), some (.int y2)]) (st2 := [.int (-2)]) (I2 := I_26) ?_ (fun r I' hk => by
              refine XW.icmp_le eX10_line_35 (fun z => absurd z c_35) (fun _ => ?_)
              refine XW.bipush (v := (-2)) eX10_line_38 (by decide) ?_
              exact hk)
          exact ⟨(-2), I_26, XW.iret eX10_line_40 rfl rfl rfl rfl rfl, h⟩
set_option maxRecDepth 100000 in
set_option maxHeartbeats 4000000 in
theorem VX10_senders {l : Launch} {C : xC} {G : xG} (hs : SH G)  (I : xI) {Q : Unit → xI → Prop} (h :
    XF fV l C mX10_senders 2 [some (.ref 69), some (.int 0), none, none, none] [] G I Q) : XF fV l C mX10_senders 0 (xent mX10_senders [.ref 69]) [] G I Q := by
  show XF fV l C mX10_senders 0 [some (.ref 69), none, none, none, none] [] G I Q
  refine XF.lift (pc2 := 2) (ls2 := [some (.ref 69), some (.int 0), none, none, none]) (st2 := []) (I2 := I) ?_ (fun r I' hk => by
      refine XW.iconst (v := 0) eX10_senders_0 (by decide) ?_
      refine XW.istore_n (ls' := [some (.ref 69), some (.int 0), none, none, none]) eX10_senders_1 (Nat.le_of_ble_eq_true rfl) rfl ?_
      exact hk)
  exact h
set_option maxRecDepth 100000 in
set_option maxHeartbeats 4000000 in
theorem VX10_senders_2 {l : Launch} {C : xC} {G : xG} (hs : SH G)  (I : xI) (x1 : Int32) {Q : Unit → xI → Prop} (h :
    (((I 69 1) ≤ x1 → Q () I) ∧ (¬ ((I 69 1) ≤ x1) → vp_in x1 4 ∧ (∃ Qc : Int32 → xI → Prop, XF fI l C mX10_isHeld 0 (xent mX10_isHeld [.ref 69, .int x1]) [] G I Qc ∧ ∀ (v_26 : Int32) (I_26 : xI), Qc v_26 I_26 → ((v_26 = 0 → (∃ Qc : Int32 → xI → Prop, XF fI l C mX10_isHeld 0 (xent mX10_isHeld [.ref 69, .int x1]) [] G I_26 Qc ∧ ∀ (v_59 : Int32) (I_59 : xI), Qc v_59 I_59 → ((v_59 = 0 → XF fV l C mX10_senders 2 [some (.ref 69), some (.int (x1 + 1)), none, none, none] [] G I_59 Q) ∧ (¬ (v_59 = 0) → (∃ Qc : Int32 → xI → Prop, XF fI l C mX10_waiting 0 (xent mX10_waiting [.ref 69, .int x1]) [] G I_59 Qc ∧ ∀ (v_71 : Int32) (I_71 : xI), Qc v_71 I_71 → ((v_71 < 0 → XF fV l C mX10_senders 2 [some (.ref 69), some (.int (x1 + 1)), none, none, none] [] G I_71 Q) ∧ (¬ (v_71 < 0) → (∃ Qc : Unit → xI → Prop, XF fV l C mX10_comes 0 (xent mX10_comes [.ref 69, .int v_71]) [] G (wI I_71 88 x1.toNatClampNeg (v_71 + 1)) Qc ∧ ∀ (u_98 : Unit) (I_98 : xI), Qc u_98 I_98 → XF fV l C mX10_senders 2 [some (.ref 69), some (.int (x1 + 1)), none, none, none] [] G I_98 Q)))))))) ∧ (¬ (v_26 = 0) → (((((I 69 22) - 1) - (I 76 x1.toNatClampNeg)) < 0 → (∃ Qc : Int32 → xI → Prop, XF fI l C mX10_isHeld 0 (xent mX10_isHeld [.ref 69, .int x1]) [] G I_26 Qc ∧ ∀ (v_59 : Int32) (I_59 : xI), Qc v_59 I_59 → ((v_59 = 0 → XF fV l C mX10_senders 2 [some (.ref 69), some (.int (x1 + 1)), none, none, none] [] G I_59 Q) ∧ (¬ (v_59 = 0) → (∃ Qc : Int32 → xI → Prop, XF fI l C mX10_waiting 0 (xent mX10_waiting [.ref 69, .int x1]) [] G I_59 Qc ∧ ∀ (v_71 : Int32) (I_71 : xI), Qc v_71 I_71 → ((v_71 < 0 → XF fV l C mX10_senders 2 [some (.ref 69), some (.int (x1 + 1)), none, none, none] [] G I_71 Q) ∧ (¬ (v_71 < 0) → (∃ Qc : Unit → xI → Prop, XF fV l C mX10_comes 0 (xent mX10_comes [.ref 69, .int v_71]) [] G (wI I_71 88 x1.toNatClampNeg (v_71 + 1)) Qc ∧ ∀ (u_98 : Unit) (I_98 : xI), Qc u_98 I_98 → XF fV l C mX10_senders 2 [some (.ref 69), some (.int (x1 + 1)), none, none, none] [] G I_98 Q)))))))) ∧ (¬ ((((I 69 22) - 1) - (I 76 x1.toNatClampNeg)) < 0) → vp_in ((400 * x1) + (((I 69 22) - 1) - (I 76 x1.toNatClampNeg))) 1600 ∧ (((I_26 90 ((400 * x1) + (((I 69 22) - 1) - (I 76 x1.toNatClampNeg))).toNatClampNeg) = 0 → (∃ Qc : Int32 → xI → Prop, XF fI l C mX10_isHeld 0 (xent mX10_isHeld [.ref 69, .int x1]) [] G I_26 Qc ∧ ∀ (v_59 : Int32) (I_59 : xI), Qc v_59 I_59 → ((v_59 = 0 → XF fV l C mX10_senders 2 [some (.ref 69), some (.int (x1 + 1)), none, none, none] [] G I_59 Q) ∧ (¬ (v_59 = 0) → (∃ Qc : Int32 → xI → Prop, XF fI l C mX10_waiting 0 (xent mX10_waiting [.ref 69, .int x1]) [] G I_59 Qc ∧ ∀ (v_71 : Int32) (I_71 : xI), Qc v_71 I_71 → ((v_71 < 0 → XF fV l C mX10_senders 2 [some (.ref 69), some (.int (x1 + 1)), none, none, none] [] G I_71 Q) ∧ (¬ (v_71 < 0) → (∃ Qc : Unit → xI → Prop, XF fV l C mX10_comes 0 (xent mX10_comes [.ref 69, .int v_71]) [] G (wI I_71 88 x1.toNatClampNeg (v_71 + 1)) Qc ∧ ∀ (u_98 : Unit) (I_98 : xI), Qc u_98 I_98 → XF fV l C mX10_senders 2 [some (.ref 69), some (.int (x1 + 1)), none, none, none] [] G I_98 Q)))))))) ∧ (¬ ((I_26 90 ((400 * x1) + (((I 69 22) - 1) - (I 76 x1.toNatClampNeg))).toNatClampNeg) = 0) → (∃ Qc : Int32 → xI → Prop, XF fI l C mX10_isHeld 0 (xent mX10_isHeld [.ref 69, .int x1]) [] G I_26 Qc ∧ ∀ (v_59 : Int32) (I_59 : xI), Qc v_59 I_59 → ((v_59 = 0 → XF fV l C mX10_senders 2 [some (.ref 69), some (.int (x1 + 1)), none, none, none] [] G I_59 Q) ∧ (¬ (v_59 = 0) → XF fV l C mX10_senders 2 [some (.ref 69), some (.int (x1 + 1)), none, none, none] [] G I_59 Q))))))))))))) : XF fV l C mX10_senders 2 [some (.ref 69), some (.int x1), none, none, none] [] G I Q := by
  refine XF.lift (pc2 := 7) (ls2 := [some (.ref 69), some (.int x1), none, none, none]) (st2 := [.int (I 69 1), .int x1]) (I2 := I) ?_ (fun r I' hk => by
      refine XW.iload_n eX10_senders_2 rfl ?_
      refine XW.aload_n eX10_senders_3 rfl ?_
      refine XW.getI eX10_senders_4 f10_13_10 rfl (so_69 hs) ?_
      exact hk)
  obtain ⟨ht, hf⟩ := h
  refine XF.br (P := (I 69 1) ≤ x1) (fun c_7 => ?_) (fun c_7 => ?_)
  ·
    replace h := ht c_7
    refine XF.lift (pc2 := 107) (ls2 := [some (.ref 69), some (.int x1), none, none, none]) (st2 := []) (I2 := I) ?_ (fun r I' hk => by
        refine XW.icmp_ge eX10_senders_7 (fun _ => ?_) (fun z => absurd c_7 z)
        exact hk)
    exact ⟨(), I, XW.vret eX10_senders_107 rfl rfl rfl rfl, h⟩
  ·
    replace h := hf c_7
    obtain ⟨q_21, h⟩ := h
    refine XF.lift (pc2 := 26) (ls2 := [some (.ref 69), some (.int x1), some (.int (((I 69 22) - 1) - (I 76 x1.toNatClampNeg))), none, none]) (st2 := [.int x1, .ref 69]) (I2 := I) ?_ (fun r I' hk => by
        refine XW.icmp_ge eX10_senders_7 (fun z => absurd z c_7) (fun _ => ?_)
        refine XW.aload_n eX10_senders_10 rfl ?_
        refine XW.getI eX10_senders_11 f10_148_10 rfl (so_69 hs) ?_
        refine XW.iconst (v := 1) eX10_senders_14 (by decide) ?_
        refine XW.isub eX10_senders_15 ?_
        refine XW.aload_n eX10_senders_16 rfl ?_
        refine XW.getR (b := 76) eX10_senders_17 f10_35_10 rfl (so_69 hs) (sr_69_8 hs) ?_
        refine XW.iload_n eX10_senders_20 rfl ?_
        refine XW.iaload eX10_senders_21 (sa_76 hs) q_21 ?_
        refine XW.isub eX10_senders_22 ?_
        refine XW.istore_n (ls' := [some (.ref 69), some (.int x1), some (.int (((I 69 22) - 1) - (I 76 x1.toNatClampNeg))), none, none]) eX10_senders_23 (Nat.le_of_ble_eq_true rfl) rfl ?_
        refine XW.aload_n eX10_senders_24 rfl ?_
        refine XW.iload_n eX10_senders_25 rfl ?_
        exact hk)
    obtain ⟨Qc, hc, h⟩ := h
    refine XF.call (nx := 29) (st := []) hc (fun v I1 r I' hY hk => XW.callV (As := [.int x1]) (st := []) eX10_senders_26 okX10_isHeld cv10_177 rfl (so_69 hs) hY (xnum rfl rfl rfl rfl rfl) hk) (fun v_26 I_26 hq => ?_)
    replace h := h v_26 I_26 hq
    obtain ⟨ht, hf⟩ := h
    refine XF.br (P := v_26 = 0) (fun c_29 => ?_) (fun c_29 => ?_)
    ·
      replace h := ht c_29
      refine XF.lift (pc2 := 59) (ls2 := [some (.ref 69), some (.int x1), some (.int (((I 69 22) - 1) - (I 76 x1.toNatClampNeg))), some (.int 0), none]) (st2 := [.int x1, .ref 69]) (I2 := I_26) ?_ (fun r I' hk => by
          refine XW.if_eq eX10_senders_29 (fun _ => ?_) (fun z => absurd c_29 z)
          refine XW.iconst (v := 0) eX10_senders_55 (by decide) ?_
          refine XW.istore_n (ls' := [some (.ref 69), some (.int x1), some (.int (((I 69 22) - 1) - (I 76 x1.toNatClampNeg))), some (.int 0), none]) eX10_senders_56 (Nat.le_of_ble_eq_true rfl) rfl ?_
          refine XW.aload_n eX10_senders_57 rfl ?_
          refine XW.iload_n eX10_senders_58 rfl ?_
          exact hk)
      obtain ⟨Qc, hc, h⟩ := h
      refine XF.call (nx := 62) (st := []) hc (fun v I1 r I' hY hk => XW.callV (As := [.int x1]) (st := []) eX10_senders_59 okX10_isHeld cv10_177 rfl (so_69 hs) hY (xnum rfl rfl rfl rfl rfl) hk) (fun v_59 I_59 hq => ?_)
      replace h := h v_59 I_59 hq
      obtain ⟨ht, hf⟩ := h
      refine XF.br (P := v_59 = 0) (fun c_62 => ?_) (fun c_62 => ?_)
      ·
        replace h := ht c_62
        refine XF.lift (pc2 := 2) (ls2 := [some (.ref 69), some (.int (x1 + 1)), none, none, none]) (st2 := []) (I2 := I_59) ?_ (fun r I' hk => by
            refine XW.if_eq eX10_senders_62 (fun _ => ?_) (fun z => absurd c_62 z)
            refine XW.iconst (v := (-1)) eX10_senders_77 (by decide) ?_
            refine XW.istore (ls' := [some (.ref 69), some (.int x1), some (.int (((I 69 22) - 1) - (I 76 x1.toNatClampNeg))), some (.int 0), some (.int (-1))]) eX10_senders_78 (Nat.le_of_ble_eq_true rfl) rfl ?_
            refine XW.iload eX10_senders_80 rfl ?_
            refine XW.if_lt eX10_senders_82 (fun _ => ?_) (fun z => absurd (by decide) z)
            refine XW.iinc (y := (x1 + 1)) (ls' := [some (.ref 69), some (.int (x1 + 1)), some (.int (((I 69 22) - 1) - (I 76 x1.toNatClampNeg))), some (.int 0), some (.int (-1))]) eX10_senders_101 rfl rfl rfl ?_
            refine XW.goto eX10_senders_104 ?_
            refine XW.forget 2 rfl ?_
            refine XW.forget 3 rfl ?_
            refine XW.forget 4 rfl ?_
            exact hk)
        exact h
      ·
        replace h := hf c_62
        refine XF.lift (pc2 := 71) (ls2 := [some (.ref 69), some (.int x1), some (.int (((I 69 22) - 1) - (I 76 x1.toNatClampNeg))), some (.int 0), none]) (st2 := [.int x1, .ref 69]) (I2 := I_59) ?_ (fun r I' hk => by
            refine XW.if_eq eX10_senders_62 (fun z => absurd z c_62) (fun _ => ?_)
            refine XW.iload_n eX10_senders_65 rfl ?_
            refine XW.if_ne eX10_senders_66 (fun z => absurd (by decide) z) (fun _ => ?_)
            refine XW.aload_n eX10_senders_69 rfl ?_
            refine XW.iload_n eX10_senders_70 rfl ?_
            exact hk)
        obtain ⟨Qc, hc, h⟩ := h
        refine XF.call (nx := 74) (st := []) hc (fun v I1 r I' hY hk => XW.callV (As := [.int x1]) (st := []) eX10_senders_71 okX10_waiting cv10_180 rfl (so_69 hs) hY (xnum rfl rfl rfl rfl rfl) hk) (fun v_71 I_71 hq => ?_)
        replace h := h v_71 I_71 hq
        refine XF.lift (pc2 := 82) (ls2 := [some (.ref 69), some (.int x1), some (.int (((I 69 22) - 1) - (I 76 x1.toNatClampNeg))), some (.int 0), some (.int v_71)]) (st2 := [.int v_71]) (I2 := I_71) ?_ (fun r I' hk => by
            refine XW.goto eX10_senders_74 ?_
            refine XW.istore (ls' := [some (.ref 69), some (.int x1), some (.int (((I 69 22) - 1) - (I 76 x1.toNatClampNeg))), some (.int 0), some (.int v_71)]) eX10_senders_78 (Nat.le_of_ble_eq_true rfl) rfl ?_
            refine XW.iload eX10_senders_80 rfl ?_
            exact hk)
        obtain ⟨ht, hf⟩ := h
        refine XF.br (P := v_71 < 0) (fun c_82 => ?_) (fun c_82 => ?_)
        ·
          replace h := ht c_82
          refine XF.lift (pc2 := 2) (ls2 := [some (.ref 69), some (.int (x1 + 1)), none, none, none]) (st2 := []) (I2 := I_71) ?_ (fun r I' hk => by
              refine XW.if_lt eX10_senders_82 (fun _ => ?_) (fun z => absurd c_82 z)
              refine XW.iinc (y := (x1 + 1)) (ls' := [some (.ref 69), some (.int (x1 + 1)), some (.int (((I 69 22) - 1) - (I 76 x1.toNatClampNeg))), some (.int 0), some (.int v_71)]) eX10_senders_101 rfl rfl rfl ?_
              refine XW.goto eX10_senders_104 ?_
              refine XW.forget 2 rfl ?_
              refine XW.forget 3 rfl ?_
              refine XW.forget 4 rfl ?_
              exact hk)
          exact h
        ·
          replace h := hf c_82
          refine XF.lift (pc2 := 98) (ls2 := [some (.ref 69), some (.int x1), some (.int (((I 69 22) - 1) - (I 76 x1.toNatClampNeg))), some (.int 0), some (.int v_71)]) (st2 := [.int v_71, .ref 69]) (I2 := (wI I_71 88 x1.toNatClampNeg (v_71 + 1))) ?_ (fun r I' hk => by
              refine XW.if_lt eX10_senders_82 (fun z => absurd z c_82) (fun _ => ?_)
              refine XW.aload_n eX10_senders_85 rfl ?_
              refine XW.getR (b := 88) eX10_senders_86 f10_75_10 rfl (so_69 hs) (sr_69_26 hs) ?_
              refine XW.iload_n eX10_senders_89 rfl ?_
              refine XW.iload eX10_senders_90 rfl ?_
              refine XW.iconst (v := 1) eX10_senders_92 (by decide) ?_
              refine XW.iadd eX10_senders_93 ?_
              refine XW.iastore eX10_senders_94 (sa_88 hs) q_21 ?_
              refine XW.aload_n eX10_senders_95 rfl ?_
              refine XW.iload eX10_senders_96 rfl ?_
              exact hk)
          obtain ⟨Qc, hc, h⟩ := h
          refine XF.call (nx := 101) (st := []) hc (fun v I1 r I' hY hk => XW.callV (As := [.int v_71]) (st := []) eX10_senders_98 okX10_comes cv10_184 rfl (so_69 hs) hY (xnum rfl rfl rfl rfl rfl) hk) (fun _ I_98 hq => ?_)
          replace h := h () I_98 hq
          refine XF.lift (pc2 := 2) (ls2 := [some (.ref 69), some (.int (x1 + 1)), none, none, none]) (st2 := []) (I2 := I_98) ?_ (fun r I' hk => by
              refine XW.iinc (y := (x1 + 1)) (ls' := [some (.ref 69), some (.int (x1 + 1)), some (.int (((I 69 22) - 1) - (I 76 x1.toNatClampNeg))), some (.int 0), some (.int v_71)]) eX10_senders_101 rfl rfl rfl ?_
              refine XW.goto eX10_senders_104 ?_
              refine XW.forget 2 rfl ?_
              refine XW.forget 3 rfl ?_
              refine XW.forget 4 rfl ?_
              exact hk)
          exact h
    ·
      replace h := hf c_29
      refine XF.lift (pc2 := 33) (ls2 := [some (.ref 69), some (.int x1), some (.int (((I 69 22) - 1) - (I 76 x1.toNatClampNeg))), none, none]) (st2 := [.int (((I 69 22) - 1) - (I 76 x1.toNatClampNeg))]) (I2 := I_26) ?_ (fun r I' hk => by
          refine XW.if_eq eX10_senders_29 (fun z => absurd z c_29) (fun _ => ?_)
          refine XW.iload_n eX10_senders_32 rfl ?_
          exact hk)
      obtain ⟨ht, hf⟩ := h
      refine XF.br (P := (((I 69 22) - 1) - (I 76 x1.toNatClampNeg)) < 0) (fun c_33 => ?_) (fun c_33 => ?_)
      ·
        replace h := ht c_33
        refine XF.lift (pc2 := 59) (ls2 := [some (.ref 69), some (.int x1), some (.int (((I 69 22) - 1) - (I 76 x1.toNatClampNeg))), some (.int 0), none]) (st2 := [.int x1, .ref 69]) (I2 := I_26) ?_ (fun r I' hk => by
            refine XW.if_lt eX10_senders_33 (fun _ => ?_) (fun z => absurd c_33 z)
            refine XW.iconst (v := 0) eX10_senders_55 (by decide) ?_
            refine XW.istore_n (ls' := [some (.ref 69), some (.int x1), some (.int (((I 69 22) - 1) - (I 76 x1.toNatClampNeg))), some (.int 0), none]) eX10_senders_56 (Nat.le_of_ble_eq_true rfl) rfl ?_
            refine XW.aload_n eX10_senders_57 rfl ?_
            refine XW.iload_n eX10_senders_58 rfl ?_
            exact hk)
        obtain ⟨Qc, hc, h⟩ := h
        refine XF.call (nx := 62) (st := []) hc (fun v I1 r I' hY hk => XW.callV (As := [.int x1]) (st := []) eX10_senders_59 okX10_isHeld cv10_177 rfl (so_69 hs) hY (xnum rfl rfl rfl rfl rfl) hk) (fun v_59 I_59 hq => ?_)
        replace h := h v_59 I_59 hq
        obtain ⟨ht, hf⟩ := h
        refine XF.br (P := v_59 = 0) (fun c_62 => ?_) (fun c_62 => ?_)
        ·
          replace h := ht c_62
          refine XF.lift (pc2 := 2) (ls2 := [some (.ref 69), some (.int (x1 + 1)), none, none, none]) (st2 := []) (I2 := I_59) ?_ (fun r I' hk => by
              refine XW.if_eq eX10_senders_62 (fun _ => ?_) (fun z => absurd c_62 z)
              refine XW.iconst (v := (-1)) eX10_senders_77 (by decide) ?_
              refine XW.istore (ls' := [some (.ref 69), some (.int x1), some (.int (((I 69 22) - 1) - (I 76 x1.toNatClampNeg))), some (.int 0), some (.int (-1))]) eX10_senders_78 (Nat.le_of_ble_eq_true rfl) rfl ?_
              refine XW.iload eX10_senders_80 rfl ?_
              refine XW.if_lt eX10_senders_82 (fun _ => ?_) (fun z => absurd (by decide) z)
              refine XW.iinc (y := (x1 + 1)) (ls' := [some (.ref 69), some (.int (x1 + 1)), some (.int (((I 69 22) - 1) - (I 76 x1.toNatClampNeg))), some (.int 0), some (.int (-1))]) eX10_senders_101 rfl rfl rfl ?_
              refine XW.goto eX10_senders_104 ?_
              refine XW.forget 2 rfl ?_
              refine XW.forget 3 rfl ?_
              refine XW.forget 4 rfl ?_
              exact hk)
          exact h
        ·
          replace h := hf c_62
          refine XF.lift (pc2 := 71) (ls2 := [some (.ref 69), some (.int x1), some (.int (((I 69 22) - 1) - (I 76 x1.toNatClampNeg))), some (.int 0), none]) (st2 := [.int x1, .ref 69]) (I2 := I_59) ?_ (fun r I' hk => by
              refine XW.if_eq eX10_senders_62 (fun z => absurd z c_62) (fun _ => ?_)
              refine XW.iload_n eX10_senders_65 rfl ?_
              refine XW.if_ne eX10_senders_66 (fun z => absurd (by decide) z) (fun _ => ?_)
              refine XW.aload_n eX10_senders_69 rfl ?_
              refine XW.iload_n eX10_senders_70 rfl ?_
              exact hk)
          obtain ⟨Qc, hc, h⟩ := h
          refine XF.call (nx := 74) (st := []) hc (fun v I1 r I' hY hk => XW.callV (As := [.int x1]) (st := []) eX10_senders_71 okX10_waiting cv10_180 rfl (so_69 hs) hY (xnum rfl rfl rfl rfl rfl) hk) (fun v_71 I_71 hq => ?_)
          replace h := h v_71 I_71 hq
          refine XF.lift (pc2 := 82) (ls2 := [some (.ref 69), some (.int x1), some (.int (((I 69 22) - 1) - (I 76 x1.toNatClampNeg))), some (.int 0), some (.int v_71)]) (st2 := [.int v_71]) (I2 := I_71) ?_ (fun r I' hk => by
              refine XW.goto eX10_senders_74 ?_
              refine XW.istore (ls' := [some (.ref 69), some (.int x1), some (.int (((I 69 22) - 1) - (I 76 x1.toNatClampNeg))), some (.int 0), some (.int v_71)]) eX10_senders_78 (Nat.le_of_ble_eq_true rfl) rfl ?_
              refine XW.iload eX10_senders_80 rfl ?_
              exact hk)
          obtain ⟨ht, hf⟩ := h
          refine XF.br (P := v_71 < 0) (fun c_82 => ?_) (fun c_82 => ?_)
          ·
            replace h := ht c_82
            refine XF.lift (pc2 := 2) (ls2 := [some (.ref 69), some (.int (x1 + 1)), none, none, none]) (st2 := []) (I2 := I_71) ?_ (fun r I' hk => by
                refine XW.if_lt eX10_senders_82 (fun _ => ?_) (fun z => absurd c_82 z)
                refine XW.iinc (y := (x1 + 1)) (ls' := [some (.ref 69), some (.int (x1 + 1)), some (.int (((I 69 22) - 1) - (I 76 x1.toNatClampNeg))), some (.int 0), some (.int v_71)]) eX10_senders_101 rfl rfl rfl ?_
                refine XW.goto eX10_senders_104 ?_
                refine XW.forget 2 rfl ?_
                refine XW.forget 3 rfl ?_
                refine XW.forget 4 rfl ?_
                exact hk)
            exact h
          ·
            replace h := hf c_82
            refine XF.lift (pc2 := 98) (ls2 := [some (.ref 69), some (.int x1), some (.int (((I 69 22) - 1) - (I 76 x1.toNatClampNeg))), some (.int 0), some (.int v_71)]) (st2 := [.int v_71, .ref 69]) (I2 := (wI I_71 88 x1.toNatClampNeg (v_71 + 1))) ?_ (fun r I' hk => by
                refine XW.if_lt eX10_senders_82 (fun z => absurd z c_82) (fun _ => ?_)
                refine XW.aload_n eX10_senders_85 rfl ?_
                refine XW.getR (b := 88) eX10_senders_86 f10_75_10 rfl (so_69 hs) (sr_69_26 hs) ?_
                refine XW.iload_n eX10_senders_89 rfl ?_
                refine XW.iload eX10_senders_90 rfl ?_
                refine XW.iconst (v := 1) eX10_senders_92 (by decide) ?_
                refine XW.iadd eX10_senders_93 ?_
                refine XW.iastore eX10_senders_94 (sa_88 hs) q_21 ?_
                refine XW.aload_n eX10_senders_95 rfl ?_
                refine XW.iload eX10_senders_96 rfl ?_
                exact hk)
            obtain ⟨Qc, hc, h⟩ := h
            refine XF.call (nx := 101) (st := []) hc (fun v I1 r I' hY hk => XW.callV (As := [.int v_71]) (st := []) eX10_senders_98 okX10_comes cv10_184 rfl (so_69 hs) hY (xnum rfl rfl rfl rfl rfl) hk) (fun _ I_98 hq => ?_)
            replace h := h () I_98 hq
            refine XF.lift (pc2 := 2) (ls2 := [some (.ref 69), some (.int (x1 + 1)), none, none, none]) (st2 := []) (I2 := I_98) ?_ (fun r I' hk => by
                refine XW.iinc (y := (x1 + 1)) (ls' := [some (.ref 69), some (.int (x1 + 1)), some (.int (((I 69 22) - 1) - (I 76 x1.toNatClampNeg))), some (.int 0), some (.int v_71)]) eX10_senders_101 rfl rfl rfl ?_
                refine XW.goto eX10_senders_104 ?_
                refine XW.forget 2 rfl ?_
                refine XW.forget 3 rfl ?_
                refine XW.forget 4 rfl ?_
                exact hk)
            exact h
      ·
        replace h := hf c_33
        obtain ⟨q_47, h⟩ := h
        refine XF.lift (pc2 := 48) (ls2 := [some (.ref 69), some (.int x1), some (.int (((I 69 22) - 1) - (I 76 x1.toNatClampNeg))), none, none]) (st2 := [.int (I_26 90 ((400 * x1) + (((I 69 22) - 1) - (I 76 x1.toNatClampNeg))).toNatClampNeg)]) (I2 := I_26) ?_ (fun r I' hk => by
            refine XW.if_lt eX10_senders_33 (fun z => absurd z c_33) (fun _ => ?_)
            refine XW.aload_n eX10_senders_36 rfl ?_
            refine XW.getR (b := 90) eX10_senders_37 f10_81_10 rfl (so_69 hs) (sr_69_28 hs) ?_
            refine XW.sipush (v := 400) eX10_senders_40 (by decide) ?_
            refine XW.iload_n eX10_senders_43 rfl ?_
            refine XW.imul eX10_senders_44 ?_
            refine XW.iload_n eX10_senders_45 rfl ?_
            refine XW.iadd eX10_senders_46 ?_
            refine XW.baload eX10_senders_47 (sa_90 hs) q_47 ?_
            exact hk)
        obtain ⟨ht, hf⟩ := h
        refine XF.br (P := (I_26 90 ((400 * x1) + (((I 69 22) - 1) - (I 76 x1.toNatClampNeg))).toNatClampNeg) = 0) (fun c_48 => ?_) (fun c_48 => ?_)
        ·
          replace h := ht c_48
          refine XF.lift (pc2 := 59) (ls2 := [some (.ref 69), some (.int x1), some (.int (((I 69 22) - 1) - (I 76 x1.toNatClampNeg))), some (.int 0), none]) (st2 := [.int x1, .ref 69]) (I2 := I_26) ?_ (fun r I' hk => by
              refine XW.if_eq eX10_senders_48 (fun _ => ?_) (fun z => absurd c_48 z)
              refine XW.iconst (v := 0) eX10_senders_55 (by decide) ?_
              refine XW.istore_n (ls' := [some (.ref 69), some (.int x1), some (.int (((I 69 22) - 1) - (I 76 x1.toNatClampNeg))), some (.int 0), none]) eX10_senders_56 (Nat.le_of_ble_eq_true rfl) rfl ?_
              refine XW.aload_n eX10_senders_57 rfl ?_
              refine XW.iload_n eX10_senders_58 rfl ?_
              exact hk)
          obtain ⟨Qc, hc, h⟩ := h
          refine XF.call (nx := 62) (st := []) hc (fun v I1 r I' hY hk => XW.callV (As := [.int x1]) (st := []) eX10_senders_59 okX10_isHeld cv10_177 rfl (so_69 hs) hY (xnum rfl rfl rfl rfl rfl) hk) (fun v_59 I_59 hq => ?_)
          replace h := h v_59 I_59 hq
          obtain ⟨ht, hf⟩ := h
          refine XF.br (P := v_59 = 0) (fun c_62 => ?_) (fun c_62 => ?_)
          ·
            replace h := ht c_62
            refine XF.lift (pc2 := 2) (ls2 := [some (.ref 69), some (.int (x1 + 1)), none, none, none]) (st2 := []) (I2 := I_59) ?_ (fun r I' hk => by
                refine XW.if_eq eX10_senders_62 (fun _ => ?_) (fun z => absurd c_62 z)
                refine XW.iconst (v := (-1)) eX10_senders_77 (by decide) ?_
                refine XW.istore (ls' := [some (.ref 69), some (.int x1), some (.int (((I 69 22) - 1) - (I 76 x1.toNatClampNeg))), some (.int 0), some (.int (-1))]) eX10_senders_78 (Nat.le_of_ble_eq_true rfl) rfl ?_
                refine XW.iload eX10_senders_80 rfl ?_
                refine XW.if_lt eX10_senders_82 (fun _ => ?_) (fun z => absurd (by decide) z)
                refine XW.iinc (y := (x1 + 1)) (ls' := [some (.ref 69), some (.int (x1 + 1)), some (.int (((I 69 22) - 1) - (I 76 x1.toNatClampNeg))), some (.int 0), some (.int (-1))]) eX10_senders_101 rfl rfl rfl ?_
                refine XW.goto eX10_senders_104 ?_
                refine XW.forget 2 rfl ?_
                refine XW.forget 3 rfl ?_
                refine XW.forget 4 rfl ?_
                exact hk)
            exact h
          ·
            replace h := hf c_62
            refine XF.lift (pc2 := 71) (ls2 := [some (.ref 69), some (.int x1), some (.int (((I 69 22) - 1) - (I 76 x1.toNatClampNeg))), some (.int 0), none]) (st2 := [.int x1, .ref 69]) (I2 := I_59) ?_ (fun r I' hk => by
                refine XW.if_eq eX10_senders_62 (fun z => absurd z c_62) (fun _ => ?_)
                refine XW.iload_n eX10_senders_65 rfl ?_
                refine XW.if_ne eX10_senders_66 (fun z => absurd (by decide) z) (fun _ => ?_)
                refine XW.aload_n eX10_senders_69 rfl ?_
                refine XW.iload_n eX10_senders_70 rfl ?_
                exact hk)
            obtain ⟨Qc, hc, h⟩ := h
            refine XF.call (nx := 74) (st := []) hc (fun v I1 r I' hY hk => XW.callV (As := [.int x1]) (st := []) eX10_senders_71 okX10_waiting cv10_180 rfl (so_69 hs) hY (xnum rfl rfl rfl rfl rfl) hk) (fun v_71 I_71 hq => ?_)
            replace h := h v_71 I_71 hq
            refine XF.lift (pc2 := 82) (ls2 := [some (.ref 69), some (.int x1), some (.int (((I 69 22) - 1) - (I 76 x1.toNatClampNeg))), some (.int 0), some (.int v_71)]) (st2 := [.int v_71]) (I2 := I_71) ?_ (fun r I' hk => by
                refine XW.goto eX10_senders_74 ?_
                refine XW.istore (ls' := [some (.ref 69), some (.int x1), some (.int (((I 69 22) - 1) - (I 76 x1.toNatClampNeg))), some (.int 0), some (.int v_71)]) eX10_senders_78 (Nat.le_of_ble_eq_true rfl) rfl ?_
                refine XW.iload eX10_senders_80 rfl ?_
                exact hk)
            obtain ⟨ht, hf⟩ := h
            refine XF.br (P := v_71 < 0) (fun c_82 => ?_) (fun c_82 => ?_)
            ·
              replace h := ht c_82
              refine XF.lift (pc2 := 2) (ls2 := [some (.ref 69), some (.int (x1 + 1)), none, none, none]) (st2 := []) (I2 := I_71) ?_ (fun r I' hk => by
                  refine XW.if_lt eX10_senders_82 (fun _ => ?_) (fun z => absurd c_82 z)
                  refine XW.iinc (y := (x1 + 1)) (ls' := [some (.ref 69), some (.int (x1 + 1)), some (.int (((I 69 22) - 1) - (I 76 x1.toNatClampNeg))), some (.int 0), some (.int v_71)]) eX10_senders_101 rfl rfl rfl ?_
                  refine XW.goto eX10_senders_104 ?_
                  refine XW.forget 2 rfl ?_
                  refine XW.forget 3 rfl ?_
                  refine XW.forget 4 rfl ?_
                  exact hk)
              exact h
            ·
              replace h := hf c_82
              refine XF.lift (pc2 := 98) (ls2 := [some (.ref 69), some (.int x1), some (.int (((I 69 22) - 1) - (I 76 x1.toNatClampNeg))), some (.int 0), some (.int v_71)]) (st2 := [.int v_71, .ref 69]) (I2 := (wI I_71 88 x1.toNatClampNeg (v_71 + 1))) ?_ (fun r I' hk => by
                  refine XW.if_lt eX10_senders_82 (fun z => absurd z c_82) (fun _ => ?_)
                  refine XW.aload_n eX10_senders_85 rfl ?_
                  refine XW.getR (b := 88) eX10_senders_86 f10_75_10 rfl (so_69 hs) (sr_69_26 hs) ?_
                  refine XW.iload_n eX10_senders_89 rfl ?_
                  refine XW.iload eX10_senders_90 rfl ?_
                  refine XW.iconst (v := 1) eX10_senders_92 (by decide) ?_
                  refine XW.iadd eX10_senders_93 ?_
                  refine XW.iastore eX10_senders_94 (sa_88 hs) q_21 ?_
                  refine XW.aload_n eX10_senders_95 rfl ?_
                  refine XW.iload eX10_senders_96 rfl ?_
                  exact hk)
              obtain ⟨Qc, hc, h⟩ := h
              refine XF.call (nx := 101) (st := []) hc (fun v I1 r I' hY hk => XW.callV (As := [.int v_71]) (st := []) eX10_senders_98 okX10_comes cv10_184 rfl (so_69 hs) hY (xnum rfl rfl rfl rfl rfl) hk) (fun _ I_98 hq => ?_)
              replace h := h () I_98 hq
              refine XF.lift (pc2 := 2) (ls2 := [some (.ref 69), some (.int (x1 + 1)), none, none, none]) (st2 := []) (I2 := I_98) ?_ (fun r I' hk => by
                  refine XW.iinc (y := (x1 + 1)) (ls' := [some (.ref 69), some (.int (x1 + 1)), some (.int (((I 69 22) - 1) - (I 76 x1.toNatClampNeg))), some (.int 0), some (.int v_71)]) eX10_senders_101 rfl rfl rfl ?_
                  refine XW.goto eX10_senders_104 ?_
                  refine XW.forget 2 rfl ?_
                  refine XW.forget 3 rfl ?_
                  refine XW.forget 4 rfl ?_
                  exact hk)
              exact h
        ·
          replace h := hf c_48
          refine XF.lift (pc2 := 59) (ls2 := [some (.ref 69), some (.int x1), some (.int (((I 69 22) - 1) - (I 76 x1.toNatClampNeg))), some (.int 1), none]) (st2 := [.int x1, .ref 69]) (I2 := I_26) ?_ (fun r I' hk => by
              refine XW.if_eq eX10_senders_48 (fun z => absurd z c_48) (fun _ => ?_)
              refine XW.iconst (v := 1) eX10_senders_51 (by decide) ?_
              refine XW.goto eX10_senders_52 ?_
              refine XW.istore_n (ls' := [some (.ref 69), some (.int x1), some (.int (((I 69 22) - 1) - (I 76 x1.toNatClampNeg))), some (.int 1), none]) eX10_senders_56 (Nat.le_of_ble_eq_true rfl) rfl ?_
              refine XW.aload_n eX10_senders_57 rfl ?_
              refine XW.iload_n eX10_senders_58 rfl ?_
              exact hk)
          obtain ⟨Qc, hc, h⟩ := h
          refine XF.call (nx := 62) (st := []) hc (fun v I1 r I' hY hk => XW.callV (As := [.int x1]) (st := []) eX10_senders_59 okX10_isHeld cv10_177 rfl (so_69 hs) hY (xnum rfl rfl rfl rfl rfl) hk) (fun v_59 I_59 hq => ?_)
          replace h := h v_59 I_59 hq
          obtain ⟨ht, hf⟩ := h
          refine XF.br (P := v_59 = 0) (fun c_62 => ?_) (fun c_62 => ?_)
          ·
            replace h := ht c_62
            refine XF.lift (pc2 := 2) (ls2 := [some (.ref 69), some (.int (x1 + 1)), none, none, none]) (st2 := []) (I2 := I_59) ?_ (fun r I' hk => by
                refine XW.if_eq eX10_senders_62 (fun _ => ?_) (fun z => absurd c_62 z)
                refine XW.iconst (v := (-1)) eX10_senders_77 (by decide) ?_
                refine XW.istore (ls' := [some (.ref 69), some (.int x1), some (.int (((I 69 22) - 1) - (I 76 x1.toNatClampNeg))), some (.int 1), some (.int (-1))]) eX10_senders_78 (Nat.le_of_ble_eq_true rfl) rfl ?_
                refine XW.iload eX10_senders_80 rfl ?_
                refine XW.if_lt eX10_senders_82 (fun _ => ?_) (fun z => absurd (by decide) z)
                refine XW.iinc (y := (x1 + 1)) (ls' := [some (.ref 69), some (.int (x1 + 1)), some (.int (((I 69 22) - 1) - (I 76 x1.toNatClampNeg))), some (.int 1), some (.int (-1))]) eX10_senders_101 rfl rfl rfl ?_
                refine XW.goto eX10_senders_104 ?_
                refine XW.forget 2 rfl ?_
                refine XW.forget 3 rfl ?_
                refine XW.forget 4 rfl ?_
                exact hk)
            exact h
          ·
            replace h := hf c_62
            refine XF.lift (pc2 := 2) (ls2 := [some (.ref 69), some (.int (x1 + 1)), none, none, none]) (st2 := []) (I2 := I_59) ?_ (fun r I' hk => by
                refine XW.if_eq eX10_senders_62 (fun z => absurd z c_62) (fun _ => ?_)
                refine XW.iload_n eX10_senders_65 rfl ?_
                refine XW.if_ne eX10_senders_66 (fun _ => ?_) (fun z => absurd z (by decide))
                refine XW.iconst (v := (-1)) eX10_senders_77 (by decide) ?_
                refine XW.istore (ls' := [some (.ref 69), some (.int x1), some (.int (((I 69 22) - 1) - (I 76 x1.toNatClampNeg))), some (.int 1), some (.int (-1))]) eX10_senders_78 (Nat.le_of_ble_eq_true rfl) rfl ?_
                refine XW.iload eX10_senders_80 rfl ?_
                refine XW.if_lt eX10_senders_82 (fun _ => ?_) (fun z => absurd (by decide) z)
                refine XW.iinc (y := (x1 + 1)) (ls' := [some (.ref 69), some (.int (x1 + 1)), some (.int (((I 69 22) - 1) - (I 76 x1.toNatClampNeg))), some (.int 1), some (.int (-1))]) eX10_senders_101 rfl rfl rfl ?_
                refine XW.goto eX10_senders_104 ?_
                refine XW.forget 2 rfl ?_
                refine XW.forget 3 rfl ?_
                refine XW.forget 4 rfl ?_
                exact hk)
            exact h
set_option maxRecDepth 100000 in
set_option maxHeartbeats 4000000 in
theorem VX10_sends {l : Launch} {C : xC} {G : xG} (hs : SH G)  (I : xI) {Q : Unit → xI → Prop} (h :
    XF fV l C mX10_sends 2 [some (.ref 69), some (.int 0)] [] G I Q) : XF fV l C mX10_sends 0 (xent mX10_sends [.ref 69]) [] G I Q := by
  show XF fV l C mX10_sends 0 [some (.ref 69), none] [] G I Q
  refine XF.lift (pc2 := 2) (ls2 := [some (.ref 69), some (.int 0)]) (st2 := []) (I2 := I) ?_ (fun r I' hk => by
      refine XW.iconst (v := 0) eX10_sends_0 (by decide) ?_
      refine XW.istore_n (ls' := [some (.ref 69), some (.int 0)]) eX10_sends_1 (Nat.le_of_ble_eq_true rfl) rfl ?_
      exact hk)
  exact h
set_option maxRecDepth 100000 in
set_option maxHeartbeats 4000000 in
theorem VX10_sends_2 {l : Launch} {C : xC} {G : xG} (hs : SH G)  (I : xI) (x1 : Int32) {Q : Unit → xI → Prop} (h :
    (((I 69 1) ≤ x1 → Q () I) ∧ (¬ ((I 69 1) ≤ x1) → vp_in x1 4 ∧ (((I 86 x1.toNatClampNeg) ≤ 0 → XF fV l C mX10_sends 2 [some (.ref 69), some (.int (x1 + 1))] [] G I Q) ∧ (¬ ((I 86 x1.toNatClampNeg) ≤ 0) → ¬ (I 72 x1.toNatClampNeg) = 0 ∧ (((((I 69 22) + 1) - ((I 69 22) + 1) / (I 72 x1.toNatClampNeg) * (I 72 x1.toNatClampNeg)) = 0 → vp_in ((80 * x1) + (I 87 x1.toNatClampNeg)) 320 ∧ (∃ Qc : Unit → xI → Prop, XF fV l C mX10_ends 0 (xent mX10_ends [.ref 69, .int (I 85 ((80 * x1) + (I 87 x1.toNatClampNeg)).toNatClampNeg), .int 0]) [] G I Qc ∧ ∀ (u_53 : Unit) (I_53 : xI), Qc u_53 I_53 → XF fV l C mX10_sends 2 [some (.ref 69), some (.int (x1 + 1))] [] G (wI (wI I_53 87 x1.toNatClampNeg ((I_53 87 x1.toNatClampNeg) + 1)) 86 x1.toNatClampNeg ((I_53 86 x1.toNatClampNeg) - 1)) Q)) ∧ (¬ ((((I 69 22) + 1) - ((I 69 22) + 1) / (I 72 x1.toNatClampNeg) * (I 72 x1.toNatClampNeg)) = 0) → XF fV l C mX10_sends 2 [some (.ref 69), some (.int (x1 + 1))] [] G I Q))))))) : XF fV l C mX10_sends 2 [some (.ref 69), some (.int x1)] [] G I Q := by
  refine XF.lift (pc2 := 7) (ls2 := [some (.ref 69), some (.int x1)]) (st2 := [.int (I 69 1), .int x1]) (I2 := I) ?_ (fun r I' hk => by
      refine XW.iload_n eX10_sends_2 rfl ?_
      refine XW.aload_n eX10_sends_3 rfl ?_
      refine XW.getI eX10_sends_4 f10_13_10 rfl (so_69 hs) ?_
      exact hk)
  obtain ⟨ht, hf⟩ := h
  refine XF.br (P := (I 69 1) ≤ x1) (fun c_7 => ?_) (fun c_7 => ?_)
  ·
    replace h := ht c_7
    refine XF.lift (pc2 := 82) (ls2 := [some (.ref 69), some (.int x1)]) (st2 := []) (I2 := I) ?_ (fun r I' hk => by
        refine XW.icmp_ge eX10_sends_7 (fun _ => ?_) (fun z => absurd c_7 z)
        exact hk)
    exact ⟨(), I, XW.vret eX10_sends_82 rfl rfl rfl rfl, h⟩
  ·
    replace h := hf c_7
    obtain ⟨q_15, h⟩ := h
    refine XF.lift (pc2 := 16) (ls2 := [some (.ref 69), some (.int x1)]) (st2 := [.int (I 86 x1.toNatClampNeg)]) (I2 := I) ?_ (fun r I' hk => by
        refine XW.icmp_ge eX10_sends_7 (fun z => absurd z c_7) (fun _ => ?_)
        refine XW.aload_n eX10_sends_10 rfl ?_
        refine XW.getR (b := 86) eX10_sends_11 f10_69_10 rfl (so_69 hs) (sr_69_24 hs) ?_
        refine XW.iload_n eX10_sends_14 rfl ?_
        refine XW.iaload eX10_sends_15 (sa_86 hs) q_15 ?_
        exact hk)
    obtain ⟨ht, hf⟩ := h
    refine XF.br (P := (I 86 x1.toNatClampNeg) ≤ 0) (fun c_16 => ?_) (fun c_16 => ?_)
    ·
      replace h := ht c_16
      refine XF.lift (pc2 := 2) (ls2 := [some (.ref 69), some (.int (x1 + 1))]) (st2 := []) (I2 := I) ?_ (fun r I' hk => by
          refine XW.if_le eX10_sends_16 (fun _ => ?_) (fun z => absurd c_16 z)
          refine XW.iinc (y := (x1 + 1)) (ls' := [some (.ref 69), some (.int (x1 + 1))]) eX10_sends_76 rfl rfl rfl ?_
          refine XW.goto eX10_sends_79 ?_
          exact hk)
      exact h
    ·
      replace h := hf c_16
      obtain ⟨z_31, h⟩ := h
      refine XF.lift (pc2 := 32) (ls2 := [some (.ref 69), some (.int x1)]) (st2 := [.int (((I 69 22) + 1) - ((I 69 22) + 1) / (I 72 x1.toNatClampNeg) * (I 72 x1.toNatClampNeg))]) (I2 := I) ?_ (fun r I' hk => by
          refine XW.if_le eX10_sends_16 (fun z => absurd z c_16) (fun _ => ?_)
          refine XW.aload_n eX10_sends_19 rfl ?_
          refine XW.getI eX10_sends_20 f10_148_10 rfl (so_69 hs) ?_
          refine XW.iconst (v := 1) eX10_sends_23 (by decide) ?_
          refine XW.iadd eX10_sends_24 ?_
          refine XW.aload_n eX10_sends_25 rfl ?_
          refine XW.getR (b := 72) eX10_sends_26 f10_23_10 rfl (so_69 hs) (sr_69_4 hs) ?_
          refine XW.iload_n eX10_sends_29 rfl ?_
          refine XW.iaload eX10_sends_30 (sa_72 hs) q_15 ?_
          refine XW.irem eX10_sends_31 z_31 ?_
          exact hk)
      obtain ⟨ht, hf⟩ := h
      refine XF.br (P := (((I 69 22) + 1) - ((I 69 22) + 1) / (I 72 x1.toNatClampNeg) * (I 72 x1.toNatClampNeg)) = 0) (fun c_32 => ?_) (fun c_32 => ?_)
      ·
        replace h := ht c_32
        obtain ⟨q_51, h⟩ := h
        refine XF.lift (pc2 := 53) (ls2 := [some (.ref 69), some (.int x1)]) (st2 := [.int 0, .int (I 85 ((80 * x1) + (I 87 x1.toNatClampNeg)).toNatClampNeg), .ref 69]) (I2 := I) ?_ (fun r I' hk => by
            refine XW.if_ne eX10_sends_32 (fun z => absurd c_32 z) (fun _ => ?_)
            refine XW.aload_n eX10_sends_35 rfl ?_
            refine XW.aload_n eX10_sends_36 rfl ?_
            refine XW.getR (b := 85) eX10_sends_37 f10_66_10 rfl (so_69 hs) (sr_69_23 hs) ?_
            refine XW.bipush (v := 80) eX10_sends_40 (by decide) ?_
            refine XW.iload_n eX10_sends_42 rfl ?_
            refine XW.imul eX10_sends_43 ?_
            refine XW.aload_n eX10_sends_44 rfl ?_
            refine XW.getR (b := 87) eX10_sends_45 f10_72_10 rfl (so_69 hs) (sr_69_25 hs) ?_
            refine XW.iload_n eX10_sends_48 rfl ?_
            refine XW.iaload eX10_sends_49 (sa_87 hs) q_15 ?_
            refine XW.iadd eX10_sends_50 ?_
            refine XW.iaload eX10_sends_51 (sa_85 hs) q_51 ?_
            refine XW.iconst (v := 0) eX10_sends_52 (by decide) ?_
            exact hk)
        obtain ⟨Qc, hc, h⟩ := h
        refine XF.call (nx := 56) (st := []) hc (fun v I1 r I' hY hk => XW.callV (As := [.int (I 85 ((80 * x1) + (I 87 x1.toNatClampNeg)).toNatClampNeg), .int 0]) (st := []) eX10_sends_53 okX10_ends cv10_166 rfl (so_69 hs) hY (xnum rfl rfl rfl rfl rfl) hk) (fun _ I_53 hq => ?_)
        replace h := h () I_53 hq
        refine XF.lift (pc2 := 2) (ls2 := [some (.ref 69), some (.int (x1 + 1))]) (st2 := []) (I2 := (wI (wI I_53 87 x1.toNatClampNeg ((I_53 87 x1.toNatClampNeg) + 1)) 86 x1.toNatClampNeg ((I_53 86 x1.toNatClampNeg) - 1))) ?_ (fun r I' hk => by
            refine XW.aload_n eX10_sends_56 rfl ?_
            refine XW.getR (b := 87) eX10_sends_57 f10_72_10 rfl (so_69 hs) (sr_69_25 hs) ?_
            refine XW.iload_n eX10_sends_60 rfl ?_
            refine XW.dup2 eX10_sends_61 rfl rfl ?_
            refine XW.iaload eX10_sends_62 (sa_87 hs) q_15 ?_
            refine XW.iconst (v := 1) eX10_sends_63 (by decide) ?_
            refine XW.iadd eX10_sends_64 ?_
            refine XW.iastore eX10_sends_65 (sa_87 hs) q_15 ?_
            refine XW.aload_n eX10_sends_66 rfl ?_
            refine XW.getR (b := 86) eX10_sends_67 f10_69_10 rfl (so_69 hs) (sr_69_24 hs) ?_
            refine XW.iload_n eX10_sends_70 rfl ?_
            refine XW.dup2 eX10_sends_71 rfl rfl ?_
            refine XW.iaload eX10_sends_72 (sa_86 hs) q_15 ?_
            refine XW.iconst (v := 1) eX10_sends_73 (by decide) ?_
            refine XW.isub eX10_sends_74 ?_
            refine XW.iastore eX10_sends_75 (sa_86 hs) q_15 ?_
            refine XW.iinc (y := (x1 + 1)) (ls' := [some (.ref 69), some (.int (x1 + 1))]) eX10_sends_76 rfl rfl rfl ?_
            refine XW.goto eX10_sends_79 ?_
            exact hk)
        exact h
      ·
        replace h := hf c_32
        refine XF.lift (pc2 := 2) (ls2 := [some (.ref 69), some (.int (x1 + 1))]) (st2 := []) (I2 := I) ?_ (fun r I' hk => by
            refine XW.if_ne eX10_sends_32 (fun _ => ?_) (fun z => absurd z c_32)
            refine XW.iinc (y := (x1 + 1)) (ls' := [some (.ref 69), some (.int (x1 + 1))]) eX10_sends_76 rfl rfl rfl ?_
            refine XW.goto eX10_sends_79 ?_
            exact hk)
        exact h
set_option maxRecDepth 100000 in
set_option maxHeartbeats 4000000 in
theorem VX10_tells {l : Launch} {C : xC} {G : xG} (hs : SH G)  (I : xI) (y1 : Int32) {Q : Unit → xI → Prop} (h :
    XF fV l C mX10_tells 2 [some (.ref 69), some (.int y1), some (.int 0)] [] G I Q) : XF fV l C mX10_tells 0 (xent mX10_tells [.ref 69, .int y1]) [] G I Q := by
  show XF fV l C mX10_tells 0 [some (.ref 69), some (.int y1), none] [] G I Q
  refine XF.lift (pc2 := 2) (ls2 := [some (.ref 69), some (.int y1), some (.int 0)]) (st2 := []) (I2 := I) ?_ (fun r I' hk => by
      refine XW.iconst (v := 0) eX10_tells_0 (by decide) ?_
      refine XW.istore_n (ls' := [some (.ref 69), some (.int y1), some (.int 0)]) eX10_tells_1 (Nat.le_of_ble_eq_true rfl) rfl ?_
      exact hk)
  exact h
set_option maxRecDepth 100000 in
set_option maxHeartbeats 4000000 in
theorem VX10_tells_2 {l : Launch} {C : xC} {G : xG} (hs : SH G)  (I : xI) (x1 x2 : Int32) {Q : Unit → xI → Prop} (h :
    ((4 ≤ x2 → Q () I) ∧ (¬ (4 ≤ x2) → (((I 69 1) ≤ x2 → ((x1 = 0 → XF fV l C mX10_tells 2 [some (.ref 69), some (.int x1), some (.int (x2 + 1))] [] G I Q) ∧ (¬ (x1 = 0) → vp_in x2 4 ∧ vp_in ((400 * x2) + (I 69 22)) 1600 ∧ XF fV l C mX10_tells 2 [some (.ref 69), some (.int x1), some (.int (x2 + 1))] [] G (wI I 95 ((400 * x2) + (I 69 22)).toNatClampNeg (I 86 x2.toNatClampNeg)) Q))) ∧ (¬ ((I 69 1) ≤ x2) → vp_in x2 4 ∧ (((I 74 x2.toNatClampNeg) ≤ (I 86 x2.toNatClampNeg) → vp_in ((400 * x2) + (I 69 22)) 1600 ∧ (((wI I 89 x2.toNatClampNeg 1) 89 x2.toNatClampNeg) = 0 ∨ ((wI I 89 x2.toNatClampNeg 1) 89 x2.toNatClampNeg) = 1) ∧ ((x1 = 0 → XF fV l C mX10_tells 2 [some (.ref 69), some (.int x1), some (.int (x2 + 1))] [] G (wI (wI I 89 x2.toNatClampNeg 1) 90 ((400 * x2) + (I 69 22)).toNatClampNeg ((wI I 89 x2.toNatClampNeg 1) 89 x2.toNatClampNeg)) Q) ∧ (¬ (x1 = 0) → XF fV l C mX10_tells 2 [some (.ref 69), some (.int x1), some (.int (x2 + 1))] [] G (wI (wI (wI I 89 x2.toNatClampNeg 1) 90 ((400 * x2) + (I 69 22)).toNatClampNeg ((wI I 89 x2.toNatClampNeg 1) 89 x2.toNatClampNeg)) 95 ((400 * x2) + (I 69 22)).toNatClampNeg (I 86 x2.toNatClampNeg)) Q))) ∧ (¬ ((I 74 x2.toNatClampNeg) ≤ (I 86 x2.toNatClampNeg)) → (((I 86 x2.toNatClampNeg) ≤ (I 75 x2.toNatClampNeg) → vp_in ((400 * x2) + (I 69 22)) 1600 ∧ (((wI I 89 x2.toNatClampNeg 0) 89 x2.toNatClampNeg) = 0 ∨ ((wI I 89 x2.toNatClampNeg 0) 89 x2.toNatClampNeg) = 1) ∧ ((x1 = 0 → XF fV l C mX10_tells 2 [some (.ref 69), some (.int x1), some (.int (x2 + 1))] [] G (wI (wI I 89 x2.toNatClampNeg 0) 90 ((400 * x2) + (I 69 22)).toNatClampNeg ((wI I 89 x2.toNatClampNeg 0) 89 x2.toNatClampNeg)) Q) ∧ (¬ (x1 = 0) → XF fV l C mX10_tells 2 [some (.ref 69), some (.int x1), some (.int (x2 + 1))] [] G (wI (wI (wI I 89 x2.toNatClampNeg 0) 90 ((400 * x2) + (I 69 22)).toNatClampNeg ((wI I 89 x2.toNatClampNeg 0) 89 x2.toNatClampNeg)) 95 ((400 * x2) + (I 69 22)).toNatClampNeg (I 86 x2.toNatClampNeg)) Q))) ∧ (¬ ((I 86 x2.toNatClampNeg) ≤ (I 75 x2.toNatClampNeg)) → (((I 89 x2.toNatClampNeg) = 0 → vp_in ((400 * x2) + (I 69 22)) 1600 ∧ (((wI I 89 x2.toNatClampNeg 0) 89 x2.toNatClampNeg) = 0 ∨ ((wI I 89 x2.toNatClampNeg 0) 89 x2.toNatClampNeg) = 1) ∧ ((x1 = 0 → XF fV l C mX10_tells 2 [some (.ref 69), some (.int x1), some (.int (x2 + 1))] [] G (wI (wI I 89 x2.toNatClampNeg 0) 90 ((400 * x2) + (I 69 22)).toNatClampNeg ((wI I 89 x2.toNatClampNeg 0) 89 x2.toNatClampNeg)) Q) ∧ (¬ (x1 = 0) → XF fV l C mX10_tells 2 [some (.ref 69), some (.int x1), some (.int (x2 + 1))] [] G (wI (wI (wI I 89 x2.toNatClampNeg 0) 90 ((400 * x2) + (I 69 22)).toNatClampNeg ((wI I 89 x2.toNatClampNeg 0) 89 x2.toNatClampNeg)) 95 ((400 * x2) + (I 69 22)).toNatClampNeg (I 86 x2.toNatClampNeg)) Q))) ∧ (¬ ((I 89 x2.toNatClampNeg) = 0) → vp_in ((400 * x2) + (I 69 22)) 1600 ∧ (((wI I 89 x2.toNatClampNeg 1) 89 x2.toNatClampNeg) = 0 ∨ ((wI I 89 x2.toNatClampNeg 1) 89 x2.toNatClampNeg) = 1) ∧ ((x1 = 0 → XF fV l C mX10_tells 2 [some (.ref 69), some (.int x1), some (.int (x2 + 1))] [] G (wI (wI I 89 x2.toNatClampNeg 1) 90 ((400 * x2) + (I 69 22)).toNatClampNeg ((wI I 89 x2.toNatClampNeg 1) 89 x2.toNatClampNeg)) Q) ∧ (¬ (x1 = 0) → XF fV l C mX10_tells 2 [some (.ref 69), some (.int x1), some (.int (x2 + 1))] [] G (wI (wI (wI I 89 x2.toNatClampNeg 1) 90 ((400 * x2) + (I 69 22)).toNatClampNeg ((wI I 89 x2.toNatClampNeg 1) 89 x2.toNatClampNeg)) 95 ((400 * x2) + (I 69 22)).toNatClampNeg (I 86 x2.toNatClampNeg)) Q))))))))))))) : XF fV l C mX10_tells 2 [some (.ref 69), some (.int x1), some (.int x2)] [] G I Q := by
  refine XF.lift (pc2 := 4) (ls2 := [some (.ref 69), some (.int x1), some (.int x2)]) (st2 := [.int 4, .int x2]) (I2 := I) ?_ (fun r I' hk => by
      refine XW.iload_n eX10_tells_2 rfl ?_
      refine XW.iconst (v := 4) eX10_tells_3 (by decide) ?_
      exact hk)
  obtain ⟨ht, hf⟩ := h
  refine XF.br (P := 4 ≤ x2) (fun c_4 => ?_) (fun c_4 => ?_)
  ·
    replace h := ht c_4
    refine XF.lift (pc2 := 117) (ls2 := [some (.ref 69), some (.int x1), some (.int x2)]) (st2 := []) (I2 := I) ?_ (fun r I' hk => by
        refine XW.icmp_ge eX10_tells_4 (fun _ => ?_) (fun z => absurd c_4 z)
        exact hk)
    exact ⟨(), I, XW.vret eX10_tells_117 rfl rfl rfl rfl, h⟩
  ·
    replace h := hf c_4
    refine XF.lift (pc2 := 12) (ls2 := [some (.ref 69), some (.int x1), some (.int x2)]) (st2 := [.int (I 69 1), .int x2]) (I2 := I) ?_ (fun r I' hk => by
        refine XW.icmp_ge eX10_tells_4 (fun z => absurd z c_4) (fun _ => ?_)
        refine XW.iload_n eX10_tells_7 rfl ?_
        refine XW.aload_n eX10_tells_8 rfl ?_
        refine XW.getI eX10_tells_9 f10_13_10 rfl (so_69 hs) ?_
        exact hk)
    obtain ⟨ht, hf⟩ := h
    refine XF.br (P := (I 69 1) ≤ x2) (fun c_12 => ?_) (fun c_12 => ?_)
    ·
      replace h := ht c_12
      refine XF.lift (pc2 := 87) (ls2 := [some (.ref 69), some (.int x1), some (.int x2)]) (st2 := [.int x1]) (I2 := I) ?_ (fun r I' hk => by
          refine XW.icmp_ge eX10_tells_12 (fun _ => ?_) (fun z => absurd c_12 z)
          refine XW.iload_n eX10_tells_86 rfl ?_
          exact hk)
      obtain ⟨ht, hf⟩ := h
      refine XF.br (P := x1 = 0) (fun c_87 => ?_) (fun c_87 => ?_)
      ·
        replace h := ht c_87
        refine XF.lift (pc2 := 2) (ls2 := [some (.ref 69), some (.int x1), some (.int (x2 + 1))]) (st2 := []) (I2 := I) ?_ (fun r I' hk => by
            refine XW.if_eq eX10_tells_87 (fun _ => ?_) (fun z => absurd c_87 z)
            refine XW.iinc (y := (x2 + 1)) (ls' := [some (.ref 69), some (.int x1), some (.int (x2 + 1))]) eX10_tells_111 rfl rfl rfl ?_
            refine XW.goto eX10_tells_114 ?_
            exact hk)
        exact h
      ·
        replace h := hf c_87
        obtain ⟨q_109, h⟩ := h
        obtain ⟨q_110, h⟩ := h
        refine XF.lift (pc2 := 2) (ls2 := [some (.ref 69), some (.int x1), some (.int (x2 + 1))]) (st2 := []) (I2 := (wI I 95 ((400 * x2) + (I 69 22)).toNatClampNeg (I 86 x2.toNatClampNeg))) ?_ (fun r I' hk => by
            refine XW.if_eq eX10_tells_87 (fun z => absurd z c_87) (fun _ => ?_)
            refine XW.aload_n eX10_tells_90 rfl ?_
            refine XW.getR (b := 95) eX10_tells_91 f10_96_10 rfl (so_69 hs) (sr_69_33 hs) ?_
            refine XW.sipush (v := 400) eX10_tells_94 (by decide) ?_
            refine XW.iload_n eX10_tells_97 rfl ?_
            refine XW.imul eX10_tells_98 ?_
            refine XW.aload_n eX10_tells_99 rfl ?_
            refine XW.getI eX10_tells_100 f10_148_10 rfl (so_69 hs) ?_
            refine XW.iadd eX10_tells_103 ?_
            refine XW.aload_n eX10_tells_104 rfl ?_
            refine XW.getR (b := 86) eX10_tells_105 f10_69_10 rfl (so_69 hs) (sr_69_24 hs) ?_
            refine XW.iload_n eX10_tells_108 rfl ?_
            refine XW.iaload eX10_tells_109 (sa_86 hs) q_109 ?_
            refine XW.iastore eX10_tells_110 (sa_95 hs) q_110 ?_
            refine XW.iinc (y := (x2 + 1)) (ls' := [some (.ref 69), some (.int x1), some (.int (x2 + 1))]) eX10_tells_111 rfl rfl rfl ?_
            refine XW.goto eX10_tells_114 ?_
            exact hk)
        exact h
    ·
      replace h := hf c_12
      obtain ⟨q_25, h⟩ := h
      refine XF.lift (pc2 := 32) (ls2 := [some (.ref 69), some (.int x1), some (.int x2)]) (st2 := [.int (I 74 x2.toNatClampNeg), .int (I 86 x2.toNatClampNeg), .int x2, .ref 89]) (I2 := I) ?_ (fun r I' hk => by
          refine XW.icmp_ge eX10_tells_12 (fun z => absurd z c_12) (fun _ => ?_)
          refine XW.aload_n eX10_tells_15 rfl ?_
          refine XW.getR (b := 89) eX10_tells_16 f10_78_10 rfl (so_69 hs) (sr_69_27 hs) ?_
          refine XW.iload_n eX10_tells_19 rfl ?_
          refine XW.aload_n eX10_tells_20 rfl ?_
          refine XW.getR (b := 86) eX10_tells_21 f10_69_10 rfl (so_69 hs) (sr_69_24 hs) ?_
          refine XW.iload_n eX10_tells_24 rfl ?_
          refine XW.iaload eX10_tells_25 (sa_86 hs) q_25 ?_
          refine XW.aload_n eX10_tells_26 rfl ?_
          refine XW.getR (b := 74) eX10_tells_27 f10_29_10 rfl (so_69 hs) (sr_69_6 hs) ?_
          refine XW.iload_n eX10_tells_30 rfl ?_
          refine XW.iaload eX10_tells_31 (sa_74 hs) q_25 ?_
          exact hk)
      obtain ⟨ht, hf⟩ := h
      refine XF.br (P := (I 74 x2.toNatClampNeg) ≤ (I 86 x2.toNatClampNeg)) (fun c_32 => ?_) (fun c_32 => ?_)
      ·
        replace h := ht c_32
        obtain ⟨q_85, h⟩ := h
        obtain ⟨b_85, h⟩ := h
        refine XF.lift (pc2 := 87) (ls2 := [some (.ref 69), some (.int x1), some (.int x2)]) (st2 := [.int x1]) (I2 := (wI (wI I 89 x2.toNatClampNeg 1) 90 ((400 * x2) + (I 69 22)).toNatClampNeg ((wI I 89 x2.toNatClampNeg 1) 89 x2.toNatClampNeg))) ?_ (fun r I' hk => by
            refine XW.icmp_ge eX10_tells_32 (fun _ => ?_) (fun z => absurd c_32 z)
            refine XW.iconst (v := 1) eX10_tells_59 (by decide) ?_
            refine XW.goto eX10_tells_60 ?_
            refine XW.bastore eX10_tells_64 (sa_89 hs) q_25 rfl ?_
            refine XW.aload_n eX10_tells_65 rfl ?_
            refine XW.getR (b := 90) eX10_tells_66 f10_81_10 rfl (so_69 hs) (sr_69_28 hs) ?_
            refine XW.sipush (v := 400) eX10_tells_69 (by decide) ?_
            refine XW.iload_n eX10_tells_72 rfl ?_
            refine XW.imul eX10_tells_73 ?_
            refine XW.aload_n eX10_tells_74 rfl ?_
            refine XW.getI eX10_tells_75 f10_148_10 rfl (so_69 hs) ?_
            refine XW.iadd eX10_tells_78 ?_
            refine XW.aload_n eX10_tells_79 rfl ?_
            refine XW.getR (b := 89) eX10_tells_80 f10_78_10 rfl (so_69 hs) (sr_69_27 hs) ?_
            refine XW.iload_n eX10_tells_83 rfl ?_
            refine XW.baload eX10_tells_84 (sa_89 hs) q_25 ?_
            refine XW.bastore eX10_tells_85 (sa_90 hs) q_85 (nar01 b_85) ?_
            refine XW.iload_n eX10_tells_86 rfl ?_
            exact hk)
        obtain ⟨ht, hf⟩ := h
        refine XF.br (P := x1 = 0) (fun c_87 => ?_) (fun c_87 => ?_)
        ·
          replace h := ht c_87
          refine XF.lift (pc2 := 2) (ls2 := [some (.ref 69), some (.int x1), some (.int (x2 + 1))]) (st2 := []) (I2 := (wI (wI I 89 x2.toNatClampNeg 1) 90 ((400 * x2) + (I 69 22)).toNatClampNeg ((wI I 89 x2.toNatClampNeg 1) 89 x2.toNatClampNeg))) ?_ (fun r I' hk => by
              refine XW.if_eq eX10_tells_87 (fun _ => ?_) (fun z => absurd c_87 z)
              refine XW.iinc (y := (x2 + 1)) (ls' := [some (.ref 69), some (.int x1), some (.int (x2 + 1))]) eX10_tells_111 rfl rfl rfl ?_
              refine XW.goto eX10_tells_114 ?_
              exact hk)
          exact h
        ·
          replace h := hf c_87
          refine XF.lift (pc2 := 2) (ls2 := [some (.ref 69), some (.int x1), some (.int (x2 + 1))]) (st2 := []) (I2 := (wI (wI (wI I 89 x2.toNatClampNeg 1) 90 ((400 * x2) + (I 69 22)).toNatClampNeg ((wI I 89 x2.toNatClampNeg 1) 89 x2.toNatClampNeg)) 95 ((400 * x2) + (I 69 22)).toNatClampNeg (I 86 x2.toNatClampNeg))) ?_ (fun r I' hk => by
              refine XW.if_eq eX10_tells_87 (fun z => absurd z c_87) (fun _ => ?_)
              refine XW.aload_n eX10_tells_90 rfl ?_
              refine XW.getR (b := 95) eX10_tells_91 f10_96_10 rfl (so_69 hs) (sr_69_33 hs) ?_
              refine XW.sipush (v := 400) eX10_tells_94 (by decide) ?_
              refine XW.iload_n eX10_tells_97 rfl ?_
              refine XW.imul eX10_tells_98 ?_
              refine XW.aload_n eX10_tells_99 rfl ?_
              refine XW.getI eX10_tells_100 f10_148_10 rfl (so_69 hs) ?_
              refine XW.iadd eX10_tells_103 ?_
              refine XW.aload_n eX10_tells_104 rfl ?_
              refine XW.getR (b := 86) eX10_tells_105 f10_69_10 rfl (so_69 hs) (sr_69_24 hs) ?_
              refine XW.iload_n eX10_tells_108 rfl ?_
              refine XW.iaload eX10_tells_109 (sa_86 hs) q_25 ?_
              refine XW.iastore eX10_tells_110 (sa_95 hs) q_85 ?_
              refine XW.iinc (y := (x2 + 1)) (ls' := [some (.ref 69), some (.int x1), some (.int (x2 + 1))]) eX10_tells_111 rfl rfl rfl ?_
              refine XW.goto eX10_tells_114 ?_
              exact hk)
          exact h
      ·
        replace h := hf c_32
        refine XF.lift (pc2 := 47) (ls2 := [some (.ref 69), some (.int x1), some (.int x2)]) (st2 := [.int (I 75 x2.toNatClampNeg), .int (I 86 x2.toNatClampNeg), .int x2, .ref 89]) (I2 := I) ?_ (fun r I' hk => by
            refine XW.icmp_ge eX10_tells_32 (fun z => absurd z c_32) (fun _ => ?_)
            refine XW.aload_n eX10_tells_35 rfl ?_
            refine XW.getR (b := 86) eX10_tells_36 f10_69_10 rfl (so_69 hs) (sr_69_24 hs) ?_
            refine XW.iload_n eX10_tells_39 rfl ?_
            refine XW.iaload eX10_tells_40 (sa_86 hs) q_25 ?_
            refine XW.aload_n eX10_tells_41 rfl ?_
            refine XW.getR (b := 75) eX10_tells_42 f10_32_10 rfl (so_69 hs) (sr_69_7 hs) ?_
            refine XW.iload_n eX10_tells_45 rfl ?_
            refine XW.iaload eX10_tells_46 (sa_75 hs) q_25 ?_
            exact hk)
        obtain ⟨ht, hf⟩ := h
        refine XF.br (P := (I 86 x2.toNatClampNeg) ≤ (I 75 x2.toNatClampNeg)) (fun c_47 => ?_) (fun c_47 => ?_)
        ·
          replace h := ht c_47
          obtain ⟨q_85, h⟩ := h
          obtain ⟨b_85, h⟩ := h
          refine XF.lift (pc2 := 87) (ls2 := [some (.ref 69), some (.int x1), some (.int x2)]) (st2 := [.int x1]) (I2 := (wI (wI I 89 x2.toNatClampNeg 0) 90 ((400 * x2) + (I 69 22)).toNatClampNeg ((wI I 89 x2.toNatClampNeg 0) 89 x2.toNatClampNeg))) ?_ (fun r I' hk => by
              refine XW.icmp_le eX10_tells_47 (fun _ => ?_) (fun z => absurd c_47 z)
              refine XW.iconst (v := 0) eX10_tells_63 (by decide) ?_
              refine XW.bastore eX10_tells_64 (sa_89 hs) q_25 rfl ?_
              refine XW.aload_n eX10_tells_65 rfl ?_
              refine XW.getR (b := 90) eX10_tells_66 f10_81_10 rfl (so_69 hs) (sr_69_28 hs) ?_
              refine XW.sipush (v := 400) eX10_tells_69 (by decide) ?_
              refine XW.iload_n eX10_tells_72 rfl ?_
              refine XW.imul eX10_tells_73 ?_
              refine XW.aload_n eX10_tells_74 rfl ?_
              refine XW.getI eX10_tells_75 f10_148_10 rfl (so_69 hs) ?_
              refine XW.iadd eX10_tells_78 ?_
              refine XW.aload_n eX10_tells_79 rfl ?_
              refine XW.getR (b := 89) eX10_tells_80 f10_78_10 rfl (so_69 hs) (sr_69_27 hs) ?_
              refine XW.iload_n eX10_tells_83 rfl ?_
              refine XW.baload eX10_tells_84 (sa_89 hs) q_25 ?_
              refine XW.bastore eX10_tells_85 (sa_90 hs) q_85 (nar01 b_85) ?_
              refine XW.iload_n eX10_tells_86 rfl ?_
              exact hk)
          obtain ⟨ht, hf⟩ := h
          refine XF.br (P := x1 = 0) (fun c_87 => ?_) (fun c_87 => ?_)
          ·
            replace h := ht c_87
            refine XF.lift (pc2 := 2) (ls2 := [some (.ref 69), some (.int x1), some (.int (x2 + 1))]) (st2 := []) (I2 := (wI (wI I 89 x2.toNatClampNeg 0) 90 ((400 * x2) + (I 69 22)).toNatClampNeg ((wI I 89 x2.toNatClampNeg 0) 89 x2.toNatClampNeg))) ?_ (fun r I' hk => by
                refine XW.if_eq eX10_tells_87 (fun _ => ?_) (fun z => absurd c_87 z)
                refine XW.iinc (y := (x2 + 1)) (ls' := [some (.ref 69), some (.int x1), some (.int (x2 + 1))]) eX10_tells_111 rfl rfl rfl ?_
                refine XW.goto eX10_tells_114 ?_
                exact hk)
            exact h
          ·
            replace h := hf c_87
            refine XF.lift (pc2 := 2) (ls2 := [some (.ref 69), some (.int x1), some (.int (x2 + 1))]) (st2 := []) (I2 := (wI (wI (wI I 89 x2.toNatClampNeg 0) 90 ((400 * x2) + (I 69 22)).toNatClampNeg ((wI I 89 x2.toNatClampNeg 0) 89 x2.toNatClampNeg)) 95 ((400 * x2) + (I 69 22)).toNatClampNeg (I 86 x2.toNatClampNeg))) ?_ (fun r I' hk => by
                refine XW.if_eq eX10_tells_87 (fun z => absurd z c_87) (fun _ => ?_)
                refine XW.aload_n eX10_tells_90 rfl ?_
                refine XW.getR (b := 95) eX10_tells_91 f10_96_10 rfl (so_69 hs) (sr_69_33 hs) ?_
                refine XW.sipush (v := 400) eX10_tells_94 (by decide) ?_
                refine XW.iload_n eX10_tells_97 rfl ?_
                refine XW.imul eX10_tells_98 ?_
                refine XW.aload_n eX10_tells_99 rfl ?_
                refine XW.getI eX10_tells_100 f10_148_10 rfl (so_69 hs) ?_
                refine XW.iadd eX10_tells_103 ?_
                refine XW.aload_n eX10_tells_104 rfl ?_
                refine XW.getR (b := 86) eX10_tells_105 f10_69_10 rfl (so_69 hs) (sr_69_24 hs) ?_
                refine XW.iload_n eX10_tells_108 rfl ?_
                refine XW.iaload eX10_tells_109 (sa_86 hs) q_25 ?_
                refine XW.iastore eX10_tells_110 (sa_95 hs) q_85 ?_
                refine XW.iinc (y := (x2 + 1)) (ls' := [some (.ref 69), some (.int x1), some (.int (x2 + 1))]) eX10_tells_111 rfl rfl rfl ?_
                refine XW.goto eX10_tells_114 ?_
                exact hk)
            exact h
        ·
          replace h := hf c_47
          refine XF.lift (pc2 := 56) (ls2 := [some (.ref 69), some (.int x1), some (.int x2)]) (st2 := [.int (I 89 x2.toNatClampNeg), .int x2, .ref 89]) (I2 := I) ?_ (fun r I' hk => by
              refine XW.icmp_le eX10_tells_47 (fun z => absurd z c_47) (fun _ => ?_)
              refine XW.aload_n eX10_tells_50 rfl ?_
              refine XW.getR (b := 89) eX10_tells_51 f10_78_10 rfl (so_69 hs) (sr_69_27 hs) ?_
              refine XW.iload_n eX10_tells_54 rfl ?_
              refine XW.baload eX10_tells_55 (sa_89 hs) q_25 ?_
              exact hk)
          obtain ⟨ht, hf⟩ := h
          refine XF.br (P := (I 89 x2.toNatClampNeg) = 0) (fun c_56 => ?_) (fun c_56 => ?_)
          ·
            replace h := ht c_56
            obtain ⟨q_85, h⟩ := h
            obtain ⟨b_85, h⟩ := h
            refine XF.lift (pc2 := 87) (ls2 := [some (.ref 69), some (.int x1), some (.int x2)]) (st2 := [.int x1]) (I2 := (wI (wI I 89 x2.toNatClampNeg 0) 90 ((400 * x2) + (I 69 22)).toNatClampNeg ((wI I 89 x2.toNatClampNeg 0) 89 x2.toNatClampNeg))) ?_ (fun r I' hk => by
                refine XW.if_eq eX10_tells_56 (fun _ => ?_) (fun z => absurd c_56 z)
                refine XW.iconst (v := 0) eX10_tells_63 (by decide) ?_
                refine XW.bastore eX10_tells_64 (sa_89 hs) q_25 rfl ?_
                refine XW.aload_n eX10_tells_65 rfl ?_
                refine XW.getR (b := 90) eX10_tells_66 f10_81_10 rfl (so_69 hs) (sr_69_28 hs) ?_
                refine XW.sipush (v := 400) eX10_tells_69 (by decide) ?_
                refine XW.iload_n eX10_tells_72 rfl ?_
                refine XW.imul eX10_tells_73 ?_
                refine XW.aload_n eX10_tells_74 rfl ?_
                refine XW.getI eX10_tells_75 f10_148_10 rfl (so_69 hs) ?_
                refine XW.iadd eX10_tells_78 ?_
                refine XW.aload_n eX10_tells_79 rfl ?_
                refine XW.getR (b := 89) eX10_tells_80 f10_78_10 rfl (so_69 hs) (sr_69_27 hs) ?_
                refine XW.iload_n eX10_tells_83 rfl ?_
                refine XW.baload eX10_tells_84 (sa_89 hs) q_25 ?_
                refine XW.bastore eX10_tells_85 (sa_90 hs) q_85 (nar01 b_85) ?_
                refine XW.iload_n eX10_tells_86 rfl ?_
                exact hk)
            obtain ⟨ht, hf⟩ := h
            refine XF.br (P := x1 = 0) (fun c_87 => ?_) (fun c_87 => ?_)
            ·
              replace h := ht c_87
              refine XF.lift (pc2 := 2) (ls2 := [some (.ref 69), some (.int x1), some (.int (x2 + 1))]) (st2 := []) (I2 := (wI (wI I 89 x2.toNatClampNeg 0) 90 ((400 * x2) + (I 69 22)).toNatClampNeg ((wI I 89 x2.toNatClampNeg 0) 89 x2.toNatClampNeg))) ?_ (fun r I' hk => by
                  refine XW.if_eq eX10_tells_87 (fun _ => ?_) (fun z => absurd c_87 z)
                  refine XW.iinc (y := (x2 + 1)) (ls' := [some (.ref 69), some (.int x1), some (.int (x2 + 1))]) eX10_tells_111 rfl rfl rfl ?_
                  refine XW.goto eX10_tells_114 ?_
                  exact hk)
              exact h
            ·
              replace h := hf c_87
              refine XF.lift (pc2 := 2) (ls2 := [some (.ref 69), some (.int x1), some (.int (x2 + 1))]) (st2 := []) (I2 := (wI (wI (wI I 89 x2.toNatClampNeg 0) 90 ((400 * x2) + (I 69 22)).toNatClampNeg ((wI I 89 x2.toNatClampNeg 0) 89 x2.toNatClampNeg)) 95 ((400 * x2) + (I 69 22)).toNatClampNeg (I 86 x2.toNatClampNeg))) ?_ (fun r I' hk => by
                  refine XW.if_eq eX10_tells_87 (fun z => absurd z c_87) (fun _ => ?_)
                  refine XW.aload_n eX10_tells_90 rfl ?_
                  refine XW.getR (b := 95) eX10_tells_91 f10_96_10 rfl (so_69 hs) (sr_69_33 hs) ?_
                  refine XW.sipush (v := 400) eX10_tells_94 (by decide) ?_
                  refine XW.iload_n eX10_tells_97 rfl ?_
                  refine XW.imul eX10_tells_98 ?_
                  refine XW.aload_n eX10_tells_99 rfl ?_
                  refine XW.getI eX10_tells_100 f10_148_10 rfl (so_69 hs) ?_
                  refine XW.iadd eX10_tells_103 ?_
                  refine XW.aload_n eX10_tells_104 rfl ?_
                  refine XW.getR (b := 86) eX10_tells_105 f10_69_10 rfl (so_69 hs) (sr_69_24 hs) ?_
                  refine XW.iload_n eX10_tells_108 rfl ?_
                  refine XW.iaload eX10_tells_109 (sa_86 hs) q_25 ?_
                  refine XW.iastore eX10_tells_110 (sa_95 hs) q_85 ?_
                  refine XW.iinc (y := (x2 + 1)) (ls' := [some (.ref 69), some (.int x1), some (.int (x2 + 1))]) eX10_tells_111 rfl rfl rfl ?_
                  refine XW.goto eX10_tells_114 ?_
                  exact hk)
              exact h
          ·
            replace h := hf c_56
            obtain ⟨q_85, h⟩ := h
            obtain ⟨b_85, h⟩ := h
            refine XF.lift (pc2 := 87) (ls2 := [some (.ref 69), some (.int x1), some (.int x2)]) (st2 := [.int x1]) (I2 := (wI (wI I 89 x2.toNatClampNeg 1) 90 ((400 * x2) + (I 69 22)).toNatClampNeg ((wI I 89 x2.toNatClampNeg 1) 89 x2.toNatClampNeg))) ?_ (fun r I' hk => by
                refine XW.if_eq eX10_tells_56 (fun z => absurd z c_56) (fun _ => ?_)
                refine XW.iconst (v := 1) eX10_tells_59 (by decide) ?_
                refine XW.goto eX10_tells_60 ?_
                refine XW.bastore eX10_tells_64 (sa_89 hs) q_25 rfl ?_
                refine XW.aload_n eX10_tells_65 rfl ?_
                refine XW.getR (b := 90) eX10_tells_66 f10_81_10 rfl (so_69 hs) (sr_69_28 hs) ?_
                refine XW.sipush (v := 400) eX10_tells_69 (by decide) ?_
                refine XW.iload_n eX10_tells_72 rfl ?_
                refine XW.imul eX10_tells_73 ?_
                refine XW.aload_n eX10_tells_74 rfl ?_
                refine XW.getI eX10_tells_75 f10_148_10 rfl (so_69 hs) ?_
                refine XW.iadd eX10_tells_78 ?_
                refine XW.aload_n eX10_tells_79 rfl ?_
                refine XW.getR (b := 89) eX10_tells_80 f10_78_10 rfl (so_69 hs) (sr_69_27 hs) ?_
                refine XW.iload_n eX10_tells_83 rfl ?_
                refine XW.baload eX10_tells_84 (sa_89 hs) q_25 ?_
                refine XW.bastore eX10_tells_85 (sa_90 hs) q_85 (nar01 b_85) ?_
                refine XW.iload_n eX10_tells_86 rfl ?_
                exact hk)
            obtain ⟨ht, hf⟩ := h
            refine XF.br (P := x1 = 0) (fun c_87 => ?_) (fun c_87 => ?_)
            ·
              replace h := ht c_87
              refine XF.lift (pc2 := 2) (ls2 := [some (.ref 69), some (.int x1), some (.int (x2 + 1))]) (st2 := []) (I2 := (wI (wI I 89 x2.toNatClampNeg 1) 90 ((400 * x2) + (I 69 22)).toNatClampNeg ((wI I 89 x2.toNatClampNeg 1) 89 x2.toNatClampNeg))) ?_ (fun r I' hk => by
                  refine XW.if_eq eX10_tells_87 (fun _ => ?_) (fun z => absurd c_87 z)
                  refine XW.iinc (y := (x2 + 1)) (ls' := [some (.ref 69), some (.int x1), some (.int (x2 + 1))]) eX10_tells_111 rfl rfl rfl ?_
                  refine XW.goto eX10_tells_114 ?_
                  exact hk)
              exact h
            ·
              replace h := hf c_87
              refine XF.lift (pc2 := 2) (ls2 := [some (.ref 69), some (.int x1), some (.int (x2 + 1))]) (st2 := []) (I2 := (wI (wI (wI I 89 x2.toNatClampNeg 1) 90 ((400 * x2) + (I 69 22)).toNatClampNeg ((wI I 89 x2.toNatClampNeg 1) 89 x2.toNatClampNeg)) 95 ((400 * x2) + (I 69 22)).toNatClampNeg (I 86 x2.toNatClampNeg))) ?_ (fun r I' hk => by
                  refine XW.if_eq eX10_tells_87 (fun z => absurd z c_87) (fun _ => ?_)
                  refine XW.aload_n eX10_tells_90 rfl ?_
                  refine XW.getR (b := 95) eX10_tells_91 f10_96_10 rfl (so_69 hs) (sr_69_33 hs) ?_
                  refine XW.sipush (v := 400) eX10_tells_94 (by decide) ?_
                  refine XW.iload_n eX10_tells_97 rfl ?_
                  refine XW.imul eX10_tells_98 ?_
                  refine XW.aload_n eX10_tells_99 rfl ?_
                  refine XW.getI eX10_tells_100 f10_148_10 rfl (so_69 hs) ?_
                  refine XW.iadd eX10_tells_103 ?_
                  refine XW.aload_n eX10_tells_104 rfl ?_
                  refine XW.getR (b := 86) eX10_tells_105 f10_69_10 rfl (so_69 hs) (sr_69_24 hs) ?_
                  refine XW.iload_n eX10_tells_108 rfl ?_
                  refine XW.iaload eX10_tells_109 (sa_86 hs) q_25 ?_
                  refine XW.iastore eX10_tells_110 (sa_95 hs) q_85 ?_
                  refine XW.iinc (y := (x2 + 1)) (ls' := [some (.ref 69), some (.int x1), some (.int (x2 + 1))]) eX10_tells_111 rfl rfl rfl ?_
                  refine XW.goto eX10_tells_114 ?_
                  exact hk)
              exact h
set_option maxRecDepth 100000 in
set_option maxHeartbeats 4000000 in
theorem VX10_go {l : Launch} {C : xC} {G : xG} (hs : SH G)  (I : xI) (y1 y2 y3 y4 y5 : Int32) {Q : Unit → xI → Prop} (h :
    (y4 = 0 ∨ y4 = 1) ∧ XF fV l C mX10_go 24 [some (.ref 69), some (.int y1), some (.int y2), some (.int y3), some (.int y4), some (.int y5), some (.int 0)] [] G (wI (wI (wI (wI I 69 18 y1) 69 19 y2) 69 20 y3) 69 21 y4) Q) : XF fV l C mX10_go 0 (xent mX10_go [.ref 69, .int y1, .int y2, .int y3, .int y4, .int y5]) [] G I Q := by
  show XF fV l C mX10_go 0 [some (.ref 69), some (.int y1), some (.int y2), some (.int y3), some (.int y4), some (.int y5), none] [] G I Q
  obtain ⟨b_18, h⟩ := h
  refine XF.lift (pc2 := 24) (ls2 := [some (.ref 69), some (.int y1), some (.int y2), some (.int y3), some (.int y4), some (.int y5), some (.int 0)]) (st2 := []) (I2 := (wI (wI (wI (wI I 69 18 y1) 69 19 y2) 69 20 y3) 69 21 y4)) ?_ (fun r I' hk => by
      refine XW.aload_n eX10_go_0 rfl ?_
      refine XW.iload_n eX10_go_1 rfl ?_
      refine XW.putI eX10_go_2 f10_170_10 (xP_of rfl (by decide)) rfl ⟨rfl, rfl⟩ (so_69 hs) ?_
      refine XW.aload_n eX10_go_5 rfl ?_
      refine XW.iload_n eX10_go_6 rfl ?_
      refine XW.putI eX10_go_7 f10_154_10 (xP_of rfl (by decide)) rfl ⟨rfl, rfl⟩ (so_69 hs) ?_
      refine XW.aload_n eX10_go_10 rfl ?_
      refine XW.iload_n eX10_go_11 rfl ?_
      refine XW.putI eX10_go_12 f10_157_10 (xP_of rfl (by decide)) rfl ⟨rfl, rfl⟩ (so_69 hs) ?_
      refine XW.aload_n eX10_go_15 rfl ?_
      refine XW.iload eX10_go_16 rfl ?_
      refine XW.putI eX10_go_18 f10_144_10 (xP_of rfl (by decide)) rfl ⟨(nar01 b_18), (fit01 b_18)⟩ (so_69 hs) ?_
      refine XW.iconst (v := 0) eX10_go_21 (by decide) ?_
      refine XW.istore (ls' := [some (.ref 69), some (.int y1), some (.int y2), some (.int y3), some (.int y4), some (.int y5), some (.int 0)]) eX10_go_22 (Nat.le_of_ble_eq_true rfl) rfl ?_
      exact hk)
  exact h
set_option maxRecDepth 100000 in
set_option maxHeartbeats 4000000 in
theorem VX10_go_24 {l : Launch} {C : xC} {G : xG} (hs : SH G)  (I : xI) (x1 x2 x3 x4 x5 x6 : Int32) {Q : Unit → xI → Prop} (h :
    ((4 ≤ x6 → XF fV l C mX10_go 71 [some (.ref 69), some (.int x1), some (.int x2), some (.int x3), some (.int x4), some (.int x5), some (.int 0)] [] G I Q) ∧ (¬ (4 ≤ x6) → vp_in x6 4 ∧ XF fV l C mX10_go 24 [some (.ref 69), some (.int x1), some (.int x2), some (.int x3), some (.int x4), some (.int x5), some (.int (x6 + 1))] [] G (wI (wI (wI (wI I 86 x6.toNatClampNeg 0) 87 x6.toNatClampNeg 0) 88 x6.toNatClampNeg 0) 89 x6.toNatClampNeg 0) Q))) : XF fV l C mX10_go 24 [some (.ref 69), some (.int x1), some (.int x2), some (.int x3), some (.int x4), some (.int x5), some (.int x6)] [] G I Q := by
  refine XF.lift (pc2 := 27) (ls2 := [some (.ref 69), some (.int x1), some (.int x2), some (.int x3), some (.int x4), some (.int x5), some (.int x6)]) (st2 := [.int 4, .int x6]) (I2 := I) ?_ (fun r I' hk => by
      refine XW.iload eX10_go_24 rfl ?_
      refine XW.iconst (v := 4) eX10_go_26 (by decide) ?_
      exact hk)
  obtain ⟨ht, hf⟩ := h
  refine XF.br (P := 4 ≤ x6) (fun c_27 => ?_) (fun c_27 => ?_)
  ·
    replace h := ht c_27
    refine XF.lift (pc2 := 71) (ls2 := [some (.ref 69), some (.int x1), some (.int x2), some (.int x3), some (.int x4), some (.int x5), some (.int 0)]) (st2 := []) (I2 := I) ?_ (fun r I' hk => by
        refine XW.icmp_ge eX10_go_27 (fun _ => ?_) (fun z => absurd c_27 z)
        refine XW.iconst (v := 0) eX10_go_68 (by decide) ?_
        refine XW.istore (ls' := [some (.ref 69), some (.int x1), some (.int x2), some (.int x3), some (.int x4), some (.int x5), some (.int 0)]) eX10_go_69 (Nat.le_of_ble_eq_true rfl) rfl ?_
        exact hk)
    exact h
  ·
    replace h := hf c_27
    obtain ⟨q_37, h⟩ := h
    refine XF.lift (pc2 := 24) (ls2 := [some (.ref 69), some (.int x1), some (.int x2), some (.int x3), some (.int x4), some (.int x5), some (.int (x6 + 1))]) (st2 := []) (I2 := (wI (wI (wI (wI I 86 x6.toNatClampNeg 0) 87 x6.toNatClampNeg 0) 88 x6.toNatClampNeg 0) 89 x6.toNatClampNeg 0)) ?_ (fun r I' hk => by
        refine XW.icmp_ge eX10_go_27 (fun z => absurd z c_27) (fun _ => ?_)
        refine XW.aload_n eX10_go_30 rfl ?_
        refine XW.getR (b := 86) eX10_go_31 f10_69_10 rfl (so_69 hs) (sr_69_24 hs) ?_
        refine XW.iload eX10_go_34 rfl ?_
        refine XW.iconst (v := 0) eX10_go_36 (by decide) ?_
        refine XW.iastore eX10_go_37 (sa_86 hs) q_37 ?_
        refine XW.aload_n eX10_go_38 rfl ?_
        refine XW.getR (b := 87) eX10_go_39 f10_72_10 rfl (so_69 hs) (sr_69_25 hs) ?_
        refine XW.iload eX10_go_42 rfl ?_
        refine XW.iconst (v := 0) eX10_go_44 (by decide) ?_
        refine XW.iastore eX10_go_45 (sa_87 hs) q_37 ?_
        refine XW.aload_n eX10_go_46 rfl ?_
        refine XW.getR (b := 88) eX10_go_47 f10_75_10 rfl (so_69 hs) (sr_69_26 hs) ?_
        refine XW.iload eX10_go_50 rfl ?_
        refine XW.iconst (v := 0) eX10_go_52 (by decide) ?_
        refine XW.iastore eX10_go_53 (sa_88 hs) q_37 ?_
        refine XW.aload_n eX10_go_54 rfl ?_
        refine XW.getR (b := 89) eX10_go_55 f10_78_10 rfl (so_69 hs) (sr_69_27 hs) ?_
        refine XW.iload eX10_go_58 rfl ?_
        refine XW.iconst (v := 0) eX10_go_60 (by decide) ?_
        refine XW.bastore eX10_go_61 (sa_89 hs) q_37 rfl ?_
        refine XW.iinc (y := (x6 + 1)) (ls' := [some (.ref 69), some (.int x1), some (.int x2), some (.int x3), some (.int x4), some (.int x5), some (.int (x6 + 1))]) eX10_go_62 rfl rfl rfl ?_
        refine XW.goto eX10_go_65 ?_
        exact hk)
    exact h
set_option maxRecDepth 100000 in
set_option maxHeartbeats 4000000 in
theorem VX10_go_71 {l : Launch} {C : xC} {G : xG} (hs : SH G)  (I : xI) (x1 x2 x3 x4 x5 x6 : Int32) {Q : Unit → xI → Prop} (h :
    ((5 ≤ x6 → XF fV l C mX10_go 94 [some (.ref 69), some (.int x1), some (.int x2), some (.int x3), some (.int x4), some (.int x5), some (.int 0)] [] G I Q) ∧ (¬ (5 ≤ x6) → vp_in x6 5 ∧ XF fV l C mX10_go 71 [some (.ref 69), some (.int x1), some (.int x2), some (.int x3), some (.int x4), some (.int x5), some (.int (x6 + 1))] [] G (wI I 94 x6.toNatClampNeg 0) Q))) : XF fV l C mX10_go 71 [some (.ref 69), some (.int x1), some (.int x2), some (.int x3), some (.int x4), some (.int x5), some (.int x6)] [] G I Q := by
  refine XF.lift (pc2 := 74) (ls2 := [some (.ref 69), some (.int x1), some (.int x2), some (.int x3), some (.int x4), some (.int x5), some (.int x6)]) (st2 := [.int 5, .int x6]) (I2 := I) ?_ (fun r I' hk => by
      refine XW.iload eX10_go_71 rfl ?_
      refine XW.iconst (v := 5) eX10_go_73 (by decide) ?_
      exact hk)
  obtain ⟨ht, hf⟩ := h
  refine XF.br (P := 5 ≤ x6) (fun c_74 => ?_) (fun c_74 => ?_)
  ·
    replace h := ht c_74
    refine XF.lift (pc2 := 94) (ls2 := [some (.ref 69), some (.int x1), some (.int x2), some (.int x3), some (.int x4), some (.int x5), some (.int 0)]) (st2 := []) (I2 := I) ?_ (fun r I' hk => by
        refine XW.icmp_ge eX10_go_74 (fun _ => ?_) (fun z => absurd c_74 z)
        refine XW.iconst (v := 0) eX10_go_91 (by decide) ?_
        refine XW.istore (ls' := [some (.ref 69), some (.int x1), some (.int x2), some (.int x3), some (.int x4), some (.int x5), some (.int 0)]) eX10_go_92 (Nat.le_of_ble_eq_true rfl) rfl ?_
        exact hk)
    exact h
  ·
    replace h := hf c_74
    obtain ⟨q_84, h⟩ := h
    refine XF.lift (pc2 := 71) (ls2 := [some (.ref 69), some (.int x1), some (.int x2), some (.int x3), some (.int x4), some (.int x5), some (.int (x6 + 1))]) (st2 := []) (I2 := (wI I 94 x6.toNatClampNeg 0)) ?_ (fun r I' hk => by
        refine XW.icmp_ge eX10_go_74 (fun z => absurd z c_74) (fun _ => ?_)
        refine XW.aload_n eX10_go_77 rfl ?_
        refine XW.getR (b := 94) eX10_go_78 f10_93_10 rfl (so_69 hs) (sr_69_32 hs) ?_
        refine XW.iload eX10_go_81 rfl ?_
        refine XW.iconst (v := 0) eX10_go_83 (by decide) ?_
        refine XW.iastore eX10_go_84 (sa_94 hs) q_84 ?_
        refine XW.iinc (y := (x6 + 1)) (ls' := [some (.ref 69), some (.int x1), some (.int x2), some (.int x3), some (.int x4), some (.int x5), some (.int (x6 + 1))]) eX10_go_85 rfl rfl rfl ?_
        refine XW.goto eX10_go_88 ?_
        exact hk)
    exact h
set_option maxRecDepth 100000 in
set_option maxHeartbeats 4000000 in
theorem VX10_go_94 {l : Launch} {C : xC} {G : xG} (hs : SH G)  (I : xI) (x1 x2 x3 x4 x5 x6 : Int32) {Q : Unit → xI → Prop} (h :
    ((80 ≤ x6 → XF fV l C mX10_go 142 [some (.ref 69), some (.int x1), some (.int x2), some (.int x3), some (.int x4), some (.int x5), some (.int 0)] [] G (wI I 69 22 0) Q) ∧ (¬ (80 ≤ x6) → vp_in x6 80 ∧ XF fV l C mX10_go 94 [some (.ref 69), some (.int x1), some (.int x2), some (.int x3), some (.int x4), some (.int x5), some (.int (x6 + 1))] [] G (wI (wI (wI I 91 x6.toNatClampNeg 3) 92 x6.toNatClampNeg 400) 93 x6.toNatClampNeg (-2)) Q))) : XF fV l C mX10_go 94 [some (.ref 69), some (.int x1), some (.int x2), some (.int x3), some (.int x4), some (.int x5), some (.int x6)] [] G I Q := by
  refine XF.lift (pc2 := 98) (ls2 := [some (.ref 69), some (.int x1), some (.int x2), some (.int x3), some (.int x4), some (.int x5), some (.int x6)]) (st2 := [.int 80, .int x6]) (I2 := I) ?_ (fun r I' hk => by
      refine XW.iload eX10_go_94 rfl ?_
      refine XW.bipush (v := 80) eX10_go_96 (by decide) ?_
      exact hk)
  obtain ⟨ht, hf⟩ := h
  refine XF.br (P := 80 ≤ x6) (fun c_98 => ?_) (fun c_98 => ?_)
  ·
    replace h := ht c_98
    refine XF.lift (pc2 := 142) (ls2 := [some (.ref 69), some (.int x1), some (.int x2), some (.int x3), some (.int x4), some (.int x5), some (.int 0)]) (st2 := []) (I2 := (wI I 69 22 0)) ?_ (fun r I' hk => by
        refine XW.icmp_ge eX10_go_98 (fun _ => ?_) (fun z => absurd c_98 z)
        refine XW.aload_n eX10_go_134 rfl ?_
        refine XW.iconst (v := 0) eX10_go_135 (by decide) ?_
        refine XW.putI eX10_go_136 f10_148_10 (xP_of rfl (by decide)) rfl ⟨rfl, rfl⟩ (so_69 hs) ?_
        refine XW.iconst (v := 0) eX10_go_139 (by decide) ?_
        refine XW.istore (ls' := [some (.ref 69), some (.int x1), some (.int x2), some (.int x3), some (.int x4), some (.int x5), some (.int 0)]) eX10_go_140 (Nat.le_of_ble_eq_true rfl) rfl ?_
        exact hk)
    exact h
  ·
    replace h := hf c_98
    obtain ⟨q_108, h⟩ := h
    refine XF.lift (pc2 := 94) (ls2 := [some (.ref 69), some (.int x1), some (.int x2), some (.int x3), some (.int x4), some (.int x5), some (.int (x6 + 1))]) (st2 := []) (I2 := (wI (wI (wI I 91 x6.toNatClampNeg 3) 92 x6.toNatClampNeg 400) 93 x6.toNatClampNeg (-2))) ?_ (fun r I' hk => by
        refine XW.icmp_ge eX10_go_98 (fun z => absurd z c_98) (fun _ => ?_)
        refine XW.aload_n eX10_go_101 rfl ?_
        refine XW.getR (b := 91) eX10_go_102 f10_84_10 rfl (so_69 hs) (sr_69_29 hs) ?_
        refine XW.iload eX10_go_105 rfl ?_
        refine XW.iconst (v := 3) eX10_go_107 (by decide) ?_
        refine XW.iastore eX10_go_108 (sa_91 hs) q_108 ?_
        refine XW.aload_n eX10_go_109 rfl ?_
        refine XW.getR (b := 92) eX10_go_110 f10_87_10 rfl (so_69 hs) (sr_69_30 hs) ?_
        refine XW.iload eX10_go_113 rfl ?_
        refine XW.sipush (v := 400) eX10_go_115 (by decide) ?_
        refine XW.iastore eX10_go_118 (sa_92 hs) q_108 ?_
        refine XW.aload_n eX10_go_119 rfl ?_
        refine XW.getR (b := 93) eX10_go_120 f10_90_10 rfl (so_69 hs) (sr_69_31 hs) ?_
        refine XW.iload eX10_go_123 rfl ?_
        refine XW.bipush (v := (-2)) eX10_go_125 (by decide) ?_
        refine XW.iastore eX10_go_127 (sa_93 hs) q_108 ?_
        refine XW.iinc (y := (x6 + 1)) (ls' := [some (.ref 69), some (.int x1), some (.int x2), some (.int x3), some (.int x4), some (.int x5), some (.int (x6 + 1))]) eX10_go_128 rfl rfl rfl ?_
        refine XW.goto eX10_go_131 ?_
        exact hk)
    exact h
set_option maxRecDepth 100000 in
set_option maxHeartbeats 4000000 in
theorem VX10_go_142 {l : Launch} {C : xC} {G : xG} (hs : SH G)  (I : xI) (x1 x2 x3 x4 x5 x6 : Int32) {Q : Unit → xI → Prop} (h :
    ((400 ≤ (I 69 22) → Q () I) ∧ (¬ (400 ≤ (I 69 22)) → (∃ Qc : Int32 → xI → Prop, XF fI l C mX10_isLeft 0 (xent mX10_isLeft [.ref 69]) [] G I Qc ∧ ∀ (v_153 : Int32) (I_153 : xI), Qc v_153 I_153 → ((v_153 = 0 → Q () I_153) ∧ (¬ (v_153 = 0) → (∃ Qc : Unit → xI → Prop, XF fV l C mX10_senders 0 (xent mX10_senders [.ref 69]) [] G I_153 Qc ∧ ∀ (u_160 : Unit) (I_160 : xI), Qc u_160 I_160 → XF fV l C mX10_go 163 [some (.ref 69), some (.int x1), some (.int x2), some (.int x3), some (.int x4), some (.int x5), some (.int x6)] [] G I_160 Q))))))) : XF fV l C mX10_go 142 [some (.ref 69), some (.int x1), some (.int x2), some (.int x3), some (.int x4), some (.int x5), some (.int x6)] [] G I Q := by
  refine XF.lift (pc2 := 149) (ls2 := [some (.ref 69), some (.int x1), some (.int x2), some (.int x3), some (.int x4), some (.int x5), some (.int x6)]) (st2 := [.int 400, .int (I 69 22)]) (I2 := I) ?_ (fun r I' hk => by
      refine XW.aload_n eX10_go_142 rfl ?_
      refine XW.getI eX10_go_143 f10_148_10 rfl (so_69 hs) ?_
      refine XW.sipush (v := 400) eX10_go_146 (by decide) ?_
      exact hk)
  obtain ⟨ht, hf⟩ := h
  refine XF.br (P := 400 ≤ (I 69 22)) (fun c_149 => ?_) (fun c_149 => ?_)
  ·
    replace h := ht c_149
    refine XF.lift (pc2 := 256) (ls2 := [some (.ref 69), some (.int x1), some (.int x2), some (.int x3), some (.int x4), some (.int x5), some (.int x6)]) (st2 := []) (I2 := I) ?_ (fun r I' hk => by
        refine XW.icmp_ge eX10_go_149 (fun _ => ?_) (fun z => absurd c_149 z)
        exact hk)
    exact ⟨(), I, XW.vret eX10_go_256 rfl rfl rfl rfl, h⟩
  ·
    replace h := hf c_149
    refine XF.lift (pc2 := 153) (ls2 := [some (.ref 69), some (.int x1), some (.int x2), some (.int x3), some (.int x4), some (.int x5), some (.int x6)]) (st2 := [.ref 69]) (I2 := I) ?_ (fun r I' hk => by
        refine XW.icmp_ge eX10_go_149 (fun z => absurd z c_149) (fun _ => ?_)
        refine XW.aload_n eX10_go_152 rfl ?_
        exact hk)
    obtain ⟨Qc, hc, h⟩ := h
    refine XF.call (nx := 156) (st := []) hc (fun v I1 r I' hY hk => XW.callV (As := []) (st := []) eX10_go_153 okX10_isLeft cv10_188 rfl (so_69 hs) hY (xnum rfl rfl rfl rfl rfl) hk) (fun v_153 I_153 hq => ?_)
    replace h := h v_153 I_153 hq
    obtain ⟨ht, hf⟩ := h
    refine XF.br (P := v_153 = 0) (fun c_156 => ?_) (fun c_156 => ?_)
    ·
      replace h := ht c_156
      refine XF.lift (pc2 := 256) (ls2 := [some (.ref 69), some (.int x1), some (.int x2), some (.int x3), some (.int x4), some (.int x5), some (.int x6)]) (st2 := []) (I2 := I_153) ?_ (fun r I' hk => by
          refine XW.if_eq eX10_go_156 (fun _ => ?_) (fun z => absurd c_156 z)
          exact hk)
      exact ⟨(), I_153, XW.vret eX10_go_256 rfl rfl rfl rfl, h⟩
    ·
      replace h := hf c_156
      refine XF.lift (pc2 := 160) (ls2 := [some (.ref 69), some (.int x1), some (.int x2), some (.int x3), some (.int x4), some (.int x5), some (.int x6)]) (st2 := [.ref 69]) (I2 := I_153) ?_ (fun r I' hk => by
          refine XW.if_eq eX10_go_156 (fun z => absurd z c_156) (fun _ => ?_)
          refine XW.aload_n eX10_go_159 rfl ?_
          exact hk)
      obtain ⟨Qc, hc, h⟩ := h
      refine XF.call (nx := 163) (st := []) hc (fun v I1 r I' hY hk => XW.callV (As := []) (st := []) eX10_go_160 okX10_senders cv10_192 rfl (so_69 hs) hY (xnum rfl rfl rfl rfl rfl) hk) (fun _ I_160 hq => ?_)
      replace h := h () I_160 hq
      exact h
set_option maxRecDepth 100000 in
set_option maxHeartbeats 4000000 in
theorem VX10_go_163 {l : Launch} {C : xC} {G : xG} (hs : SH G)  (I : xI) (x1 x2 x3 x4 x5 x6 : Int32) {Q : Unit → xI → Prop} (h :
    vp_in (I 69 18) 4 ∧ (((I 81 (I 69 18).toNatClampNeg) ≤ x6 → (∃ Qc : Unit → xI → Prop, XF fV l C mX10_sends 0 (xent mX10_sends [.ref 69]) [] G I Qc ∧ ∀ (u_234 : Unit) (I_234 : xI), Qc u_234 I_234 → (∃ Qc : Unit → xI → Prop, XF fV l C mX10_tells 0 (xent mX10_tells [.ref 69, .int x5]) [] G I_234 Qc ∧ ∀ (u_240 : Unit) (I_240 : xI), Qc u_240 I_240 → XF fV l C mX10_go 142 [some (.ref 69), some (.int x1), some (.int x2), some (.int x3), some (.int x4), some (.int x5), some (.int x6)] [] G (wI I_240 69 22 ((I_240 69 22) + 1)) Q))) ∧ (¬ ((I 81 (I 69 18).toNatClampNeg) ≤ x6) → vp_in ((80 * (I 69 18)) + x6) 320 ∧ (((I 82 ((80 * (I 69 18)) + x6).toNatClampNeg) = (I 69 22) → (∃ Qc : Int32 → xI → Prop, XF fI l C mX10_isHeld 0 (xent mX10_isHeld [.ref 69, .int (I 83 ((80 * (I 69 18)) + x6).toNatClampNeg)]) [] G I Qc ∧ ∀ (v_215 : Int32) (I_215 : xI), Qc v_215 I_215 → ((v_215 = 0 → (∃ Qc : Unit → xI → Prop, XF fV l C mX10_comes 0 (xent mX10_comes [.ref 69, .int x6]) [] G I_215 Qc ∧ ∀ (u_224 : Unit) (I_224 : xI), Qc u_224 I_224 → XF fV l C mX10_go 163 [some (.ref 69), some (.int x1), some (.int x2), some (.int x3), some (.int x4), some (.int x5), some (.int (x6 + 1))] [] G I_224 Q)) ∧ (¬ (v_215 = 0) → XF fV l C mX10_go 163 [some (.ref 69), some (.int x1), some (.int x2), some (.int x3), some (.int x4), some (.int x5), some (.int (x6 + 1))] [] G I_215 Q)))) ∧ (¬ ((I 82 ((80 * (I 69 18)) + x6).toNatClampNeg) = (I 69 22)) → (∃ Qc : Unit → xI → Prop, XF fV l C mX10_sends 0 (xent mX10_sends [.ref 69]) [] G I Qc ∧ ∀ (u_234 : Unit) (I_234 : xI), Qc u_234 I_234 → (∃ Qc : Unit → xI → Prop, XF fV l C mX10_tells 0 (xent mX10_tells [.ref 69, .int x5]) [] G I_234 Qc ∧ ∀ (u_240 : Unit) (I_240 : xI), Qc u_240 I_240 → XF fV l C mX10_go 142 [some (.ref 69), some (.int x1), some (.int x2), some (.int x3), some (.int x4), some (.int x5), some (.int x6)] [] G (wI I_240 69 22 ((I_240 69 22) + 1)) Q))))))) : XF fV l C mX10_go 163 [some (.ref 69), some (.int x1), some (.int x2), some (.int x3), some (.int x4), some (.int x5), some (.int x6)] [] G I Q := by
  obtain ⟨q_173, h⟩ := h
  refine XF.lift (pc2 := 174) (ls2 := [some (.ref 69), some (.int x1), some (.int x2), some (.int x3), some (.int x4), some (.int x5), some (.int x6)]) (st2 := [.int (I 81 (I 69 18).toNatClampNeg), .int x6]) (I2 := I) ?_ (fun r I' hk => by
      refine XW.iload eX10_go_163 rfl ?_
      refine XW.aload_n eX10_go_165 rfl ?_
      refine XW.getR (b := 81) eX10_go_166 f10_53_10 rfl (so_69 hs) (sr_69_14 hs) ?_
      refine XW.aload_n eX10_go_169 rfl ?_
      refine XW.getI eX10_go_170 f10_170_10 rfl (so_69 hs) ?_
      refine XW.iaload eX10_go_173 (sa_81 hs) q_173 ?_
      exact hk)
  obtain ⟨ht, hf⟩ := h
  refine XF.br (P := (I 81 (I 69 18).toNatClampNeg) ≤ x6) (fun c_174 => ?_) (fun c_174 => ?_)
  ·
    replace h := ht c_174
    refine XF.lift (pc2 := 234) (ls2 := [some (.ref 69), some (.int x1), some (.int x2), some (.int x3), some (.int x4), some (.int x5), some (.int x6)]) (st2 := [.ref 69]) (I2 := I) ?_ (fun r I' hk => by
        refine XW.icmp_ge eX10_go_174 (fun _ => ?_) (fun z => absurd c_174 z)
        refine XW.aload_n eX10_go_233 rfl ?_
        exact hk)
    obtain ⟨Qc, hc, h⟩ := h
    refine XF.call (nx := 237) (st := []) hc (fun v I1 r I' hY hk => XW.callV (As := []) (st := []) eX10_go_234 okX10_sends cv10_195 rfl (so_69 hs) hY (xnum rfl rfl rfl rfl rfl) hk) (fun _ I_234 hq => ?_)
    replace h := h () I_234 hq
    refine XF.lift (pc2 := 240) (ls2 := [some (.ref 69), some (.int x1), some (.int x2), some (.int x3), some (.int x4), some (.int x5), some (.int x6)]) (st2 := [.int x5, .ref 69]) (I2 := I_234) ?_ (fun r I' hk => by
        refine XW.aload_n eX10_go_237 rfl ?_
        refine XW.iload eX10_go_238 rfl ?_
        exact hk)
    obtain ⟨Qc, hc, h⟩ := h
    refine XF.call (nx := 243) (st := []) hc (fun v I1 r I' hY hk => XW.callV (As := [.int x5]) (st := []) eX10_go_240 okX10_tells cv10_198 rfl (so_69 hs) hY (xnum rfl rfl rfl rfl rfl) hk) (fun _ I_240 hq => ?_)
    replace h := h () I_240 hq
    refine XF.lift (pc2 := 142) (ls2 := [some (.ref 69), some (.int x1), some (.int x2), some (.int x3), some (.int x4), some (.int x5), some (.int x6)]) (st2 := []) (I2 := (wI I_240 69 22 ((I_240 69 22) + 1))) ?_ (fun r I' hk => by
        refine XW.aload_n eX10_go_243 rfl ?_
        refine XW.dup eX10_go_244 rfl ?_
        refine XW.getI eX10_go_245 f10_148_10 rfl (so_69 hs) ?_
        refine XW.iconst (v := 1) eX10_go_248 (by decide) ?_
        refine XW.iadd eX10_go_249 ?_
        refine XW.putI eX10_go_250 f10_148_10 (xP_of rfl (by decide)) rfl ⟨rfl, rfl⟩ (so_69 hs) ?_
        refine XW.goto eX10_go_253 ?_
        exact hk)
    exact h
  ·
    replace h := hf c_174
    obtain ⟨q_191, h⟩ := h
    refine XF.lift (pc2 := 196) (ls2 := [some (.ref 69), some (.int x1), some (.int x2), some (.int x3), some (.int x4), some (.int x5), some (.int x6)]) (st2 := [.int (I 69 22), .int (I 82 ((80 * (I 69 18)) + x6).toNatClampNeg)]) (I2 := I) ?_ (fun r I' hk => by
        refine XW.icmp_ge eX10_go_174 (fun z => absurd z c_174) (fun _ => ?_)
        refine XW.aload_n eX10_go_177 rfl ?_
        refine XW.getR (b := 82) eX10_go_178 f10_56_10 rfl (so_69 hs) (sr_69_15 hs) ?_
        refine XW.bipush (v := 80) eX10_go_181 (by decide) ?_
        refine XW.aload_n eX10_go_183 rfl ?_
        refine XW.getI eX10_go_184 f10_170_10 rfl (so_69 hs) ?_
        refine XW.imul eX10_go_187 ?_
        refine XW.iload eX10_go_188 rfl ?_
        refine XW.iadd eX10_go_190 ?_
        refine XW.iaload eX10_go_191 (sa_82 hs) q_191 ?_
        refine XW.aload_n eX10_go_192 rfl ?_
        refine XW.getI eX10_go_193 f10_148_10 rfl (so_69 hs) ?_
        exact hk)
    obtain ⟨ht, hf⟩ := h
    refine XF.br (P := (I 82 ((80 * (I 69 18)) + x6).toNatClampNeg) = (I 69 22)) (fun c_196 => ?_) (fun c_196 => ?_)
    ·
      replace h := ht c_196
      refine XF.lift (pc2 := 215) (ls2 := [some (.ref 69), some (.int x1), some (.int x2), some (.int x3), some (.int x4), some (.int x5), some (.int x6)]) (st2 := [.int (I 83 ((80 * (I 69 18)) + x6).toNatClampNeg), .ref 69]) (I2 := I) ?_ (fun r I' hk => by
          refine XW.icmp_ne eX10_go_196 (fun z => absurd c_196 z) (fun _ => ?_)
          refine XW.aload_n eX10_go_199 rfl ?_
          refine XW.aload_n eX10_go_200 rfl ?_
          refine XW.getR (b := 83) eX10_go_201 f10_59_10 rfl (so_69 hs) (sr_69_16 hs) ?_
          refine XW.bipush (v := 80) eX10_go_204 (by decide) ?_
          refine XW.aload_n eX10_go_206 rfl ?_
          refine XW.getI eX10_go_207 f10_170_10 rfl (so_69 hs) ?_
          refine XW.imul eX10_go_210 ?_
          refine XW.iload eX10_go_211 rfl ?_
          refine XW.iadd eX10_go_213 ?_
          refine XW.iaload eX10_go_214 (sa_83 hs) q_191 ?_
          exact hk)
      obtain ⟨Qc, hc, h⟩ := h
      refine XF.call (nx := 218) (st := []) hc (fun v I1 r I' hY hk => XW.callV (As := [.int (I 83 ((80 * (I 69 18)) + x6).toNatClampNeg)]) (st := []) eX10_go_215 okX10_isHeld cv10_177 rfl (so_69 hs) hY (xnum rfl rfl rfl rfl rfl) hk) (fun v_215 I_215 hq => ?_)
      replace h := h v_215 I_215 hq
      obtain ⟨ht, hf⟩ := h
      refine XF.br (P := v_215 = 0) (fun c_218 => ?_) (fun c_218 => ?_)
      ·
        replace h := ht c_218
        refine XF.lift (pc2 := 224) (ls2 := [some (.ref 69), some (.int x1), some (.int x2), some (.int x3), some (.int x4), some (.int x5), some (.int x6)]) (st2 := [.int x6, .ref 69]) (I2 := I_215) ?_ (fun r I' hk => by
            refine XW.if_ne eX10_go_218 (fun z => absurd c_218 z) (fun _ => ?_)
            refine XW.aload_n eX10_go_221 rfl ?_
            refine XW.iload eX10_go_222 rfl ?_
            exact hk)
        obtain ⟨Qc, hc, h⟩ := h
        refine XF.call (nx := 227) (st := []) hc (fun v I1 r I' hY hk => XW.callV (As := [.int x6]) (st := []) eX10_go_224 okX10_comes cv10_184 rfl (so_69 hs) hY (xnum rfl rfl rfl rfl rfl) hk) (fun _ I_224 hq => ?_)
        replace h := h () I_224 hq
        refine XF.lift (pc2 := 163) (ls2 := [some (.ref 69), some (.int x1), some (.int x2), some (.int x3), some (.int x4), some (.int x5), some (.int (x6 + 1))]) (st2 := []) (I2 := I_224) ?_ (fun r I' hk => by
            refine XW.iinc (y := (x6 + 1)) (ls' := [some (.ref 69), some (.int x1), some (.int x2), some (.int x3), some (.int x4), some (.int x5), some (.int (x6 + 1))]) eX10_go_227 rfl rfl rfl ?_
            refine XW.goto eX10_go_230 ?_
            exact hk)
        exact h
      ·
        replace h := hf c_218
        refine XF.lift (pc2 := 163) (ls2 := [some (.ref 69), some (.int x1), some (.int x2), some (.int x3), some (.int x4), some (.int x5), some (.int (x6 + 1))]) (st2 := []) (I2 := I_215) ?_ (fun r I' hk => by
            refine XW.if_ne eX10_go_218 (fun _ => ?_) (fun z => absurd z c_218)
            refine XW.iinc (y := (x6 + 1)) (ls' := [some (.ref 69), some (.int x1), some (.int x2), some (.int x3), some (.int x4), some (.int x5), some (.int (x6 + 1))]) eX10_go_227 rfl rfl rfl ?_
            refine XW.goto eX10_go_230 ?_
            exact hk)
        exact h
    ·
      replace h := hf c_196
      refine XF.lift (pc2 := 234) (ls2 := [some (.ref 69), some (.int x1), some (.int x2), some (.int x3), some (.int x4), some (.int x5), some (.int x6)]) (st2 := [.ref 69]) (I2 := I) ?_ (fun r I' hk => by
          refine XW.icmp_ne eX10_go_196 (fun _ => ?_) (fun z => absurd z c_196)
          refine XW.aload_n eX10_go_233 rfl ?_
          exact hk)
      obtain ⟨Qc, hc, h⟩ := h
      refine XF.call (nx := 237) (st := []) hc (fun v I1 r I' hY hk => XW.callV (As := []) (st := []) eX10_go_234 okX10_sends cv10_195 rfl (so_69 hs) hY (xnum rfl rfl rfl rfl rfl) hk) (fun _ I_234 hq => ?_)
      replace h := h () I_234 hq
      refine XF.lift (pc2 := 240) (ls2 := [some (.ref 69), some (.int x1), some (.int x2), some (.int x3), some (.int x4), some (.int x5), some (.int x6)]) (st2 := [.int x5, .ref 69]) (I2 := I_234) ?_ (fun r I' hk => by
          refine XW.aload_n eX10_go_237 rfl ?_
          refine XW.iload eX10_go_238 rfl ?_
          exact hk)
      obtain ⟨Qc, hc, h⟩ := h
      refine XF.call (nx := 243) (st := []) hc (fun v I1 r I' hY hk => XW.callV (As := [.int x5]) (st := []) eX10_go_240 okX10_tells cv10_198 rfl (so_69 hs) hY (xnum rfl rfl rfl rfl rfl) hk) (fun _ I_240 hq => ?_)
      replace h := h () I_240 hq
      refine XF.lift (pc2 := 142) (ls2 := [some (.ref 69), some (.int x1), some (.int x2), some (.int x3), some (.int x4), some (.int x5), some (.int x6)]) (st2 := []) (I2 := (wI I_240 69 22 ((I_240 69 22) + 1))) ?_ (fun r I' hk => by
          refine XW.aload_n eX10_go_243 rfl ?_
          refine XW.dup eX10_go_244 rfl ?_
          refine XW.getI eX10_go_245 f10_148_10 rfl (so_69 hs) ?_
          refine XW.iconst (v := 1) eX10_go_248 (by decide) ?_
          refine XW.iadd eX10_go_249 ?_
          refine XW.putI eX10_go_250 f10_148_10 (xP_of rfl (by decide)) rfl ⟨rfl, rfl⟩ (so_69 hs) ?_
          refine XW.goto eX10_go_253 ?_
          exact hk)
      exact h
set_option maxRecDepth 100000 in
set_option maxHeartbeats 4000000 in
theorem VX10_countSent {l : Launch} {C : xC} {G : xG} (hs : SH G)  (I : xI) {Q : Int32 → xI → Prop} (h :
    XF fI l C mX10_countSent 4 [some (.ref 69), some (.int 0), some (.int 0)] [] G I Q) : XF fI l C mX10_countSent 0 (xent mX10_countSent [.ref 69]) [] G I Q := by
  show XF fI l C mX10_countSent 0 [some (.ref 69), none, none] [] G I Q
  refine XF.lift (pc2 := 4) (ls2 := [some (.ref 69), some (.int 0), some (.int 0)]) (st2 := []) (I2 := I) ?_ (fun r I' hk => by
      refine XW.iconst (v := 0) eX10_countSent_0 (by decide) ?_
      refine XW.istore_n (ls' := [some (.ref 69), some (.int 0), none]) eX10_countSent_1 (Nat.le_of_ble_eq_true rfl) rfl ?_
      refine XW.iconst (v := 0) eX10_countSent_2 (by decide) ?_
      refine XW.istore_n (ls' := [some (.ref 69), some (.int 0), some (.int 0)]) eX10_countSent_3 (Nat.le_of_ble_eq_true rfl) rfl ?_
      exact hk)
  exact h
set_option maxRecDepth 100000 in
set_option maxHeartbeats 4000000 in
theorem VX10_countSent_4 {l : Launch} {C : xC} {G : xG} (hs : SH G)  (I : xI) (x1 x2 : Int32) {Q : Int32 → xI → Prop} (h :
    vp_in (I 69 18) 4 ∧ (((I 81 (I 69 18).toNatClampNeg) ≤ x2 → Q x1 I) ∧ (¬ ((I 81 (I 69 18).toNatClampNeg) ≤ x2) → vp_in x2 80 ∧ (((I 91 x2.toNatClampNeg) = 0 → XF fI l C mX10_countSent 4 [some (.ref 69), some (.int (x1 + 1)), some (.int (x2 + 1))] [] G I Q) ∧ (¬ ((I 91 x2.toNatClampNeg) = 0) → XF fI l C mX10_countSent 4 [some (.ref 69), some (.int (x1 + 0)), some (.int (x2 + 1))] [] G I Q))))) : XF fI l C mX10_countSent 4 [some (.ref 69), some (.int x1), some (.int x2)] [] G I Q := by
  obtain ⟨q_13, h⟩ := h
  refine XF.lift (pc2 := 14) (ls2 := [some (.ref 69), some (.int x1), some (.int x2)]) (st2 := [.int (I 81 (I 69 18).toNatClampNeg), .int x2]) (I2 := I) ?_ (fun r I' hk => by
      refine XW.iload_n eX10_countSent_4 rfl ?_
      refine XW.aload_n eX10_countSent_5 rfl ?_
      refine XW.getR (b := 81) eX10_countSent_6 f10_53_10 rfl (so_69 hs) (sr_69_14 hs) ?_
      refine XW.aload_n eX10_countSent_9 rfl ?_
      refine XW.getI eX10_countSent_10 f10_170_10 rfl (so_69 hs) ?_
      refine XW.iaload eX10_countSent_13 (sa_81 hs) q_13 ?_
      exact hk)
  obtain ⟨ht, hf⟩ := h
  refine XF.br (P := (I 81 (I 69 18).toNatClampNeg) ≤ x2) (fun c_14 => ?_) (fun c_14 => ?_)
  ·
    replace h := ht c_14
    refine XF.lift (pc2 := 41) (ls2 := [some (.ref 69), some (.int x1), some (.int x2)]) (st2 := [.int x1]) (I2 := I) ?_ (fun r I' hk => by
        refine XW.icmp_ge eX10_countSent_14 (fun _ => ?_) (fun z => absurd c_14 z)
        refine XW.iload_n eX10_countSent_40 rfl ?_
        exact hk)
    exact ⟨x1, I, XW.iret eX10_countSent_41 rfl rfl rfl rfl rfl, h⟩
  ·
    replace h := hf c_14
    obtain ⟨q_23, h⟩ := h
    refine XF.lift (pc2 := 24) (ls2 := [some (.ref 69), some (.int x1), some (.int x2)]) (st2 := [.int (I 91 x2.toNatClampNeg), .int x1]) (I2 := I) ?_ (fun r I' hk => by
        refine XW.icmp_ge eX10_countSent_14 (fun z => absurd z c_14) (fun _ => ?_)
        refine XW.iload_n eX10_countSent_17 rfl ?_
        refine XW.aload_n eX10_countSent_18 rfl ?_
        refine XW.getR (b := 91) eX10_countSent_19 f10_84_10 rfl (so_69 hs) (sr_69_29 hs) ?_
        refine XW.iload_n eX10_countSent_22 rfl ?_
        refine XW.iaload eX10_countSent_23 (sa_91 hs) q_23 ?_
        exact hk)
    obtain ⟨ht, hf⟩ := h
    refine XF.br (P := (I 91 x2.toNatClampNeg) = 0) (fun c_24 => ?_) (fun c_24 => ?_)
    ·
      replace h := ht c_24
      refine XF.lift (pc2 := 4) (ls2 := [some (.ref 69), some (.int (x1 + 1)), some (.int (x2 + 1))]) (st2 := []) (I2 := I) ?_ (fun r I' hk => by
          refine XW.if_ne eX10_countSent_24 (fun z => absurd c_24 z) (fun _ => ?_)
          refine XW.iconst (v := 1) eX10_countSent_27 (by decide) ?_
          refine XW.goto eX10_countSent_28 ?_
          refine XW.iadd eX10_countSent_32 ?_
          refine XW.istore_n (ls' := [some (.ref 69), some (.int (x1 + 1)), some (.int x2)]) eX10_countSent_33 (Nat.le_of_ble_eq_true rfl) rfl ?_
          refine XW.iinc (y := (x2 + 1)) (ls' := [some (.ref 69), some (.int (x1 + 1)), some (.int (x2 + 1))]) eX10_countSent_34 rfl rfl rfl ?_
          refine XW.goto eX10_countSent_37 ?_
          exact hk)
      exact h
    ·
      replace h := hf c_24
      refine XF.lift (pc2 := 4) (ls2 := [some (.ref 69), some (.int (x1 + 0)), some (.int (x2 + 1))]) (st2 := []) (I2 := I) ?_ (fun r I' hk => by
          refine XW.if_ne eX10_countSent_24 (fun _ => ?_) (fun z => absurd z c_24)
          refine XW.iconst (v := 0) eX10_countSent_31 (by decide) ?_
          refine XW.iadd eX10_countSent_32 ?_
          refine XW.istore_n (ls' := [some (.ref 69), some (.int (x1 + 0)), some (.int x2)]) eX10_countSent_33 (Nat.le_of_ble_eq_true rfl) rfl ?_
          refine XW.iinc (y := (x2 + 1)) (ls' := [some (.ref 69), some (.int (x1 + 0)), some (.int (x2 + 1))]) eX10_countSent_34 rfl rfl rfl ?_
          refine XW.goto eX10_countSent_37 ?_
          exact hk)
      exact h
set_option maxRecDepth 100000 in
set_option maxHeartbeats 4000000 in
theorem VX10_run {l : Launch} {C : xC} {G : xG} (hs : SH G)  (I : xI) (y1 y2 : Int32) {Q : Int32 → xI → Prop} (h :
    (∃ Qc : Int32 → xI → Prop, XF fI l C mX10_isRow 0 (xent mX10_isRow [.int y1]) [] G I Qc ∧ ∀ (v_1 : Int32) (I_1 : xI), Qc v_1 I_1 → ((v_1 = 0 → Q (-1) I_1) ∧ (¬ (v_1 = 0) → (∃ Qc : Int32 → xI → Prop, XF fI l C mX10_in 0 (xent mX10_in [.int y2, .int 0, .int 3]) [] G I_1 Qc ∧ ∀ (v_10 : Int32) (I_10 : xI), Qc v_10 I_10 → ((v_10 = 0 → Q (-1) I_10) ∧ (¬ (v_10 = 0) → XF fI l C mX10_run 20 [some (.ref 69), some (.int y1), some (.int y2), some (.int 0)] [] G I_10 Q))))))) : XF fI l C mX10_run 0 (xent mX10_run [.ref 69, .int y1, .int y2]) [] G I Q := by
  show XF fI l C mX10_run 0 [some (.ref 69), some (.int y1), some (.int y2), none] [] G I Q
  refine XF.lift (pc2 := 1) (ls2 := [some (.ref 69), some (.int y1), some (.int y2), none]) (st2 := [.int y1]) (I2 := I) ?_ (fun r I' hk => by
      refine XW.iload_n eX10_run_0 rfl ?_
      exact hk)
  obtain ⟨Qc, hc, h⟩ := h
  refine XF.call (nx := 4) (st := []) hc (fun v I1 r I' hY hk => XW.callS (As := [.int y1]) (st := []) eX10_run_1 okX10_isRow cs10_141 rfl hY (xnum rfl rfl rfl rfl rfl) hk) (fun v_1 I_1 hq => ?_)
  replace h := h v_1 I_1 hq
  obtain ⟨ht, hf⟩ := h
  refine XF.br (P := v_1 = 0) (fun c_4 => ?_) (fun c_4 => ?_)
  ·
    replace h := ht c_4
    refine XF.lift (pc2 := 17) (ls2 := [some (.ref 69), some (.int y1), some (.int y2), none]) (st2 := [.int (-1)]) (I2 := I_1) ?_ (fun r I' hk => by
        refine XW.if_eq eX10_run_4 (fun _ => ?_) (fun z => absurd c_4 z)
        refine XW.iconst (v := (-1)) eX10_run_16 (by decide) ?_
        exact hk)
    exact ⟨(-1), I_1, XW.iret eX10_run_17 rfl rfl rfl rfl rfl, h⟩
  ·
    replace h := hf c_4
    refine XF.lift (pc2 := 10) (ls2 := [some (.ref 69), some (.int y1), some (.int y2), none]) (st2 := [.int 3, .int 0, .int y2]) (I2 := I_1) ?_ (fun r I' hk => by
        refine XW.if_eq eX10_run_4 (fun z => absurd z c_4) (fun _ => ?_)
        refine XW.iload_n eX10_run_7 rfl ?_
        refine XW.iconst (v := 0) eX10_run_8 (by decide) ?_
        refine XW.iconst (v := 3) eX10_run_9 (by decide) ?_
        exact hk)
    obtain ⟨Qc, hc, h⟩ := h
    refine XF.call (nx := 13) (st := []) hc (fun v I1 r I' hY hk => XW.callS (As := [.int y2, .int 0, .int 3]) (st := []) eX10_run_10 okX10_in cs10_123 rfl hY (xnum rfl rfl rfl rfl rfl) hk) (fun v_10 I_10 hq => ?_)
    replace h := h v_10 I_10 hq
    obtain ⟨ht, hf⟩ := h
    refine XF.br (P := v_10 = 0) (fun c_13 => ?_) (fun c_13 => ?_)
    ·
      replace h := ht c_13
      refine XF.lift (pc2 := 17) (ls2 := [some (.ref 69), some (.int y1), some (.int y2), none]) (st2 := [.int (-1)]) (I2 := I_10) ?_ (fun r I' hk => by
          refine XW.if_ne eX10_run_13 (fun z => absurd c_13 z) (fun _ => ?_)
          refine XW.iconst (v := (-1)) eX10_run_16 (by decide) ?_
          exact hk)
      exact ⟨(-1), I_10, XW.iret eX10_run_17 rfl rfl rfl rfl rfl, h⟩
    ·
      replace h := hf c_13
      refine XF.lift (pc2 := 20) (ls2 := [some (.ref 69), some (.int y1), some (.int y2), some (.int 0)]) (st2 := []) (I2 := I_10) ?_ (fun r I' hk => by
          refine XW.if_ne eX10_run_13 (fun _ => ?_) (fun z => absurd z c_13)
          refine XW.iconst (v := 0) eX10_run_18 (by decide) ?_
          refine XW.istore_n (ls' := [some (.ref 69), some (.int y1), some (.int y2), some (.int 0)]) eX10_run_19 (Nat.le_of_ble_eq_true rfl) rfl ?_
          exact hk)
      exact h
set_option maxRecDepth 100000 in
set_option maxHeartbeats 4000000 in
theorem VX10_run_20 {l : Launch} {C : xC} {G : xG} (hs : SH G)  (I : xI) (x1 x2 x3 : Int32) {Q : Int32 → xI → Prop} (h :
    ((1600 ≤ x3 → (∃ Qc : Unit → xI → Prop, XF fV l C mX10_go 0 (xent mX10_go [.ref 69, .int x1, .int x2, .int (I 69 9), .int 0, .int 1]) [] G I Qc ∧ ∀ (u_49 : Unit) (I_49 : xI), Qc u_49 I_49 → vp_in x1 4 ∧ XF fI l C mX10_run 77 [some (.ref 69), some (.int x1), some (.int x2), some (.int 0)] [] G (wI (wI (wI I_49 69 34 1) 69 35 (I_49 81 x1.toNatClampNeg)) 69 36 (I_49 69 22)) Q)) ∧ (¬ (1600 ≤ x3) → vp_in x3 1600 ∧ XF fI l C mX10_run 20 [some (.ref 69), some (.int x1), some (.int x2), some (.int (x3 + 1))] [] G (wI I 95 x3.toNatClampNeg 0) Q))) : XF fI l C mX10_run 20 [some (.ref 69), some (.int x1), some (.int x2), some (.int x3)] [] G I Q := by
  refine XF.lift (pc2 := 24) (ls2 := [some (.ref 69), some (.int x1), some (.int x2), some (.int x3)]) (st2 := [.int 1600, .int x3]) (I2 := I) ?_ (fun r I' hk => by
      refine XW.iload_n eX10_run_20 rfl ?_
      refine XW.sipush (v := 1600) eX10_run_21 (by decide) ?_
      exact hk)
  obtain ⟨ht, hf⟩ := h
  refine XF.br (P := 1600 ≤ x3) (fun c_24 => ?_) (fun c_24 => ?_)
  ·
    replace h := ht c_24
    refine XF.lift (pc2 := 49) (ls2 := [some (.ref 69), some (.int x1), some (.int x2), some (.int x3)]) (st2 := [.int 1, .int 0, .int (I 69 9), .int x2, .int x1, .ref 69]) (I2 := I) ?_ (fun r I' hk => by
        refine XW.icmp_ge eX10_run_24 (fun _ => ?_) (fun z => absurd c_24 z)
        refine XW.aload_n eX10_run_40 rfl ?_
        refine XW.iload_n eX10_run_41 rfl ?_
        refine XW.iload_n eX10_run_42 rfl ?_
        refine XW.aload_n eX10_run_43 rfl ?_
        refine XW.getI eX10_run_44 f10_38_10 rfl (so_69 hs) ?_
        refine XW.iconst (v := 0) eX10_run_47 (by decide) ?_
        refine XW.iconst (v := 1) eX10_run_48 (by decide) ?_
        exact hk)
    obtain ⟨Qc, hc, h⟩ := h
    refine XF.call (nx := 52) (st := []) hc (fun v I1 r I' hY hk => XW.callV (As := [.int x1, .int x2, .int (I 69 9), .int 0, .int 1]) (st := []) eX10_run_49 okX10_go cv10_202 rfl (so_69 hs) hY (xnum rfl rfl rfl rfl rfl) hk) (fun _ I_49 hq => ?_)
    replace h := h () I_49 hq
    obtain ⟨q_63, h⟩ := h
    refine XF.lift (pc2 := 77) (ls2 := [some (.ref 69), some (.int x1), some (.int x2), some (.int 0)]) (st2 := []) (I2 := (wI (wI (wI I_49 69 34 1) 69 35 (I_49 81 x1.toNatClampNeg)) 69 36 (I_49 69 22))) ?_ (fun r I' hk => by
        refine XW.aload_n eX10_run_52 rfl ?_
        refine XW.iconst (v := 1) eX10_run_53 (by decide) ?_
        refine XW.putI eX10_run_54 f10_206_10 (xP_of rfl (by decide)) rfl ⟨rfl, rfl⟩ (so_69 hs) ?_
        refine XW.aload_n eX10_run_57 rfl ?_
        refine XW.aload_n eX10_run_58 rfl ?_
        refine XW.getR (b := 81) eX10_run_59 f10_53_10 rfl (so_69 hs) (sr_69_14 hs) ?_
        refine XW.iload_n eX10_run_62 rfl ?_
        refine XW.iaload eX10_run_63 (sa_81 hs) q_63 ?_
        refine XW.putI eX10_run_64 f10_209_10 (xP_of rfl (by decide)) rfl ⟨rfl, rfl⟩ (so_69 hs) ?_
        refine XW.aload_n eX10_run_67 rfl ?_
        refine XW.aload_n eX10_run_68 rfl ?_
        refine XW.getI eX10_run_69 f10_148_10 rfl (so_69 hs) ?_
        refine XW.putI eX10_run_72 f10_212_10 (xP_of rfl (by decide)) rfl ⟨rfl, rfl⟩ (so_69 hs) ?_
        refine XW.iconst (v := 0) eX10_run_75 (by decide) ?_
        refine XW.istore_n (ls' := [some (.ref 69), some (.int x1), some (.int x2), some (.int 0)]) eX10_run_76 (Nat.le_of_ble_eq_true rfl) rfl ?_
        exact hk)
    exact h
  ·
    replace h := hf c_24
    obtain ⟨q_33, h⟩ := h
    refine XF.lift (pc2 := 20) (ls2 := [some (.ref 69), some (.int x1), some (.int x2), some (.int (x3 + 1))]) (st2 := []) (I2 := (wI I 95 x3.toNatClampNeg 0)) ?_ (fun r I' hk => by
        refine XW.icmp_ge eX10_run_24 (fun z => absurd z c_24) (fun _ => ?_)
        refine XW.aload_n eX10_run_27 rfl ?_
        refine XW.getR (b := 95) eX10_run_28 f10_96_10 rfl (so_69 hs) (sr_69_33 hs) ?_
        refine XW.iload_n eX10_run_31 rfl ?_
        refine XW.iconst (v := 0) eX10_run_32 (by decide) ?_
        refine XW.iastore eX10_run_33 (sa_95 hs) q_33 ?_
        refine XW.iinc (y := (x3 + 1)) (ls' := [some (.ref 69), some (.int x1), some (.int x2), some (.int (x3 + 1))]) eX10_run_34 rfl rfl rfl ?_
        refine XW.goto eX10_run_37 ?_
        exact hk)
    exact h
set_option maxRecDepth 100000 in
set_option maxHeartbeats 4000000 in
theorem VX10_run_77 {l : Launch} {C : xC} {G : xG} (hs : SH G)  (I : xI) (x1 x2 x3 : Int32) {Q : Int32 → xI → Prop} (h :
    (((I 69 35) ≤ x3 → XF fI l C mX10_run 146 [some (.ref 69), some (.int x1), some (.int x2), some (.int 0)] [] G I Q) ∧ (¬ ((I 69 35) ≤ x3) → vp_in x3 80 ∧ vp_in ((80 * x1) + x3) 320 ∧ XF fI l C mX10_run 77 [some (.ref 69), some (.int x1), some (.int x2), some (.int (x3 + 1))] [] G (wI (wI (wI (wI I 96 x3.toNatClampNeg (I 91 x3.toNatClampNeg)) 97 x3.toNatClampNeg (I 92 x3.toNatClampNeg)) 98 x3.toNatClampNeg (I 93 x3.toNatClampNeg)) 99 x3.toNatClampNeg (I 83 ((80 * x1) + x3).toNatClampNeg)) Q))) : XF fI l C mX10_run 77 [some (.ref 69), some (.int x1), some (.int x2), some (.int x3)] [] G I Q := by
  refine XF.lift (pc2 := 82) (ls2 := [some (.ref 69), some (.int x1), some (.int x2), some (.int x3)]) (st2 := [.int (I 69 35), .int x3]) (I2 := I) ?_ (fun r I' hk => by
      refine XW.iload_n eX10_run_77 rfl ?_
      refine XW.aload_n eX10_run_78 rfl ?_
      refine XW.getI eX10_run_79 f10_209_10 rfl (so_69 hs) ?_
      exact hk)
  obtain ⟨ht, hf⟩ := h
  refine XF.br (P := (I 69 35) ≤ x3) (fun c_82 => ?_) (fun c_82 => ?_)
  ·
    replace h := ht c_82
    refine XF.lift (pc2 := 146) (ls2 := [some (.ref 69), some (.int x1), some (.int x2), some (.int 0)]) (st2 := []) (I2 := I) ?_ (fun r I' hk => by
        refine XW.icmp_ge eX10_run_82 (fun _ => ?_) (fun z => absurd c_82 z)
        refine XW.iconst (v := 0) eX10_run_144 (by decide) ?_
        refine XW.istore_n (ls' := [some (.ref 69), some (.int x1), some (.int x2), some (.int 0)]) eX10_run_145 (Nat.le_of_ble_eq_true rfl) rfl ?_
        exact hk)
    exact h
  ·
    replace h := hf c_82
    obtain ⟨q_95, h⟩ := h
    obtain ⟨q_136, h⟩ := h
    refine XF.lift (pc2 := 77) (ls2 := [some (.ref 69), some (.int x1), some (.int x2), some (.int (x3 + 1))]) (st2 := []) (I2 := (wI (wI (wI (wI I 96 x3.toNatClampNeg (I 91 x3.toNatClampNeg)) 97 x3.toNatClampNeg (I 92 x3.toNatClampNeg)) 98 x3.toNatClampNeg (I 93 x3.toNatClampNeg)) 99 x3.toNatClampNeg (I 83 ((80 * x1) + x3).toNatClampNeg))) ?_ (fun r I' hk => by
        refine XW.icmp_ge eX10_run_82 (fun z => absurd z c_82) (fun _ => ?_)
        refine XW.aload_n eX10_run_85 rfl ?_
        refine XW.getR (b := 96) eX10_run_86 f10_99_10 rfl (so_69 hs) (sr_69_37 hs) ?_
        refine XW.iload_n eX10_run_89 rfl ?_
        refine XW.aload_n eX10_run_90 rfl ?_
        refine XW.getR (b := 91) eX10_run_91 f10_84_10 rfl (so_69 hs) (sr_69_29 hs) ?_
        refine XW.iload_n eX10_run_94 rfl ?_
        refine XW.iaload eX10_run_95 (sa_91 hs) q_95 ?_
        refine XW.iastore eX10_run_96 (sa_96 hs) q_95 ?_
        refine XW.aload_n eX10_run_97 rfl ?_
        refine XW.getR (b := 97) eX10_run_98 f10_102_10 rfl (so_69 hs) (sr_69_38 hs) ?_
        refine XW.iload_n eX10_run_101 rfl ?_
        refine XW.aload_n eX10_run_102 rfl ?_
        refine XW.getR (b := 92) eX10_run_103 f10_87_10 rfl (so_69 hs) (sr_69_30 hs) ?_
        refine XW.iload_n eX10_run_106 rfl ?_
        refine XW.iaload eX10_run_107 (sa_92 hs) q_95 ?_
        refine XW.iastore eX10_run_108 (sa_97 hs) q_95 ?_
        refine XW.aload_n eX10_run_109 rfl ?_
        refine XW.getR (b := 98) eX10_run_110 f10_105_10 rfl (so_69 hs) (sr_69_39 hs) ?_
        refine XW.iload_n eX10_run_113 rfl ?_
        refine XW.aload_n eX10_run_114 rfl ?_
        refine XW.getR (b := 93) eX10_run_115 f10_90_10 rfl (so_69 hs) (sr_69_31 hs) ?_
        refine XW.iload_n eX10_run_118 rfl ?_
        refine XW.iaload eX10_run_119 (sa_93 hs) q_95 ?_
        refine XW.iastore eX10_run_120 (sa_98 hs) q_95 ?_
        refine XW.aload_n eX10_run_121 rfl ?_
        refine XW.getR (b := 99) eX10_run_122 f10_108_10 rfl (so_69 hs) (sr_69_40 hs) ?_
        refine XW.iload_n eX10_run_125 rfl ?_
        refine XW.aload_n eX10_run_126 rfl ?_
        refine XW.getR (b := 83) eX10_run_127 f10_59_10 rfl (so_69 hs) (sr_69_16 hs) ?_
        refine XW.bipush (v := 80) eX10_run_130 (by decide) ?_
        refine XW.iload_n eX10_run_132 rfl ?_
        refine XW.imul eX10_run_133 ?_
        refine XW.iload_n eX10_run_134 rfl ?_
        refine XW.iadd eX10_run_135 ?_
        refine XW.iaload eX10_run_136 (sa_83 hs) q_136 ?_
        refine XW.iastore eX10_run_137 (sa_99 hs) q_95 ?_
        refine XW.iinc (y := (x3 + 1)) (ls' := [some (.ref 69), some (.int x1), some (.int x2), some (.int (x3 + 1))]) eX10_run_138 rfl rfl rfl ?_
        refine XW.goto eX10_run_141 ?_
        exact hk)
    exact h
set_option maxRecDepth 100000 in
set_option maxHeartbeats 4000000 in
theorem VX10_run_146 {l : Launch} {C : xC} {G : xG} (hs : SH G)  (I : xI) (x1 x2 x3 : Int32) {Q : Int32 → xI → Prop} (h :
    ((5 ≤ x3 → (∃ Qc : Int32 → xI → Prop, XF fI l C mX10_countSent 0 (xent mX10_countSent [.ref 69]) [] G I Qc ∧ ∀ (v_170 : Int32) (I_170 : xI), Qc v_170 I_170 → Q v_170 I_170)) ∧ (¬ (5 ≤ x3) → vp_in x3 5 ∧ XF fI l C mX10_run 146 [some (.ref 69), some (.int x1), some (.int x2), some (.int (x3 + 1))] [] G (wI I 100 x3.toNatClampNeg (I 94 x3.toNatClampNeg)) Q))) : XF fI l C mX10_run 146 [some (.ref 69), some (.int x1), some (.int x2), some (.int x3)] [] G I Q := by
  refine XF.lift (pc2 := 148) (ls2 := [some (.ref 69), some (.int x1), some (.int x2), some (.int x3)]) (st2 := [.int 5, .int x3]) (I2 := I) ?_ (fun r I' hk => by
      refine XW.iload_n eX10_run_146 rfl ?_
      refine XW.iconst (v := 5) eX10_run_147 (by decide) ?_
      exact hk)
  obtain ⟨ht, hf⟩ := h
  refine XF.br (P := 5 ≤ x3) (fun c_148 => ?_) (fun c_148 => ?_)
  ·
    replace h := ht c_148
    refine XF.lift (pc2 := 170) (ls2 := [some (.ref 69), some (.int x1), some (.int x2), some (.int x3)]) (st2 := [.ref 69]) (I2 := I) ?_ (fun r I' hk => by
        refine XW.icmp_ge eX10_run_148 (fun _ => ?_) (fun z => absurd c_148 z)
        refine XW.aload_n eX10_run_169 rfl ?_
        exact hk)
    obtain ⟨Qc, hc, h⟩ := h
    refine XF.call (nx := 173) (st := []) hc (fun v I1 r I' hY hk => XW.callV (As := []) (st := []) eX10_run_170 okX10_countSent cv10_215 rfl (so_69 hs) hY (xnum rfl rfl rfl rfl rfl) hk) (fun v_170 I_170 hq => ?_)
    replace h := h v_170 I_170 hq
    exact ⟨v_170, I_170, XW.iret eX10_run_173 rfl rfl rfl rfl rfl, h⟩
  ·
    replace h := hf c_148
    obtain ⟨q_161, h⟩ := h
    refine XF.lift (pc2 := 146) (ls2 := [some (.ref 69), some (.int x1), some (.int x2), some (.int (x3 + 1))]) (st2 := []) (I2 := (wI I 100 x3.toNatClampNeg (I 94 x3.toNatClampNeg))) ?_ (fun r I' hk => by
        refine XW.icmp_ge eX10_run_148 (fun z => absurd z c_148) (fun _ => ?_)
        refine XW.aload_n eX10_run_151 rfl ?_
        refine XW.getR (b := 100) eX10_run_152 f10_111_10 rfl (so_69 hs) (sr_69_41 hs) ?_
        refine XW.iload_n eX10_run_155 rfl ?_
        refine XW.aload_n eX10_run_156 rfl ?_
        refine XW.getR (b := 94) eX10_run_157 f10_93_10 rfl (so_69 hs) (sr_69_32 hs) ?_
        refine XW.iload_n eX10_run_160 rfl ?_
        refine XW.iaload eX10_run_161 (sa_94 hs) q_161 ?_
        refine XW.iastore eX10_run_162 (sa_100 hs) q_161 ?_
        refine XW.iinc (y := (x3 + 1)) (ls' := [some (.ref 69), some (.int x1), some (.int x2), some (.int (x3 + 1))]) eX10_run_163 rfl rfl rfl ?_
        refine XW.goto eX10_run_166 ?_
        exact hk)
    exact h
set_option maxRecDepth 100000 in
set_option maxHeartbeats 4000000 in
theorem VX10_place {l : Launch} {C : xC} {G : xG} (hs : SH G)  (I : xI) (y0 : Int32) {Q : Int32 → xI → Prop} (h :
    ((y0 = 0 → Q 1 I) ∧ (¬ (y0 = 0) → ((y0 = 1 → Q 13 I) ∧ (¬ (y0 = 1) → ((y0 = 2 → Q 169 I) ∧ (¬ (y0 = 2) → Q 2197 I))))))) : XF fI l C mX10_place 0 (xent mX10_place [.int y0]) [] G I Q := by
  show XF fI l C mX10_place 0 [some (.int y0)] [] G I Q
  refine XF.lift (pc2 := 1) (ls2 := [some (.int y0)]) (st2 := [.int y0]) (I2 := I) ?_ (fun r I' hk => by
      refine XW.iload_n eX10_place_0 rfl ?_
      exact hk)
  obtain ⟨ht, hf⟩ := h
  refine XF.br (P := y0 = 0) (fun c_1 => ?_) (fun c_1 => ?_)
  ·
    replace h := ht c_1
    refine XF.lift (pc2 := 32) (ls2 := [some (.int y0)]) (st2 := [.int 1]) (I2 := I) ?_ (fun r I' hk => by
        refine XW.if_ne eX10_place_1 (fun z => absurd c_1 z) (fun _ => ?_)
        refine XW.iconst (v := 1) eX10_place_4 (by decide) ?_
        refine XW.goto eX10_place_5 ?_
        exact hk)
    exact ⟨1, I, XW.iret eX10_place_32 rfl rfl rfl rfl rfl, h⟩
  ·
    replace h := hf c_1
    refine XF.lift (pc2 := 10) (ls2 := [some (.int y0)]) (st2 := [.int 1, .int y0]) (I2 := I) ?_ (fun r I' hk => by
        refine XW.if_ne eX10_place_1 (fun _ => ?_) (fun z => absurd z c_1)
        refine XW.iload_n eX10_place_8 rfl ?_
        refine XW.iconst (v := 1) eX10_place_9 (by decide) ?_
        exact hk)
    obtain ⟨ht, hf⟩ := h
    refine XF.br (P := y0 = 1) (fun c_10 => ?_) (fun c_10 => ?_)
    ·
      replace h := ht c_10
      refine XF.lift (pc2 := 32) (ls2 := [some (.int y0)]) (st2 := [.int 13]) (I2 := I) ?_ (fun r I' hk => by
          refine XW.icmp_ne eX10_place_10 (fun z => absurd c_10 z) (fun _ => ?_)
          refine XW.bipush (v := 13) eX10_place_13 (by decide) ?_
          refine XW.goto eX10_place_15 ?_
          exact hk)
      exact ⟨13, I, XW.iret eX10_place_32 rfl rfl rfl rfl rfl, h⟩
    ·
      replace h := hf c_10
      refine XF.lift (pc2 := 20) (ls2 := [some (.int y0)]) (st2 := [.int 2, .int y0]) (I2 := I) ?_ (fun r I' hk => by
          refine XW.icmp_ne eX10_place_10 (fun _ => ?_) (fun z => absurd z c_10)
          refine XW.iload_n eX10_place_18 rfl ?_
          refine XW.iconst (v := 2) eX10_place_19 (by decide) ?_
          exact hk)
      obtain ⟨ht, hf⟩ := h
      refine XF.br (P := y0 = 2) (fun c_20 => ?_) (fun c_20 => ?_)
      ·
        replace h := ht c_20
        refine XF.lift (pc2 := 32) (ls2 := [some (.int y0)]) (st2 := [.int 169]) (I2 := I) ?_ (fun r I' hk => by
            refine XW.icmp_ne eX10_place_20 (fun z => absurd c_20 z) (fun _ => ?_)
            refine XW.sipush (v := 169) eX10_place_23 (by decide) ?_
            refine XW.goto eX10_place_26 ?_
            exact hk)
        exact ⟨169, I, XW.iret eX10_place_32 rfl rfl rfl rfl rfl, h⟩
      ·
        replace h := hf c_20
        refine XF.lift (pc2 := 32) (ls2 := [some (.int y0)]) (st2 := [.int 2197]) (I2 := I) ?_ (fun r I' hk => by
            refine XW.icmp_ne eX10_place_20 (fun _ => ?_) (fun z => absurd z c_20)
            refine XW.sipush (v := 2197) eX10_place_29 (by decide) ?_
            exact hk)
        exact ⟨2197, I, XW.iret eX10_place_32 rfl rfl rfl rfl rfl, h⟩
set_option maxRecDepth 100000 in
set_option maxHeartbeats 4000000 in
theorem VX10_lengthIn {l : Launch} {C : xC} {G : xG} (hs : SH G)  (I : xI) (y0 y1 : Int32) {Q : Int32 → xI → Prop} (h :
    (∃ Qc : Int32 → xI → Prop, XF fI l C mX10_place 0 (xent mX10_place [.int y1]) [] G I Qc ∧ ∀ (v_2 : Int32) (I_2 : xI), Qc v_2 I_2 → ¬ v_2 = 0 ∧ Q ((y0 / v_2) - (y0 / v_2) / 13 * 13) I_2)) : XF fI l C mX10_lengthIn 0 (xent mX10_lengthIn [.int y0, .int y1]) [] G I Q := by
  show XF fI l C mX10_lengthIn 0 [some (.int y0), some (.int y1)] [] G I Q
  refine XF.lift (pc2 := 2) (ls2 := [some (.int y0), some (.int y1)]) (st2 := [.int y1, .int y0]) (I2 := I) ?_ (fun r I' hk => by
      refine XW.iload_n eX10_lengthIn_0 rfl ?_
      refine XW.iload_n eX10_lengthIn_1 rfl ?_
      exact hk)
  obtain ⟨Qc, hc, h⟩ := h
  refine XF.call (nx := 5) (st := [.int y0]) hc (fun v I1 r I' hY hk => XW.callS (As := [.int y1]) (st := [.int y0]) eX10_lengthIn_2 okX10_place cs10_218 rfl hY (xnum rfl rfl rfl rfl rfl) hk) (fun v_2 I_2 hq => ?_)
  replace h := h v_2 I_2 hq
  obtain ⟨z_5, h⟩ := h
  refine XF.lift (pc2 := 9) (ls2 := [some (.int y0), some (.int y1)]) (st2 := [.int ((y0 / v_2) - (y0 / v_2) / 13 * 13)]) (I2 := I_2) ?_ (fun r I' hk => by
      refine XW.idiv eX10_lengthIn_5 z_5 ?_
      refine XW.bipush (v := 13) eX10_lengthIn_6 (by decide) ?_
      refine XW.irem eX10_lengthIn_8 (by decide) ?_
      exact hk)
  exact ⟨((y0 / v_2) - (y0 / v_2) / 13 * 13), I_2, XW.iret eX10_lengthIn_9 rfl rfl rfl rfl rfl, h⟩
set_option maxRecDepth 100000 in
set_option maxHeartbeats 4000000 in
theorem VX10_allIn {l : Launch} {C : xC} {G : xG} (hs : SH G)  (I : xI) (y0 : Int32) {Q : Int32 → xI → Prop} (h :
    Q ((((y0 - y0 / 13 * 13) + ((y0 / 13) - (y0 / 13) / 13 * 13)) + ((y0 / 169) - (y0 / 169) / 13 * 13)) + (y0 / 2197)) I) : XF fI l C mX10_allIn 0 (xent mX10_allIn [.int y0]) [] G I Q := by
  show XF fI l C mX10_allIn 0 [some (.int y0)] [] G I Q
  refine XF.lift (pc2 := 27) (ls2 := [some (.int y0)]) (st2 := [.int ((((y0 - y0 / 13 * 13) + ((y0 / 13) - (y0 / 13) / 13 * 13)) + ((y0 / 169) - (y0 / 169) / 13 * 13)) + (y0 / 2197))]) (I2 := I) ?_ (fun r I' hk => by
      refine XW.iload_n eX10_allIn_0 rfl ?_
      refine XW.bipush (v := 13) eX10_allIn_1 (by decide) ?_
      refine XW.irem eX10_allIn_3 (by decide) ?_
      refine XW.iload_n eX10_allIn_4 rfl ?_
      refine XW.bipush (v := 13) eX10_allIn_5 (by decide) ?_
      refine XW.idiv eX10_allIn_7 (by decide) ?_
      refine XW.bipush (v := 13) eX10_allIn_8 (by decide) ?_
      refine XW.irem eX10_allIn_10 (by decide) ?_
      refine XW.iadd eX10_allIn_11 ?_
      refine XW.iload_n eX10_allIn_12 rfl ?_
      refine XW.sipush (v := 169) eX10_allIn_13 (by decide) ?_
      refine XW.idiv eX10_allIn_16 (by decide) ?_
      refine XW.bipush (v := 13) eX10_allIn_17 (by decide) ?_
      refine XW.irem eX10_allIn_19 (by decide) ?_
      refine XW.iadd eX10_allIn_20 ?_
      refine XW.iload_n eX10_allIn_21 rfl ?_
      refine XW.sipush (v := 2197) eX10_allIn_22 (by decide) ?_
      refine XW.idiv eX10_allIn_25 (by decide) ?_
      refine XW.iadd eX10_allIn_26 ?_
      exact hk)
  exact ⟨((((y0 - y0 / 13 * 13) + ((y0 / 13) - (y0 / 13) / 13 * 13)) + ((y0 / 169) - (y0 / 169) / 13 * 13)) + (y0 / 2197)), I, XW.iret eX10_allIn_27 rfl rfl rfl rfl rfl, h⟩
set_option maxRecDepth 100000 in
set_option maxHeartbeats 4000000 in
theorem VX10_offer {l : Launch} {C : xC} {G : xG} (hs : SH G)  (I : xI) (y1 : Int32) {Q : Unit → xI → Prop} (h :
    XF fV l C mX10_offer 4 [some (.ref 69), some (.int y1), some (.int 28560), none] [] G I Q) : XF fV l C mX10_offer 0 (xent mX10_offer [.ref 69, .int y1]) [] G I Q := by
  show XF fV l C mX10_offer 0 [some (.ref 69), some (.int y1), none, none] [] G I Q
  refine XF.lift (pc2 := 4) (ls2 := [some (.ref 69), some (.int y1), some (.int 28560), none]) (st2 := []) (I2 := I) ?_ (fun r I' hk => by
      refine XW.sipush (v := 28560) eX10_offer_0 (by decide) ?_
      refine XW.istore_n (ls' := [some (.ref 69), some (.int y1), some (.int 28560), none]) eX10_offer_3 (Nat.le_of_ble_eq_true rfl) rfl ?_
      exact hk)
  exact h
set_option maxRecDepth 100000 in
set_option maxHeartbeats 4000000 in
theorem VX10_offer_4 {l : Launch} {C : xC} {G : xG} (hs : SH G)  (I : xI) (x1 x2 : Int32) {Q : Unit → xI → Prop} (h :
    ((x2 < 0 → Q () I) ∧ (¬ (x2 < 0) → vp_in x2 28561 ∧ (((I 101 x2.toNatClampNeg) < 0 → XF fV l C mX10_offer 4 [some (.ref 69), some (.int x1), some (.int (x2 + (-1))), none] [] G I Q) ∧ (¬ ((I 101 x2.toNatClampNeg) < 0) → (∃ Qc : Int32 → xI → Prop, XF fI l C mX10_allIn 0 (xent mX10_allIn [.int x2]) [] G I Qc ∧ ∀ (v_18 : Int32) (I_18 : xI), Qc v_18 I_18 → (((I_18 69 0) ≤ v_18 → XF fV l C mX10_offer 4 [some (.ref 69), some (.int x1), some (.int (x2 + (-1))), none] [] G I_18 Q) ∧ (¬ ((I_18 69 0) ≤ v_18) → (∃ Qc : Int32 → xI → Prop, XF fI l C mX10_place 0 (xent mX10_place [.int x1]) [] G I_18 Qc ∧ ∀ (v_30 : Int32) (I_30 : xI), Qc v_30 I_30 → vp_in (x2 + v_30) 28561 ∧ ((((I_30 101 x2.toNatClampNeg) + 1) ≤ (I_30 101 (x2 + v_30).toNatClampNeg) → XF fV l C mX10_offer 4 [some (.ref 69), some (.int x1), some (.int (x2 + (-1))), none] [] G (wI I_30 101 (x2 + v_30).toNatClampNeg (I_30 101 (x2 + v_30).toNatClampNeg)) Q) ∧ (¬ (((I_30 101 x2.toNatClampNeg) + 1) ≤ (I_30 101 (x2 + v_30).toNatClampNeg)) → XF fV l C mX10_offer 4 [some (.ref 69), some (.int x1), some (.int (x2 + (-1))), none] [] G (wI I_30 101 (x2 + v_30).toNatClampNeg ((I_30 101 x2.toNatClampNeg) + 1)) Q))))))))))) : XF fV l C mX10_offer 4 [some (.ref 69), some (.int x1), some (.int x2), none] [] G I Q := by
  refine XF.lift (pc2 := 5) (ls2 := [some (.ref 69), some (.int x1), some (.int x2), none]) (st2 := [.int x2]) (I2 := I) ?_ (fun r I' hk => by
      refine XW.iload_n eX10_offer_4 rfl ?_
      exact hk)
  obtain ⟨ht, hf⟩ := h
  refine XF.br (P := x2 < 0) (fun c_5 => ?_) (fun c_5 => ?_)
  ·
    replace h := ht c_5
    refine XF.lift (pc2 := 81) (ls2 := [some (.ref 69), some (.int x1), some (.int x2), none]) (st2 := []) (I2 := I) ?_ (fun r I' hk => by
        refine XW.if_lt eX10_offer_5 (fun _ => ?_) (fun z => absurd c_5 z)
        exact hk)
    exact ⟨(), I, XW.vret eX10_offer_81 rfl rfl rfl rfl, h⟩
  ·
    replace h := hf c_5
    obtain ⟨q_13, h⟩ := h
    refine XF.lift (pc2 := 14) (ls2 := [some (.ref 69), some (.int x1), some (.int x2), none]) (st2 := [.int (I 101 x2.toNatClampNeg)]) (I2 := I) ?_ (fun r I' hk => by
        refine XW.if_lt eX10_offer_5 (fun z => absurd z c_5) (fun _ => ?_)
        refine XW.aload_n eX10_offer_8 rfl ?_
        refine XW.getR (b := 101) eX10_offer_9 f10_114_10 rfl (so_69 hs) (sr_69_42 hs) ?_
        refine XW.iload_n eX10_offer_12 rfl ?_
        refine XW.iaload eX10_offer_13 (sa_101 hs) q_13 ?_
        exact hk)
    obtain ⟨ht, hf⟩ := h
    refine XF.br (P := (I 101 x2.toNatClampNeg) < 0) (fun c_14 => ?_) (fun c_14 => ?_)
    ·
      replace h := ht c_14
      refine XF.lift (pc2 := 4) (ls2 := [some (.ref 69), some (.int x1), some (.int (x2 + (-1))), none]) (st2 := []) (I2 := I) ?_ (fun r I' hk => by
          refine XW.if_lt eX10_offer_14 (fun _ => ?_) (fun z => absurd c_14 z)
          refine XW.iinc (y := (x2 + (-1))) (ls' := [some (.ref 69), some (.int x1), some (.int (x2 + (-1))), none]) eX10_offer_75 rfl rfl rfl ?_
          refine XW.goto eX10_offer_78 ?_
          exact hk)
      exact h
    ·
      replace h := hf c_14
      refine XF.lift (pc2 := 18) (ls2 := [some (.ref 69), some (.int x1), some (.int x2), none]) (st2 := [.int x2]) (I2 := I) ?_ (fun r I' hk => by
          refine XW.if_lt eX10_offer_14 (fun z => absurd z c_14) (fun _ => ?_)
          refine XW.iload_n eX10_offer_17 rfl ?_
          exact hk)
      obtain ⟨Qc, hc, h⟩ := h
      refine XF.call (nx := 21) (st := []) hc (fun v I1 r I' hY hk => XW.callS (As := [.int x2]) (st := []) eX10_offer_18 okX10_allIn cs10_221 rfl hY (xnum rfl rfl rfl rfl rfl) hk) (fun v_18 I_18 hq => ?_)
      replace h := h v_18 I_18 hq
      refine XF.lift (pc2 := 25) (ls2 := [some (.ref 69), some (.int x1), some (.int x2), none]) (st2 := [.int (I_18 69 0), .int v_18]) (I2 := I_18) ?_ (fun r I' hk => by
          refine XW.aload_n eX10_offer_21 rfl ?_
          refine XW.getI eX10_offer_22 f10_7_10 rfl (so_69 hs) ?_
          exact hk)
      obtain ⟨ht, hf⟩ := h
      refine XF.br (P := (I_18 69 0) ≤ v_18) (fun c_25 => ?_) (fun c_25 => ?_)
      ·
        replace h := ht c_25
        refine XF.lift (pc2 := 4) (ls2 := [some (.ref 69), some (.int x1), some (.int (x2 + (-1))), none]) (st2 := []) (I2 := I_18) ?_ (fun r I' hk => by
            refine XW.icmp_ge eX10_offer_25 (fun _ => ?_) (fun z => absurd c_25 z)
            refine XW.iinc (y := (x2 + (-1))) (ls' := [some (.ref 69), some (.int x1), some (.int (x2 + (-1))), none]) eX10_offer_75 rfl rfl rfl ?_
            refine XW.goto eX10_offer_78 ?_
            exact hk)
        exact h
      ·
        replace h := hf c_25
        refine XF.lift (pc2 := 30) (ls2 := [some (.ref 69), some (.int x1), some (.int x2), none]) (st2 := [.int x1, .int x2]) (I2 := I_18) ?_ (fun r I' hk => by
            refine XW.icmp_ge eX10_offer_25 (fun z => absurd z c_25) (fun _ => ?_)
            refine XW.iload_n eX10_offer_28 rfl ?_
            refine XW.iload_n eX10_offer_29 rfl ?_
            exact hk)
        obtain ⟨Qc, hc, h⟩ := h
        refine XF.call (nx := 33) (st := [.int x2]) hc (fun v I1 r I' hY hk => XW.callS (As := [.int x1]) (st := [.int x2]) eX10_offer_30 okX10_place cs10_218 rfl hY (xnum rfl rfl rfl rfl rfl) hk) (fun v_30 I_30 hq => ?_)
        replace h := h v_30 I_30 hq
        obtain ⟨q_53, h⟩ := h
        refine XF.lift (pc2 := 54) (ls2 := [some (.ref 69), some (.int x1), some (.int x2), some (.int (x2 + v_30))]) (st2 := [.int (I_30 101 (x2 + v_30).toNatClampNeg), .int ((I_30 101 x2.toNatClampNeg) + 1), .int (x2 + v_30), .ref 101]) (I2 := I_30) ?_ (fun r I' hk => by
            refine XW.iadd eX10_offer_33 ?_
            refine XW.istore_n (ls' := [some (.ref 69), some (.int x1), some (.int x2), some (.int (x2 + v_30))]) eX10_offer_34 (Nat.le_of_ble_eq_true rfl) rfl ?_
            refine XW.aload_n eX10_offer_35 rfl ?_
            refine XW.getR (b := 101) eX10_offer_36 f10_114_10 rfl (so_69 hs) (sr_69_42 hs) ?_
            refine XW.iload_n eX10_offer_39 rfl ?_
            refine XW.aload_n eX10_offer_40 rfl ?_
            refine XW.getR (b := 101) eX10_offer_41 f10_114_10 rfl (so_69 hs) (sr_69_42 hs) ?_
            refine XW.iload_n eX10_offer_44 rfl ?_
            refine XW.iaload eX10_offer_45 (sa_101 hs) q_13 ?_
            refine XW.iconst (v := 1) eX10_offer_46 (by decide) ?_
            refine XW.iadd eX10_offer_47 ?_
            refine XW.aload_n eX10_offer_48 rfl ?_
            refine XW.getR (b := 101) eX10_offer_49 f10_114_10 rfl (so_69 hs) (sr_69_42 hs) ?_
            refine XW.iload_n eX10_offer_52 rfl ?_
            refine XW.iaload eX10_offer_53 (sa_101 hs) q_53 ?_
            exact hk)
        obtain ⟨ht, hf⟩ := h
        refine XF.br (P := ((I_30 101 x2.toNatClampNeg) + 1) ≤ (I_30 101 (x2 + v_30).toNatClampNeg)) (fun c_54 => ?_) (fun c_54 => ?_)
        ·
          replace h := ht c_54
          refine XF.lift (pc2 := 4) (ls2 := [some (.ref 69), some (.int x1), some (.int (x2 + (-1))), none]) (st2 := []) (I2 := (wI I_30 101 (x2 + v_30).toNatClampNeg (I_30 101 (x2 + v_30).toNatClampNeg))) ?_ (fun r I' hk => by
              refine XW.icmp_le eX10_offer_54 (fun _ => ?_) (fun z => absurd c_54 z)
              refine XW.aload_n eX10_offer_68 rfl ?_
              refine XW.getR (b := 101) eX10_offer_69 f10_114_10 rfl (so_69 hs) (sr_69_42 hs) ?_
              refine XW.iload_n eX10_offer_72 rfl ?_
              refine XW.iaload eX10_offer_73 (sa_101 hs) q_53 ?_
              refine XW.iastore eX10_offer_74 (sa_101 hs) q_53 ?_
              refine XW.iinc (y := (x2 + (-1))) (ls' := [some (.ref 69), some (.int x1), some (.int (x2 + (-1))), some (.int (x2 + v_30))]) eX10_offer_75 rfl rfl rfl ?_
              refine XW.goto eX10_offer_78 ?_
              refine XW.forget 3 rfl ?_
              exact hk)
          exact h
        ·
          replace h := hf c_54
          refine XF.lift (pc2 := 4) (ls2 := [some (.ref 69), some (.int x1), some (.int (x2 + (-1))), none]) (st2 := []) (I2 := (wI I_30 101 (x2 + v_30).toNatClampNeg ((I_30 101 x2.toNatClampNeg) + 1))) ?_ (fun r I' hk => by
              refine XW.icmp_le eX10_offer_54 (fun z => absurd z c_54) (fun _ => ?_)
              refine XW.aload_n eX10_offer_57 rfl ?_
              refine XW.getR (b := 101) eX10_offer_58 f10_114_10 rfl (so_69 hs) (sr_69_42 hs) ?_
              refine XW.iload_n eX10_offer_61 rfl ?_
              refine XW.iaload eX10_offer_62 (sa_101 hs) q_13 ?_
              refine XW.iconst (v := 1) eX10_offer_63 (by decide) ?_
              refine XW.iadd eX10_offer_64 ?_
              refine XW.goto eX10_offer_65 ?_
              refine XW.iastore eX10_offer_74 (sa_101 hs) q_53 ?_
              refine XW.iinc (y := (x2 + (-1))) (ls' := [some (.ref 69), some (.int x1), some (.int (x2 + (-1))), some (.int (x2 + v_30))]) eX10_offer_75 rfl rfl rfl ?_
              refine XW.goto eX10_offer_78 ?_
              refine XW.forget 3 rfl ?_
              exact hk)
          exact h
set_option maxRecDepth 100000 in
set_option maxHeartbeats 4000000 in
theorem VX10_serve {l : Launch} {C : xC} {G : xG} (hs : SH G)  (I : xI) (y1 : Int32) {Q : Unit → xI → Prop} (h :
    XF fV l C mX10_serve 2 [some (.ref 69), some (.int y1), some (.int 0), none, none] [] G I Q) : XF fV l C mX10_serve 0 (xent mX10_serve [.ref 69, .int y1]) [] G I Q := by
  show XF fV l C mX10_serve 0 [some (.ref 69), some (.int y1), none, none, none] [] G I Q
  refine XF.lift (pc2 := 2) (ls2 := [some (.ref 69), some (.int y1), some (.int 0), none, none]) (st2 := []) (I2 := I) ?_ (fun r I' hk => by
      refine XW.iconst (v := 0) eX10_serve_0 (by decide) ?_
      refine XW.istore_n (ls' := [some (.ref 69), some (.int y1), some (.int 0), none, none]) eX10_serve_1 (Nat.le_of_ble_eq_true rfl) rfl ?_
      exact hk)
  exact h
set_option maxRecDepth 100000 in
set_option maxHeartbeats 4000000 in
theorem VX10_serve_2 {l : Launch} {C : xC} {G : xG} (hs : SH G)  (I : xI) (x1 x2 : Int32) {Q : Unit → xI → Prop} (h :
    ((28561 ≤ x2 → XF fV l C mX10_serve 24 [some (.ref 69), some (.int x1), some (.int 0), none, none] [] G I Q) ∧ (¬ (28561 ≤ x2) → vp_in x2 28561 ∧ XF fV l C mX10_serve 2 [some (.ref 69), some (.int x1), some (.int (x2 + 1)), none, none] [] G (wI I 102 x2.toNatClampNeg (-1)) Q))) : XF fV l C mX10_serve 2 [some (.ref 69), some (.int x1), some (.int x2), none, none] [] G I Q := by
  refine XF.lift (pc2 := 6) (ls2 := [some (.ref 69), some (.int x1), some (.int x2), none, none]) (st2 := [.int 28561, .int x2]) (I2 := I) ?_ (fun r I' hk => by
      refine XW.iload_n eX10_serve_2 rfl ?_
      refine XW.sipush (v := 28561) eX10_serve_3 (by decide) ?_
      exact hk)
  obtain ⟨ht, hf⟩ := h
  refine XF.br (P := 28561 ≤ x2) (fun c_6 => ?_) (fun c_6 => ?_)
  ·
    replace h := ht c_6
    refine XF.lift (pc2 := 24) (ls2 := [some (.ref 69), some (.int x1), some (.int 0), none, none]) (st2 := []) (I2 := I) ?_ (fun r I' hk => by
        refine XW.icmp_ge eX10_serve_6 (fun _ => ?_) (fun z => absurd c_6 z)
        refine XW.iconst (v := 0) eX10_serve_22 (by decide) ?_
        refine XW.istore_n (ls' := [some (.ref 69), some (.int x1), some (.int 0), none, none]) eX10_serve_23 (Nat.le_of_ble_eq_true rfl) rfl ?_
        exact hk)
    exact h
  ·
    replace h := hf c_6
    obtain ⟨q_15, h⟩ := h
    refine XF.lift (pc2 := 2) (ls2 := [some (.ref 69), some (.int x1), some (.int (x2 + 1)), none, none]) (st2 := []) (I2 := (wI I 102 x2.toNatClampNeg (-1))) ?_ (fun r I' hk => by
        refine XW.icmp_ge eX10_serve_6 (fun z => absurd z c_6) (fun _ => ?_)
        refine XW.aload_n eX10_serve_9 rfl ?_
        refine XW.getR (b := 102) eX10_serve_10 f10_117_10 rfl (so_69 hs) (sr_69_43 hs) ?_
        refine XW.iload_n eX10_serve_13 rfl ?_
        refine XW.iconst (v := (-1)) eX10_serve_14 (by decide) ?_
        refine XW.iastore eX10_serve_15 (sa_102 hs) q_15 ?_
        refine XW.iinc (y := (x2 + 1)) (ls' := [some (.ref 69), some (.int x1), some (.int (x2 + 1)), none, none]) eX10_serve_16 rfl rfl rfl ?_
        refine XW.goto eX10_serve_19 ?_
        exact hk)
    exact h
set_option maxRecDepth 100000 in
set_option maxHeartbeats 4000000 in
theorem VX10_serve_24 {l : Launch} {C : xC} {G : xG} (hs : SH G)  (I : xI) (x1 x2 : Int32) {Q : Unit → xI → Prop} (h :
    ((28561 ≤ x2 → XF fV l C mX10_serve 139 [some (.ref 69), some (.int x1), some (.int 0), none, none] [] G I Q) ∧ (¬ (28561 ≤ x2) → vp_in x2 28561 ∧ (((I 101 x2.toNatClampNeg) < 0 → XF fV l C mX10_serve 24 [some (.ref 69), some (.int x1), some (.int (x2 + 1)), none, none] [] G I Q) ∧ (¬ ((I 101 x2.toNatClampNeg) < 0) → XF fV l C mX10_serve 45 [some (.ref 69), some (.int x1), some (.int x2), some (.int x2), some (.int 0)] [] G I Q))))) : XF fV l C mX10_serve 24 [some (.ref 69), some (.int x1), some (.int x2), none, none] [] G I Q := by
  refine XF.lift (pc2 := 28) (ls2 := [some (.ref 69), some (.int x1), some (.int x2), none, none]) (st2 := [.int 28561, .int x2]) (I2 := I) ?_ (fun r I' hk => by
      refine XW.iload_n eX10_serve_24 rfl ?_
      refine XW.sipush (v := 28561) eX10_serve_25 (by decide) ?_
      exact hk)
  obtain ⟨ht, hf⟩ := h
  refine XF.br (P := 28561 ≤ x2) (fun c_28 => ?_) (fun c_28 => ?_)
  ·
    replace h := ht c_28
    refine XF.lift (pc2 := 139) (ls2 := [some (.ref 69), some (.int x1), some (.int 0), none, none]) (st2 := []) (I2 := I) ?_ (fun r I' hk => by
        refine XW.icmp_ge eX10_serve_28 (fun _ => ?_) (fun z => absurd c_28 z)
        refine XW.iconst (v := 0) eX10_serve_137 (by decide) ?_
        refine XW.istore_n (ls' := [some (.ref 69), some (.int x1), some (.int 0), none, none]) eX10_serve_138 (Nat.le_of_ble_eq_true rfl) rfl ?_
        exact hk)
    exact h
  ·
    replace h := hf c_28
    obtain ⟨q_36, h⟩ := h
    refine XF.lift (pc2 := 37) (ls2 := [some (.ref 69), some (.int x1), some (.int x2), none, none]) (st2 := [.int (I 101 x2.toNatClampNeg)]) (I2 := I) ?_ (fun r I' hk => by
        refine XW.icmp_ge eX10_serve_28 (fun z => absurd z c_28) (fun _ => ?_)
        refine XW.aload_n eX10_serve_31 rfl ?_
        refine XW.getR (b := 101) eX10_serve_32 f10_114_10 rfl (so_69 hs) (sr_69_42 hs) ?_
        refine XW.iload_n eX10_serve_35 rfl ?_
        refine XW.iaload eX10_serve_36 (sa_101 hs) q_36 ?_
        exact hk)
    obtain ⟨ht, hf⟩ := h
    refine XF.br (P := (I 101 x2.toNatClampNeg) < 0) (fun c_37 => ?_) (fun c_37 => ?_)
    ·
      replace h := ht c_37
      refine XF.lift (pc2 := 24) (ls2 := [some (.ref 69), some (.int x1), some (.int (x2 + 1)), none, none]) (st2 := []) (I2 := I) ?_ (fun r I' hk => by
          refine XW.if_lt eX10_serve_37 (fun _ => ?_) (fun z => absurd c_37 z)
          refine XW.iinc (y := (x2 + 1)) (ls' := [some (.ref 69), some (.int x1), some (.int (x2 + 1)), none, none]) eX10_serve_131 rfl rfl rfl ?_
          refine XW.goto eX10_serve_134 ?_
          exact hk)
      exact h
    ·
      replace h := hf c_37
      refine XF.lift (pc2 := 45) (ls2 := [some (.ref 69), some (.int x1), some (.int x2), some (.int x2), some (.int 0)]) (st2 := []) (I2 := I) ?_ (fun r I' hk => by
          refine XW.if_lt eX10_serve_37 (fun z => absurd z c_37) (fun _ => ?_)
          refine XW.iload_n eX10_serve_40 rfl ?_
          refine XW.istore_n (ls' := [some (.ref 69), some (.int x1), some (.int x2), some (.int x2), none]) eX10_serve_41 (Nat.le_of_ble_eq_true rfl) rfl ?_
          refine XW.iconst (v := 0) eX10_serve_42 (by decide) ?_
          refine XW.istore (ls' := [some (.ref 69), some (.int x1), some (.int x2), some (.int x2), some (.int 0)]) eX10_serve_43 (Nat.le_of_ble_eq_true rfl) rfl ?_
          exact hk)
      exact h
set_option maxRecDepth 100000 in
set_option maxHeartbeats 4000000 in
theorem VX10_serve_139 {l : Launch} {C : xC} {G : xG} (hs : SH G)  (I : xI) (x1 x2 : Int32) {Q : Unit → xI → Prop} (h :
    ((28561 ≤ x2 → Q () I) ∧ (¬ (28561 ≤ x2) → vp_in x2 28561 ∧ XF fV l C mX10_serve 139 [some (.ref 69), some (.int x1), some (.int (x2 + 1)), none, none] [] G (wI I 101 x2.toNatClampNeg (I 102 x2.toNatClampNeg)) Q))) : XF fV l C mX10_serve 139 [some (.ref 69), some (.int x1), some (.int x2), none, none] [] G I Q := by
  refine XF.lift (pc2 := 143) (ls2 := [some (.ref 69), some (.int x1), some (.int x2), none, none]) (st2 := [.int 28561, .int x2]) (I2 := I) ?_ (fun r I' hk => by
      refine XW.iload_n eX10_serve_139 rfl ?_
      refine XW.sipush (v := 28561) eX10_serve_140 (by decide) ?_
      exact hk)
  obtain ⟨ht, hf⟩ := h
  refine XF.br (P := 28561 ≤ x2) (fun c_143 => ?_) (fun c_143 => ?_)
  ·
    replace h := ht c_143
    refine XF.lift (pc2 := 164) (ls2 := [some (.ref 69), some (.int x1), some (.int x2), none, none]) (st2 := []) (I2 := I) ?_ (fun r I' hk => by
        refine XW.icmp_ge eX10_serve_143 (fun _ => ?_) (fun z => absurd c_143 z)
        exact hk)
    exact ⟨(), I, XW.vret eX10_serve_164 rfl rfl rfl rfl, h⟩
  ·
    replace h := hf c_143
    obtain ⟨q_156, h⟩ := h
    refine XF.lift (pc2 := 139) (ls2 := [some (.ref 69), some (.int x1), some (.int (x2 + 1)), none, none]) (st2 := []) (I2 := (wI I 101 x2.toNatClampNeg (I 102 x2.toNatClampNeg))) ?_ (fun r I' hk => by
        refine XW.icmp_ge eX10_serve_143 (fun z => absurd z c_143) (fun _ => ?_)
        refine XW.aload_n eX10_serve_146 rfl ?_
        refine XW.getR (b := 101) eX10_serve_147 f10_114_10 rfl (so_69 hs) (sr_69_42 hs) ?_
        refine XW.iload_n eX10_serve_150 rfl ?_
        refine XW.aload_n eX10_serve_151 rfl ?_
        refine XW.getR (b := 102) eX10_serve_152 f10_117_10 rfl (so_69 hs) (sr_69_43 hs) ?_
        refine XW.iload_n eX10_serve_155 rfl ?_
        refine XW.iaload eX10_serve_156 (sa_102 hs) q_156 ?_
        refine XW.iastore eX10_serve_157 (sa_101 hs) q_156 ?_
        refine XW.iinc (y := (x2 + 1)) (ls' := [some (.ref 69), some (.int x1), some (.int (x2 + 1)), none, none]) eX10_serve_158 rfl rfl rfl ?_
        refine XW.goto eX10_serve_161 ?_
        exact hk)
    exact h
set_option maxRecDepth 100000 in
set_option maxHeartbeats 4000000 in
theorem VX10_serve_45 {l : Launch} {C : xC} {G : xG} (hs : SH G)  (I : xI) (x1 x2 x3 x4 : Int32) {Q : Unit → xI → Prop} (h :
    (((I 69 1) ≤ x4 → vp_in x2 28561 ∧ vp_in x3 28561 ∧ (((I 101 x2.toNatClampNeg) ≤ (I 102 x3.toNatClampNeg) → XF fV l C mX10_serve 24 [some (.ref 69), some (.int x1), some (.int (x2 + 1)), none, none] [] G (wI I 102 x3.toNatClampNeg (I 102 x3.toNatClampNeg)) Q) ∧ (¬ ((I 101 x2.toNatClampNeg) ≤ (I 102 x3.toNatClampNeg)) → XF fV l C mX10_serve 24 [some (.ref 69), some (.int x1), some (.int (x2 + 1)), none, none] [] G (wI I 102 x3.toNatClampNeg (I 101 x2.toNatClampNeg)) Q))) ∧ (¬ ((I 69 1) ≤ x4) → (∃ Qc : Int32 → xI → Prop, XF fI l C mX10_lengthIn 0 (xent mX10_lengthIn [.int x2, .int x4]) [] G I Qc ∧ ∀ (v_58 : Int32) (I_58 : xI), Qc v_58 I_58 → ((v_58 ≤ 0 → XF fV l C mX10_serve 45 [some (.ref 69), some (.int x1), some (.int x2), some (.int (x3 - 0)), some (.int (x4 + 1))] [] G I_58 Q) ∧ (¬ (v_58 ≤ 0) → vp_in x4 4 ∧ ¬ (I_58 72 x4.toNatClampNeg) = 0 ∧ ((((x1 + 1) - (x1 + 1) / (I_58 72 x4.toNatClampNeg) * (I_58 72 x4.toNatClampNeg)) = 0 → (∃ Qc : Int32 → xI → Prop, XF fI l C mX10_place 0 (xent mX10_place [.int x4]) [] G I_58 Qc ∧ ∀ (v_80 : Int32) (I_80 : xI), Qc v_80 I_80 → XF fV l C mX10_serve 45 [some (.ref 69), some (.int x1), some (.int x2), some (.int (x3 - v_80)), some (.int (x4 + 1))] [] G I_80 Q)) ∧ (¬ (((x1 + 1) - (x1 + 1) / (I_58 72 x4.toNatClampNeg) * (I_58 72 x4.toNatClampNeg)) = 0) → XF fV l C mX10_serve 45 [some (.ref 69), some (.int x1), some (.int x2), some (.int (x3 - 0)), some (.int (x4 + 1))] [] G I_58 Q)))))))) : XF fV l C mX10_serve 45 [some (.ref 69), some (.int x1), some (.int x2), some (.int x3), some (.int x4)] [] G I Q := by
  refine XF.lift (pc2 := 51) (ls2 := [some (.ref 69), some (.int x1), some (.int x2), some (.int x3), some (.int x4)]) (st2 := [.int (I 69 1), .int x4]) (I2 := I) ?_ (fun r I' hk => by
      refine XW.iload eX10_serve_45 rfl ?_
      refine XW.aload_n eX10_serve_47 rfl ?_
      refine XW.getI eX10_serve_48 f10_13_10 rfl (so_69 hs) ?_
      exact hk)
  obtain ⟨ht, hf⟩ := h
  refine XF.br (P := (I 69 1) ≤ x4) (fun c_51 => ?_) (fun c_51 => ?_)
  ·
    replace h := ht c_51
    obtain ⟨q_105, h⟩ := h
    obtain ⟨q_111, h⟩ := h
    refine XF.lift (pc2 := 112) (ls2 := [some (.ref 69), some (.int x1), some (.int x2), some (.int x3), some (.int x4)]) (st2 := [.int (I 102 x3.toNatClampNeg), .int (I 101 x2.toNatClampNeg), .int x3, .ref 102]) (I2 := I) ?_ (fun r I' hk => by
        refine XW.icmp_ge eX10_serve_51 (fun _ => ?_) (fun z => absurd c_51 z)
        refine XW.aload_n eX10_serve_95 rfl ?_
        refine XW.getR (b := 102) eX10_serve_96 f10_117_10 rfl (so_69 hs) (sr_69_43 hs) ?_
        refine XW.iload_n eX10_serve_99 rfl ?_
        refine XW.aload_n eX10_serve_100 rfl ?_
        refine XW.getR (b := 101) eX10_serve_101 f10_114_10 rfl (so_69 hs) (sr_69_42 hs) ?_
        refine XW.iload_n eX10_serve_104 rfl ?_
        refine XW.iaload eX10_serve_105 (sa_101 hs) q_105 ?_
        refine XW.aload_n eX10_serve_106 rfl ?_
        refine XW.getR (b := 102) eX10_serve_107 f10_117_10 rfl (so_69 hs) (sr_69_43 hs) ?_
        refine XW.iload_n eX10_serve_110 rfl ?_
        refine XW.iaload eX10_serve_111 (sa_102 hs) q_111 ?_
        exact hk)
    obtain ⟨ht, hf⟩ := h
    refine XF.br (P := (I 101 x2.toNatClampNeg) ≤ (I 102 x3.toNatClampNeg)) (fun c_112 => ?_) (fun c_112 => ?_)
    ·
      replace h := ht c_112
      refine XF.lift (pc2 := 24) (ls2 := [some (.ref 69), some (.int x1), some (.int (x2 + 1)), none, none]) (st2 := []) (I2 := (wI I 102 x3.toNatClampNeg (I 102 x3.toNatClampNeg))) ?_ (fun r I' hk => by
          refine XW.icmp_le eX10_serve_112 (fun _ => ?_) (fun z => absurd c_112 z)
          refine XW.aload_n eX10_serve_124 rfl ?_
          refine XW.getR (b := 102) eX10_serve_125 f10_117_10 rfl (so_69 hs) (sr_69_43 hs) ?_
          refine XW.iload_n eX10_serve_128 rfl ?_
          refine XW.iaload eX10_serve_129 (sa_102 hs) q_111 ?_
          refine XW.iastore eX10_serve_130 (sa_102 hs) q_111 ?_
          refine XW.iinc (y := (x2 + 1)) (ls' := [some (.ref 69), some (.int x1), some (.int (x2 + 1)), some (.int x3), some (.int x4)]) eX10_serve_131 rfl rfl rfl ?_
          refine XW.goto eX10_serve_134 ?_
          refine XW.forget 3 rfl ?_
          refine XW.forget 4 rfl ?_
          exact hk)
      exact h
    ·
      replace h := hf c_112
      refine XF.lift (pc2 := 24) (ls2 := [some (.ref 69), some (.int x1), some (.int (x2 + 1)), none, none]) (st2 := []) (I2 := (wI I 102 x3.toNatClampNeg (I 101 x2.toNatClampNeg))) ?_ (fun r I' hk => by
          refine XW.icmp_le eX10_serve_112 (fun z => absurd z c_112) (fun _ => ?_)
          refine XW.aload_n eX10_serve_115 rfl ?_
          refine XW.getR (b := 101) eX10_serve_116 f10_114_10 rfl (so_69 hs) (sr_69_42 hs) ?_
          refine XW.iload_n eX10_serve_119 rfl ?_
          refine XW.iaload eX10_serve_120 (sa_101 hs) q_105 ?_
          refine XW.goto eX10_serve_121 ?_
          refine XW.iastore eX10_serve_130 (sa_102 hs) q_111 ?_
          refine XW.iinc (y := (x2 + 1)) (ls' := [some (.ref 69), some (.int x1), some (.int (x2 + 1)), some (.int x3), some (.int x4)]) eX10_serve_131 rfl rfl rfl ?_
          refine XW.goto eX10_serve_134 ?_
          refine XW.forget 3 rfl ?_
          refine XW.forget 4 rfl ?_
          exact hk)
      exact h
  ·
    replace h := hf c_51
    refine XF.lift (pc2 := 58) (ls2 := [some (.ref 69), some (.int x1), some (.int x2), some (.int x3), some (.int x4)]) (st2 := [.int x4, .int x2, .int x3]) (I2 := I) ?_ (fun r I' hk => by
        refine XW.icmp_ge eX10_serve_51 (fun z => absurd z c_51) (fun _ => ?_)
        refine XW.iload_n eX10_serve_54 rfl ?_
        refine XW.iload_n eX10_serve_55 rfl ?_
        refine XW.iload eX10_serve_56 rfl ?_
        exact hk)
    obtain ⟨Qc, hc, h⟩ := h
    refine XF.call (nx := 61) (st := [.int x3]) hc (fun v I1 r I' hY hk => XW.callS (As := [.int x2, .int x4]) (st := [.int x3]) eX10_serve_58 okX10_lengthIn cs10_224 rfl hY (xnum rfl rfl rfl rfl rfl) hk) (fun v_58 I_58 hq => ?_)
    replace h := h v_58 I_58 hq
    obtain ⟨ht, hf⟩ := h
    refine XF.br (P := v_58 ≤ 0) (fun c_61 => ?_) (fun c_61 => ?_)
    ·
      replace h := ht c_61
      refine XF.lift (pc2 := 45) (ls2 := [some (.ref 69), some (.int x1), some (.int x2), some (.int (x3 - 0)), some (.int (x4 + 1))]) (st2 := []) (I2 := I_58) ?_ (fun r I' hk => by
          refine XW.if_le eX10_serve_61 (fun _ => ?_) (fun z => absurd c_61 z)
          refine XW.iconst (v := 0) eX10_serve_86 (by decide) ?_
          refine XW.isub eX10_serve_87 ?_
          refine XW.istore_n (ls' := [some (.ref 69), some (.int x1), some (.int x2), some (.int (x3 - 0)), some (.int x4)]) eX10_serve_88 (Nat.le_of_ble_eq_true rfl) rfl ?_
          refine XW.iinc (y := (x4 + 1)) (ls' := [some (.ref 69), some (.int x1), some (.int x2), some (.int (x3 - 0)), some (.int (x4 + 1))]) eX10_serve_89 rfl rfl rfl ?_
          refine XW.goto eX10_serve_92 ?_
          exact hk)
      exact h
    ·
      replace h := hf c_61
      obtain ⟨q_73, h⟩ := h
      obtain ⟨z_74, h⟩ := h
      refine XF.lift (pc2 := 75) (ls2 := [some (.ref 69), some (.int x1), some (.int x2), some (.int x3), some (.int x4)]) (st2 := [.int ((x1 + 1) - (x1 + 1) / (I_58 72 x4.toNatClampNeg) * (I_58 72 x4.toNatClampNeg)), .int x3]) (I2 := I_58) ?_ (fun r I' hk => by
          refine XW.if_le eX10_serve_61 (fun z => absurd z c_61) (fun _ => ?_)
          refine XW.iload_n eX10_serve_64 rfl ?_
          refine XW.iconst (v := 1) eX10_serve_65 (by decide) ?_
          refine XW.iadd eX10_serve_66 ?_
          refine XW.aload_n eX10_serve_67 rfl ?_
          refine XW.getR (b := 72) eX10_serve_68 f10_23_10 rfl (so_69 hs) (sr_69_4 hs) ?_
          refine XW.iload eX10_serve_71 rfl ?_
          refine XW.iaload eX10_serve_73 (sa_72 hs) q_73 ?_
          refine XW.irem eX10_serve_74 z_74 ?_
          exact hk)
      obtain ⟨ht, hf⟩ := h
      refine XF.br (P := ((x1 + 1) - (x1 + 1) / (I_58 72 x4.toNatClampNeg) * (I_58 72 x4.toNatClampNeg)) = 0) (fun c_75 => ?_) (fun c_75 => ?_)
      ·
        replace h := ht c_75
        refine XF.lift (pc2 := 80) (ls2 := [some (.ref 69), some (.int x1), some (.int x2), some (.int x3), some (.int x4)]) (st2 := [.int x4, .int x3]) (I2 := I_58) ?_ (fun r I' hk => by
            refine XW.if_ne eX10_serve_75 (fun z => absurd c_75 z) (fun _ => ?_)
            refine XW.iload eX10_serve_78 rfl ?_
            exact hk)
        obtain ⟨Qc, hc, h⟩ := h
        refine XF.call (nx := 83) (st := [.int x3]) hc (fun v I1 r I' hY hk => XW.callS (As := [.int x4]) (st := [.int x3]) eX10_serve_80 okX10_place cs10_218 rfl hY (xnum rfl rfl rfl rfl rfl) hk) (fun v_80 I_80 hq => ?_)
        replace h := h v_80 I_80 hq
        refine XF.lift (pc2 := 45) (ls2 := [some (.ref 69), some (.int x1), some (.int x2), some (.int (x3 - v_80)), some (.int (x4 + 1))]) (st2 := []) (I2 := I_80) ?_ (fun r I' hk => by
            refine XW.goto eX10_serve_83 ?_
            refine XW.isub eX10_serve_87 ?_
            refine XW.istore_n (ls' := [some (.ref 69), some (.int x1), some (.int x2), some (.int (x3 - v_80)), some (.int x4)]) eX10_serve_88 (Nat.le_of_ble_eq_true rfl) rfl ?_
            refine XW.iinc (y := (x4 + 1)) (ls' := [some (.ref 69), some (.int x1), some (.int x2), some (.int (x3 - v_80)), some (.int (x4 + 1))]) eX10_serve_89 rfl rfl rfl ?_
            refine XW.goto eX10_serve_92 ?_
            exact hk)
        exact h
      ·
        replace h := hf c_75
        refine XF.lift (pc2 := 45) (ls2 := [some (.ref 69), some (.int x1), some (.int x2), some (.int (x3 - 0)), some (.int (x4 + 1))]) (st2 := []) (I2 := I_58) ?_ (fun r I' hk => by
            refine XW.if_ne eX10_serve_75 (fun _ => ?_) (fun z => absurd z c_75)
            refine XW.iconst (v := 0) eX10_serve_86 (by decide) ?_
            refine XW.isub eX10_serve_87 ?_
            refine XW.istore_n (ls' := [some (.ref 69), some (.int x1), some (.int x2), some (.int (x3 - 0)), some (.int x4)]) eX10_serve_88 (Nat.le_of_ble_eq_true rfl) rfl ?_
            refine XW.iinc (y := (x4 + 1)) (ls' := [some (.ref 69), some (.int x1), some (.int x2), some (.int (x3 - 0)), some (.int (x4 + 1))]) eX10_serve_89 rfl rfl rfl ?_
            refine XW.goto eX10_serve_92 ?_
            exact hk)
        exact h
set_option maxRecDepth 100000 in
set_option maxHeartbeats 4000000 in
theorem VX10_best {l : Launch} {C : xC} {G : xG} (hs : SH G)  (I : xI) (y1 : Int32) {Q : Int32 → xI → Prop} (h :
    (∃ Qc : Int32 → xI → Prop, XF fI l C mX10_isRow 0 (xent mX10_isRow [.int y1]) [] G I Qc ∧ ∀ (v_1 : Int32) (I_1 : xI), Qc v_1 I_1 → ((v_1 = 0 → Q (-1) I_1) ∧ (¬ (v_1 = 0) → XF fI l C mX10_best 11 [some (.ref 69), some (.int y1), some (.int 0), none, none] [] G I_1 Q)))) : XF fI l C mX10_best 0 (xent mX10_best [.ref 69, .int y1]) [] G I Q := by
  show XF fI l C mX10_best 0 [some (.ref 69), some (.int y1), none, none, none] [] G I Q
  refine XF.lift (pc2 := 1) (ls2 := [some (.ref 69), some (.int y1), none, none, none]) (st2 := [.int y1]) (I2 := I) ?_ (fun r I' hk => by
      refine XW.iload_n eX10_best_0 rfl ?_
      exact hk)
  obtain ⟨Qc, hc, h⟩ := h
  refine XF.call (nx := 4) (st := []) hc (fun v I1 r I' hY hk => XW.callS (As := [.int y1]) (st := []) eX10_best_1 okX10_isRow cs10_141 rfl hY (xnum rfl rfl rfl rfl rfl) hk) (fun v_1 I_1 hq => ?_)
  replace h := h v_1 I_1 hq
  obtain ⟨ht, hf⟩ := h
  refine XF.br (P := v_1 = 0) (fun c_4 => ?_) (fun c_4 => ?_)
  ·
    replace h := ht c_4
    refine XF.lift (pc2 := 8) (ls2 := [some (.ref 69), some (.int y1), none, none, none]) (st2 := [.int (-1)]) (I2 := I_1) ?_ (fun r I' hk => by
        refine XW.if_ne eX10_best_4 (fun z => absurd c_4 z) (fun _ => ?_)
        refine XW.iconst (v := (-1)) eX10_best_7 (by decide) ?_
        exact hk)
    exact ⟨(-1), I_1, XW.iret eX10_best_8 rfl rfl rfl rfl rfl, h⟩
  ·
    replace h := hf c_4
    refine XF.lift (pc2 := 11) (ls2 := [some (.ref 69), some (.int y1), some (.int 0), none, none]) (st2 := []) (I2 := I_1) ?_ (fun r I' hk => by
        refine XW.if_ne eX10_best_4 (fun _ => ?_) (fun z => absurd z c_4)
        refine XW.iconst (v := 0) eX10_best_9 (by decide) ?_
        refine XW.istore_n (ls' := [some (.ref 69), some (.int y1), some (.int 0), none, none]) eX10_best_10 (Nat.le_of_ble_eq_true rfl) rfl ?_
        exact hk)
    exact h
set_option maxRecDepth 100000 in
set_option maxHeartbeats 4000000 in
theorem VX10_best_11 {l : Launch} {C : xC} {G : xG} (hs : SH G)  (I : xI) (x1 x2 : Int32) {Q : Int32 → xI → Prop} (h :
    ((28561 ≤ x2 → XF fI l C mX10_best 43 [some (.ref 69), some (.int x1), some (.int 0), some (.int 0), none] [] G I Q) ∧ (¬ (28561 ≤ x2) → ((x2 = 0 → vp_in x2 28561 ∧ XF fI l C mX10_best 11 [some (.ref 69), some (.int x1), some (.int (x2 + 1)), none, none] [] G (wI I 101 x2.toNatClampNeg 0) Q) ∧ (¬ (x2 = 0) → vp_in x2 28561 ∧ XF fI l C mX10_best 11 [some (.ref 69), some (.int x1), some (.int (x2 + 1)), none, none] [] G (wI I 101 x2.toNatClampNeg (-1)) Q))))) : XF fI l C mX10_best 11 [some (.ref 69), some (.int x1), some (.int x2), none, none] [] G I Q := by
  refine XF.lift (pc2 := 15) (ls2 := [some (.ref 69), some (.int x1), some (.int x2), none, none]) (st2 := [.int 28561, .int x2]) (I2 := I) ?_ (fun r I' hk => by
      refine XW.iload_n eX10_best_11 rfl ?_
      refine XW.sipush (v := 28561) eX10_best_12 (by decide) ?_
      exact hk)
  obtain ⟨ht, hf⟩ := h
  refine XF.br (P := 28561 ≤ x2) (fun c_15 => ?_) (fun c_15 => ?_)
  ·
    replace h := ht c_15
    refine XF.lift (pc2 := 43) (ls2 := [some (.ref 69), some (.int x1), some (.int 0), some (.int 0), none]) (st2 := []) (I2 := I) ?_ (fun r I' hk => by
        refine XW.icmp_ge eX10_best_15 (fun _ => ?_) (fun z => absurd c_15 z)
        refine XW.iconst (v := 0) eX10_best_39 (by decide) ?_
        refine XW.istore_n (ls' := [some (.ref 69), some (.int x1), some (.int 0), none, none]) eX10_best_40 (Nat.le_of_ble_eq_true rfl) rfl ?_
        refine XW.iconst (v := 0) eX10_best_41 (by decide) ?_
        refine XW.istore_n (ls' := [some (.ref 69), some (.int x1), some (.int 0), some (.int 0), none]) eX10_best_42 (Nat.le_of_ble_eq_true rfl) rfl ?_
        exact hk)
    exact h
  ·
    replace h := hf c_15
    refine XF.lift (pc2 := 24) (ls2 := [some (.ref 69), some (.int x1), some (.int x2), none, none]) (st2 := [.int x2, .int x2, .ref 101]) (I2 := I) ?_ (fun r I' hk => by
        refine XW.icmp_ge eX10_best_15 (fun z => absurd z c_15) (fun _ => ?_)
        refine XW.aload_n eX10_best_18 rfl ?_
        refine XW.getR (b := 101) eX10_best_19 f10_114_10 rfl (so_69 hs) (sr_69_42 hs) ?_
        refine XW.iload_n eX10_best_22 rfl ?_
        refine XW.iload_n eX10_best_23 rfl ?_
        exact hk)
    obtain ⟨ht, hf⟩ := h
    refine XF.br (P := x2 = 0) (fun c_24 => ?_) (fun c_24 => ?_)
    ·
      replace h := ht c_24
      obtain ⟨q_32, h⟩ := h
      refine XF.lift (pc2 := 11) (ls2 := [some (.ref 69), some (.int x1), some (.int (x2 + 1)), none, none]) (st2 := []) (I2 := (wI I 101 x2.toNatClampNeg 0)) ?_ (fun r I' hk => by
          refine XW.if_ne eX10_best_24 (fun z => absurd c_24 z) (fun _ => ?_)
          refine XW.iconst (v := 0) eX10_best_27 (by decide) ?_
          refine XW.goto eX10_best_28 ?_
          refine XW.iastore eX10_best_32 (sa_101 hs) q_32 ?_
          refine XW.iinc (y := (x2 + 1)) (ls' := [some (.ref 69), some (.int x1), some (.int (x2 + 1)), none, none]) eX10_best_33 rfl rfl rfl ?_
          refine XW.goto eX10_best_36 ?_
          exact hk)
      exact h
    ·
      replace h := hf c_24
      obtain ⟨q_32, h⟩ := h
      refine XF.lift (pc2 := 11) (ls2 := [some (.ref 69), some (.int x1), some (.int (x2 + 1)), none, none]) (st2 := []) (I2 := (wI I 101 x2.toNatClampNeg (-1))) ?_ (fun r I' hk => by
          refine XW.if_ne eX10_best_24 (fun _ => ?_) (fun z => absurd z c_24)
          refine XW.iconst (v := (-1)) eX10_best_31 (by decide) ?_
          refine XW.iastore eX10_best_32 (sa_101 hs) q_32 ?_
          refine XW.iinc (y := (x2 + 1)) (ls' := [some (.ref 69), some (.int x1), some (.int (x2 + 1)), none, none]) eX10_best_33 rfl rfl rfl ?_
          refine XW.goto eX10_best_36 ?_
          exact hk)
      exact h
set_option maxRecDepth 100000 in
set_option maxHeartbeats 4000000 in
theorem VX10_best_43 {l : Launch} {C : xC} {G : xG} (hs : SH G)  (I : xI) (x1 x2 x3 : Int32) {Q : Int32 → xI → Prop} (h :
    ((40 ≤ x3 → XF fI l C mX10_best 121 [some (.ref 69), some (.int x1), some (.int x2), some (.int 0), some (.int 0)] [] G I Q) ∧ (¬ (40 ≤ x3) → vp_in x1 4 ∧ (((I 81 x1.toNatClampNeg) ≤ x2 → XF fI l C mX10_best 121 [some (.ref 69), some (.int x1), some (.int x2), some (.int 0), some (.int 0)] [] G I Q) ∧ (¬ ((I 81 x1.toNatClampNeg) ≤ x2) → XF fI l C mX10_best 59 [some (.ref 69), some (.int x1), some (.int x2), some (.int x3), none] [] G I Q))))) : XF fI l C mX10_best 43 [some (.ref 69), some (.int x1), some (.int x2), some (.int x3), none] [] G I Q := by
  refine XF.lift (pc2 := 46) (ls2 := [some (.ref 69), some (.int x1), some (.int x2), some (.int x3), none]) (st2 := [.int 40, .int x3]) (I2 := I) ?_ (fun r I' hk => by
      refine XW.iload_n eX10_best_43 rfl ?_
      refine XW.bipush (v := 40) eX10_best_44 (by decide) ?_
      exact hk)
  obtain ⟨ht, hf⟩ := h
  refine XF.br (P := 40 ≤ x3) (fun c_46 => ?_) (fun c_46 => ?_)
  ·
    replace h := ht c_46
    refine XF.lift (pc2 := 121) (ls2 := [some (.ref 69), some (.int x1), some (.int x2), some (.int 0), some (.int 0)]) (st2 := []) (I2 := I) ?_ (fun r I' hk => by
        refine XW.icmp_ge eX10_best_46 (fun _ => ?_) (fun z => absurd c_46 z)
        refine XW.iconst (v := 0) eX10_best_116 (by decide) ?_
        refine XW.istore_n (ls' := [some (.ref 69), some (.int x1), some (.int x2), some (.int 0), none]) eX10_best_117 (Nat.le_of_ble_eq_true rfl) rfl ?_
        refine XW.iconst (v := 0) eX10_best_118 (by decide) ?_
        refine XW.istore (ls' := [some (.ref 69), some (.int x1), some (.int x2), some (.int 0), some (.int 0)]) eX10_best_119 (Nat.le_of_ble_eq_true rfl) rfl ?_
        exact hk)
    exact h
  ·
    replace h := hf c_46
    obtain ⟨q_55, h⟩ := h
    refine XF.lift (pc2 := 56) (ls2 := [some (.ref 69), some (.int x1), some (.int x2), some (.int x3), none]) (st2 := [.int (I 81 x1.toNatClampNeg), .int x2]) (I2 := I) ?_ (fun r I' hk => by
        refine XW.icmp_ge eX10_best_46 (fun z => absurd z c_46) (fun _ => ?_)
        refine XW.iload_n eX10_best_49 rfl ?_
        refine XW.aload_n eX10_best_50 rfl ?_
        refine XW.getR (b := 81) eX10_best_51 f10_53_10 rfl (so_69 hs) (sr_69_14 hs) ?_
        refine XW.iload_n eX10_best_54 rfl ?_
        refine XW.iaload eX10_best_55 (sa_81 hs) q_55 ?_
        exact hk)
    obtain ⟨ht, hf⟩ := h
    refine XF.br (P := (I 81 x1.toNatClampNeg) ≤ x2) (fun c_56 => ?_) (fun c_56 => ?_)
    ·
      replace h := ht c_56
      refine XF.lift (pc2 := 121) (ls2 := [some (.ref 69), some (.int x1), some (.int x2), some (.int 0), some (.int 0)]) (st2 := []) (I2 := I) ?_ (fun r I' hk => by
          refine XW.icmp_ge eX10_best_56 (fun _ => ?_) (fun z => absurd c_56 z)
          refine XW.iconst (v := 0) eX10_best_116 (by decide) ?_
          refine XW.istore_n (ls' := [some (.ref 69), some (.int x1), some (.int x2), some (.int 0), none]) eX10_best_117 (Nat.le_of_ble_eq_true rfl) rfl ?_
          refine XW.iconst (v := 0) eX10_best_118 (by decide) ?_
          refine XW.istore (ls' := [some (.ref 69), some (.int x1), some (.int x2), some (.int 0), some (.int 0)]) eX10_best_119 (Nat.le_of_ble_eq_true rfl) rfl ?_
          exact hk)
      exact h
    ·
      replace h := hf c_56
      refine XF.lift (pc2 := 59) (ls2 := [some (.ref 69), some (.int x1), some (.int x2), some (.int x3), none]) (st2 := []) (I2 := I) ?_ (fun r I' hk => by
          refine XW.icmp_ge eX10_best_56 (fun z => absurd z c_56) (fun _ => ?_)
          exact hk)
      exact h
set_option maxRecDepth 100000 in
set_option maxHeartbeats 4000000 in
theorem VX10_best_121 {l : Launch} {C : xC} {G : xG} (hs : SH G)  (I : xI) (x1 x2 x3 x4 : Int32) {Q : Int32 → xI → Prop} (h :
    ((28561 ≤ x4 → Q x3 I) ∧ (¬ (28561 ≤ x4) → vp_in x4 28561 ∧ (((I 101 x4.toNatClampNeg) ≤ x3 → XF fI l C mX10_best 121 [some (.ref 69), some (.int x1), some (.int x2), some (.int x3), some (.int (x4 + 1))] [] G I Q) ∧ (¬ ((I 101 x4.toNatClampNeg) ≤ x3) → XF fI l C mX10_best 121 [some (.ref 69), some (.int x1), some (.int x2), some (.int (I 101 x4.toNatClampNeg)), some (.int (x4 + 1))] [] G I Q))))) : XF fI l C mX10_best 121 [some (.ref 69), some (.int x1), some (.int x2), some (.int x3), some (.int x4)] [] G I Q := by
  refine XF.lift (pc2 := 126) (ls2 := [some (.ref 69), some (.int x1), some (.int x2), some (.int x3), some (.int x4)]) (st2 := [.int 28561, .int x4]) (I2 := I) ?_ (fun r I' hk => by
      refine XW.iload eX10_best_121 rfl ?_
      refine XW.sipush (v := 28561) eX10_best_123 (by decide) ?_
      exact hk)
  obtain ⟨ht, hf⟩ := h
  refine XF.br (P := 28561 ≤ x4) (fun c_126 => ?_) (fun c_126 => ?_)
  ·
    replace h := ht c_126
    refine XF.lift (pc2 := 159) (ls2 := [some (.ref 69), some (.int x1), some (.int x2), some (.int x3), some (.int x4)]) (st2 := [.int x3]) (I2 := I) ?_ (fun r I' hk => by
        refine XW.icmp_ge eX10_best_126 (fun _ => ?_) (fun z => absurd c_126 z)
        refine XW.iload_n eX10_best_158 rfl ?_
        exact hk)
    exact ⟨x3, I, XW.iret eX10_best_159 rfl rfl rfl rfl rfl, h⟩
  ·
    replace h := hf c_126
    obtain ⟨q_135, h⟩ := h
    refine XF.lift (pc2 := 137) (ls2 := [some (.ref 69), some (.int x1), some (.int x2), some (.int x3), some (.int x4)]) (st2 := [.int x3, .int (I 101 x4.toNatClampNeg)]) (I2 := I) ?_ (fun r I' hk => by
        refine XW.icmp_ge eX10_best_126 (fun z => absurd z c_126) (fun _ => ?_)
        refine XW.aload_n eX10_best_129 rfl ?_
        refine XW.getR (b := 101) eX10_best_130 f10_114_10 rfl (so_69 hs) (sr_69_42 hs) ?_
        refine XW.iload eX10_best_133 rfl ?_
        refine XW.iaload eX10_best_135 (sa_101 hs) q_135 ?_
        refine XW.iload_n eX10_best_136 rfl ?_
        exact hk)
    obtain ⟨ht, hf⟩ := h
    refine XF.br (P := (I 101 x4.toNatClampNeg) ≤ x3) (fun c_137 => ?_) (fun c_137 => ?_)
    ·
      replace h := ht c_137
      refine XF.lift (pc2 := 121) (ls2 := [some (.ref 69), some (.int x1), some (.int x2), some (.int x3), some (.int (x4 + 1))]) (st2 := []) (I2 := I) ?_ (fun r I' hk => by
          refine XW.icmp_le eX10_best_137 (fun _ => ?_) (fun z => absurd c_137 z)
          refine XW.iload_n eX10_best_150 rfl ?_
          refine XW.istore_n (ls' := [some (.ref 69), some (.int x1), some (.int x2), some (.int x3), some (.int x4)]) eX10_best_151 (Nat.le_of_ble_eq_true rfl) rfl ?_
          refine XW.iinc (y := (x4 + 1)) (ls' := [some (.ref 69), some (.int x1), some (.int x2), some (.int x3), some (.int (x4 + 1))]) eX10_best_152 rfl rfl rfl ?_
          refine XW.goto eX10_best_155 ?_
          exact hk)
      exact h
    ·
      replace h := hf c_137
      refine XF.lift (pc2 := 121) (ls2 := [some (.ref 69), some (.int x1), some (.int x2), some (.int (I 101 x4.toNatClampNeg)), some (.int (x4 + 1))]) (st2 := []) (I2 := I) ?_ (fun r I' hk => by
          refine XW.icmp_le eX10_best_137 (fun z => absurd z c_137) (fun _ => ?_)
          refine XW.aload_n eX10_best_140 rfl ?_
          refine XW.getR (b := 101) eX10_best_141 f10_114_10 rfl (so_69 hs) (sr_69_42 hs) ?_
          refine XW.iload eX10_best_144 rfl ?_
          refine XW.iaload eX10_best_146 (sa_101 hs) q_135 ?_
          refine XW.goto eX10_best_147 ?_
          refine XW.istore_n (ls' := [some (.ref 69), some (.int x1), some (.int x2), some (.int (I 101 x4.toNatClampNeg)), some (.int x4)]) eX10_best_151 (Nat.le_of_ble_eq_true rfl) rfl ?_
          refine XW.iinc (y := (x4 + 1)) (ls' := [some (.ref 69), some (.int x1), some (.int x2), some (.int (I 101 x4.toNatClampNeg)), some (.int (x4 + 1))]) eX10_best_152 rfl rfl rfl ?_
          refine XW.goto eX10_best_155 ?_
          exact hk)
      exact h
set_option maxRecDepth 100000 in
set_option maxHeartbeats 4000000 in
theorem VX10_best_59 {l : Launch} {C : xC} {G : xG} (hs : SH G)  (I : xI) (x1 x2 x3 : Int32) {Q : Int32 → xI → Prop} (h :
    vp_in x1 4 ∧ (((I 81 x1.toNatClampNeg) ≤ x2 → (∃ Qc : Unit → xI → Prop, XF fV l C mX10_serve 0 (xent mX10_serve [.ref 69, .int x3]) [] G I Qc ∧ ∀ (u_107 : Unit) (I_107 : xI), Qc u_107 I_107 → XF fI l C mX10_best 43 [some (.ref 69), some (.int x1), some (.int x2), some (.int (x3 + 1)), none] [] G I_107 Q)) ∧ (¬ ((I 81 x1.toNatClampNeg) ≤ x2) → vp_in ((80 * x1) + x2) 320 ∧ (((I 82 ((80 * x1) + x2).toNatClampNeg) = x3 → (∃ Qc : Unit → xI → Prop, XF fV l C mX10_offer 0 (xent mX10_offer [.ref 69, .int (I 83 ((80 * x1) + x2).toNatClampNeg)]) [] G I Qc ∧ ∀ (u_96 : Unit) (I_96 : xI), Qc u_96 I_96 → XF fI l C mX10_best 59 [some (.ref 69), some (.int x1), some (.int (x2 + 1)), some (.int x3), none] [] G I_96 Q)) ∧ (¬ ((I 82 ((80 * x1) + x2).toNatClampNeg) = x3) → (∃ Qc : Unit → xI → Prop, XF fV l C mX10_serve 0 (xent mX10_serve [.ref 69, .int x3]) [] G I Qc ∧ ∀ (u_107 : Unit) (I_107 : xI), Qc u_107 I_107 → XF fI l C mX10_best 43 [some (.ref 69), some (.int x1), some (.int x2), some (.int (x3 + 1)), none] [] G I_107 Q)))))) : XF fI l C mX10_best 59 [some (.ref 69), some (.int x1), some (.int x2), some (.int x3), none] [] G I Q := by
  obtain ⟨q_65, h⟩ := h
  refine XF.lift (pc2 := 66) (ls2 := [some (.ref 69), some (.int x1), some (.int x2), some (.int x3), none]) (st2 := [.int (I 81 x1.toNatClampNeg), .int x2]) (I2 := I) ?_ (fun r I' hk => by
      refine XW.iload_n eX10_best_59 rfl ?_
      refine XW.aload_n eX10_best_60 rfl ?_
      refine XW.getR (b := 81) eX10_best_61 f10_53_10 rfl (so_69 hs) (sr_69_14 hs) ?_
      refine XW.iload_n eX10_best_64 rfl ?_
      refine XW.iaload eX10_best_65 (sa_81 hs) q_65 ?_
      exact hk)
  obtain ⟨ht, hf⟩ := h
  refine XF.br (P := (I 81 x1.toNatClampNeg) ≤ x2) (fun c_66 => ?_) (fun c_66 => ?_)
  ·
    replace h := ht c_66
    refine XF.lift (pc2 := 107) (ls2 := [some (.ref 69), some (.int x1), some (.int x2), some (.int x3), none]) (st2 := [.int x3, .ref 69]) (I2 := I) ?_ (fun r I' hk => by
        refine XW.icmp_ge eX10_best_66 (fun _ => ?_) (fun z => absurd c_66 z)
        refine XW.aload_n eX10_best_105 rfl ?_
        refine XW.iload_n eX10_best_106 rfl ?_
        exact hk)
    obtain ⟨Qc, hc, h⟩ := h
    refine XF.call (nx := 110) (st := []) hc (fun v I1 r I' hY hk => XW.callV (As := [.int x3]) (st := []) eX10_best_107 okX10_serve cv10_231 rfl (so_69 hs) hY (xnum rfl rfl rfl rfl rfl) hk) (fun _ I_107 hq => ?_)
    replace h := h () I_107 hq
    refine XF.lift (pc2 := 43) (ls2 := [some (.ref 69), some (.int x1), some (.int x2), some (.int (x3 + 1)), none]) (st2 := []) (I2 := I_107) ?_ (fun r I' hk => by
        refine XW.iinc (y := (x3 + 1)) (ls' := [some (.ref 69), some (.int x1), some (.int x2), some (.int (x3 + 1)), none]) eX10_best_110 rfl rfl rfl ?_
        refine XW.goto eX10_best_113 ?_
        exact hk)
    exact h
  ·
    replace h := hf c_66
    obtain ⟨q_79, h⟩ := h
    refine XF.lift (pc2 := 81) (ls2 := [some (.ref 69), some (.int x1), some (.int x2), some (.int x3), none]) (st2 := [.int x3, .int (I 82 ((80 * x1) + x2).toNatClampNeg)]) (I2 := I) ?_ (fun r I' hk => by
        refine XW.icmp_ge eX10_best_66 (fun z => absurd z c_66) (fun _ => ?_)
        refine XW.aload_n eX10_best_69 rfl ?_
        refine XW.getR (b := 82) eX10_best_70 f10_56_10 rfl (so_69 hs) (sr_69_15 hs) ?_
        refine XW.bipush (v := 80) eX10_best_73 (by decide) ?_
        refine XW.iload_n eX10_best_75 rfl ?_
        refine XW.imul eX10_best_76 ?_
        refine XW.iload_n eX10_best_77 rfl ?_
        refine XW.iadd eX10_best_78 ?_
        refine XW.iaload eX10_best_79 (sa_82 hs) q_79 ?_
        refine XW.iload_n eX10_best_80 rfl ?_
        exact hk)
    obtain ⟨ht, hf⟩ := h
    refine XF.br (P := (I 82 ((80 * x1) + x2).toNatClampNeg) = x3) (fun c_81 => ?_) (fun c_81 => ?_)
    ·
      replace h := ht c_81
      refine XF.lift (pc2 := 96) (ls2 := [some (.ref 69), some (.int x1), some (.int x2), some (.int x3), none]) (st2 := [.int (I 83 ((80 * x1) + x2).toNatClampNeg), .ref 69]) (I2 := I) ?_ (fun r I' hk => by
          refine XW.icmp_ne eX10_best_81 (fun z => absurd c_81 z) (fun _ => ?_)
          refine XW.aload_n eX10_best_84 rfl ?_
          refine XW.aload_n eX10_best_85 rfl ?_
          refine XW.getR (b := 83) eX10_best_86 f10_59_10 rfl (so_69 hs) (sr_69_16 hs) ?_
          refine XW.bipush (v := 80) eX10_best_89 (by decide) ?_
          refine XW.iload_n eX10_best_91 rfl ?_
          refine XW.imul eX10_best_92 ?_
          refine XW.iload_n eX10_best_93 rfl ?_
          refine XW.iadd eX10_best_94 ?_
          refine XW.iaload eX10_best_95 (sa_83 hs) q_79 ?_
          exact hk)
      obtain ⟨Qc, hc, h⟩ := h
      refine XF.call (nx := 99) (st := []) hc (fun v I1 r I' hY hk => XW.callV (As := [.int (I 83 ((80 * x1) + x2).toNatClampNeg)]) (st := []) eX10_best_96 okX10_offer cv10_228 rfl (so_69 hs) hY (xnum rfl rfl rfl rfl rfl) hk) (fun _ I_96 hq => ?_)
      replace h := h () I_96 hq
      refine XF.lift (pc2 := 59) (ls2 := [some (.ref 69), some (.int x1), some (.int (x2 + 1)), some (.int x3), none]) (st2 := []) (I2 := I_96) ?_ (fun r I' hk => by
          refine XW.iinc (y := (x2 + 1)) (ls' := [some (.ref 69), some (.int x1), some (.int (x2 + 1)), some (.int x3), none]) eX10_best_99 rfl rfl rfl ?_
          refine XW.goto eX10_best_102 ?_
          exact hk)
      exact h
    ·
      replace h := hf c_81
      refine XF.lift (pc2 := 107) (ls2 := [some (.ref 69), some (.int x1), some (.int x2), some (.int x3), none]) (st2 := [.int x3, .ref 69]) (I2 := I) ?_ (fun r I' hk => by
          refine XW.icmp_ne eX10_best_81 (fun _ => ?_) (fun z => absurd z c_81)
          refine XW.aload_n eX10_best_105 rfl ?_
          refine XW.iload_n eX10_best_106 rfl ?_
          exact hk)
      obtain ⟨Qc, hc, h⟩ := h
      refine XF.call (nx := 110) (st := []) hc (fun v I1 r I' hY hk => XW.callV (As := [.int x3]) (st := []) eX10_best_107 okX10_serve cv10_231 rfl (so_69 hs) hY (xnum rfl rfl rfl rfl rfl) hk) (fun _ I_107 hq => ?_)
      replace h := h () I_107 hq
      refine XF.lift (pc2 := 43) (ls2 := [some (.ref 69), some (.int x1), some (.int x2), some (.int (x3 + 1)), none]) (st2 := []) (I2 := I_107) ?_ (fun r I' hk => by
          refine XW.iinc (y := (x3 + 1)) (ls' := [some (.ref 69), some (.int x1), some (.int x2), some (.int (x3 + 1)), none]) eX10_best_110 rfl rfl rfl ?_
          refine XW.goto eX10_best_113 ?_
          exact hk)
      exact h
set_option maxRecDepth 100000 in
set_option maxHeartbeats 4000000 in
theorem VX10_shortBy {l : Launch} {C : xC} {G : xG} (hs : SH G)  (I : xI) (y1 y2 : Int32) {Q : Int32 → xI → Prop} (h :
    (∃ Qc : Int32 → xI → Prop, XF fI l C mX10_isRow 0 (xent mX10_isRow [.int y1]) [] G I Qc ∧ ∀ (v_1 : Int32) (I_1 : xI), Qc v_1 I_1 → ((v_1 = 0 → Q (-1) I_1) ∧ (¬ (v_1 = 0) → (∃ Qc : Int32 → xI → Prop, XF fI l C mX10_in 0 (xent mX10_in [.int y2, .int 0, .int 2]) [] G I_1 Qc ∧ ∀ (v_10 : Int32) (I_10 : xI), Qc v_10 I_10 → ((v_10 = 0 → Q (-1) I_10) ∧ (¬ (v_10 = 0) → (∃ Qc : Int32 → xI → Prop, XF fI l C mX10_best 0 (xent mX10_best [.ref 69, .int y1]) [] G I_10 Qc ∧ ∀ (v_20 : Int32) (I_20 : xI), Qc v_20 I_20 → (∃ Qc : Unit → xI → Prop, XF fV l C mX10_go 0 (xent mX10_go [.ref 69, .int y1, .int y2, .int (I_20 69 9), .int 1, .int 0]) [] G I_20 Qc ∧ ∀ (u_33 : Unit) (I_33 : xI), Qc u_33 I_33 → (∃ Qc : Int32 → xI → Prop, XF fI l C mX10_countSent 0 (xent mX10_countSent [.ref 69]) [] G I_33 Qc ∧ ∀ (v_38 : Int32) (I_38 : xI), Qc v_38 I_38 → Q (v_20 - v_38) I_38)))))))))) : XF fI l C mX10_shortBy 0 (xent mX10_shortBy [.ref 69, .int y1, .int y2]) [] G I Q := by
  show XF fI l C mX10_shortBy 0 [some (.ref 69), some (.int y1), some (.int y2), none] [] G I Q
  refine XF.lift (pc2 := 1) (ls2 := [some (.ref 69), some (.int y1), some (.int y2), none]) (st2 := [.int y1]) (I2 := I) ?_ (fun r I' hk => by
      refine XW.iload_n eX10_shortBy_0 rfl ?_
      exact hk)
  obtain ⟨Qc, hc, h⟩ := h
  refine XF.call (nx := 4) (st := []) hc (fun v I1 r I' hY hk => XW.callS (As := [.int y1]) (st := []) eX10_shortBy_1 okX10_isRow cs10_141 rfl hY (xnum rfl rfl rfl rfl rfl) hk) (fun v_1 I_1 hq => ?_)
  replace h := h v_1 I_1 hq
  obtain ⟨ht, hf⟩ := h
  refine XF.br (P := v_1 = 0) (fun c_4 => ?_) (fun c_4 => ?_)
  ·
    replace h := ht c_4
    refine XF.lift (pc2 := 17) (ls2 := [some (.ref 69), some (.int y1), some (.int y2), none]) (st2 := [.int (-1)]) (I2 := I_1) ?_ (fun r I' hk => by
        refine XW.if_eq eX10_shortBy_4 (fun _ => ?_) (fun z => absurd c_4 z)
        refine XW.iconst (v := (-1)) eX10_shortBy_16 (by decide) ?_
        exact hk)
    exact ⟨(-1), I_1, XW.iret eX10_shortBy_17 rfl rfl rfl rfl rfl, h⟩
  ·
    replace h := hf c_4
    refine XF.lift (pc2 := 10) (ls2 := [some (.ref 69), some (.int y1), some (.int y2), none]) (st2 := [.int 2, .int 0, .int y2]) (I2 := I_1) ?_ (fun r I' hk => by
        refine XW.if_eq eX10_shortBy_4 (fun z => absurd z c_4) (fun _ => ?_)
        refine XW.iload_n eX10_shortBy_7 rfl ?_
        refine XW.iconst (v := 0) eX10_shortBy_8 (by decide) ?_
        refine XW.iconst (v := 2) eX10_shortBy_9 (by decide) ?_
        exact hk)
    obtain ⟨Qc, hc, h⟩ := h
    refine XF.call (nx := 13) (st := []) hc (fun v I1 r I' hY hk => XW.callS (As := [.int y2, .int 0, .int 2]) (st := []) eX10_shortBy_10 okX10_in cs10_123 rfl hY (xnum rfl rfl rfl rfl rfl) hk) (fun v_10 I_10 hq => ?_)
    replace h := h v_10 I_10 hq
    obtain ⟨ht, hf⟩ := h
    refine XF.br (P := v_10 = 0) (fun c_13 => ?_) (fun c_13 => ?_)
    ·
      replace h := ht c_13
      refine XF.lift (pc2 := 17) (ls2 := [some (.ref 69), some (.int y1), some (.int y2), none]) (st2 := [.int (-1)]) (I2 := I_10) ?_ (fun r I' hk => by
          refine XW.if_ne eX10_shortBy_13 (fun z => absurd c_13 z) (fun _ => ?_)
          refine XW.iconst (v := (-1)) eX10_shortBy_16 (by decide) ?_
          exact hk)
      exact ⟨(-1), I_10, XW.iret eX10_shortBy_17 rfl rfl rfl rfl rfl, h⟩
    ·
      replace h := hf c_13
      refine XF.lift (pc2 := 20) (ls2 := [some (.ref 69), some (.int y1), some (.int y2), none]) (st2 := [.int y1, .ref 69]) (I2 := I_10) ?_ (fun r I' hk => by
          refine XW.if_ne eX10_shortBy_13 (fun _ => ?_) (fun z => absurd z c_13)
          refine XW.aload_n eX10_shortBy_18 rfl ?_
          refine XW.iload_n eX10_shortBy_19 rfl ?_
          exact hk)
      obtain ⟨Qc, hc, h⟩ := h
      refine XF.call (nx := 23) (st := []) hc (fun v I1 r I' hY hk => XW.callV (As := [.int y1]) (st := []) eX10_shortBy_20 okX10_best cv10_234 rfl (so_69 hs) hY (xnum rfl rfl rfl rfl rfl) hk) (fun v_20 I_20 hq => ?_)
      replace h := h v_20 I_20 hq
      refine XF.lift (pc2 := 33) (ls2 := [some (.ref 69), some (.int y1), some (.int y2), some (.int v_20)]) (st2 := [.int 0, .int 1, .int (I_20 69 9), .int y2, .int y1, .ref 69]) (I2 := I_20) ?_ (fun r I' hk => by
          refine XW.istore_n (ls' := [some (.ref 69), some (.int y1), some (.int y2), some (.int v_20)]) eX10_shortBy_23 (Nat.le_of_ble_eq_true rfl) rfl ?_
          refine XW.aload_n eX10_shortBy_24 rfl ?_
          refine XW.iload_n eX10_shortBy_25 rfl ?_
          refine XW.iload_n eX10_shortBy_26 rfl ?_
          refine XW.aload_n eX10_shortBy_27 rfl ?_
          refine XW.getI eX10_shortBy_28 f10_38_10 rfl (so_69 hs) ?_
          refine XW.iconst (v := 1) eX10_shortBy_31 (by decide) ?_
          refine XW.iconst (v := 0) eX10_shortBy_32 (by decide) ?_
          exact hk)
      obtain ⟨Qc, hc, h⟩ := h
      refine XF.call (nx := 36) (st := []) hc (fun v I1 r I' hY hk => XW.callV (As := [.int y1, .int y2, .int (I_20 69 9), .int 1, .int 0]) (st := []) eX10_shortBy_33 okX10_go cv10_202 rfl (so_69 hs) hY (xnum rfl rfl rfl rfl rfl) hk) (fun _ I_33 hq => ?_)
      replace h := h () I_33 hq
      refine XF.lift (pc2 := 38) (ls2 := [some (.ref 69), some (.int y1), some (.int y2), some (.int v_20)]) (st2 := [.ref 69, .int v_20]) (I2 := I_33) ?_ (fun r I' hk => by
          refine XW.iload_n eX10_shortBy_36 rfl ?_
          refine XW.aload_n eX10_shortBy_37 rfl ?_
          exact hk)
      obtain ⟨Qc, hc, h⟩ := h
      refine XF.call (nx := 41) (st := [.int v_20]) hc (fun v I1 r I' hY hk => XW.callV (As := []) (st := [.int v_20]) eX10_shortBy_38 okX10_countSent cv10_215 rfl (so_69 hs) hY (xnum rfl rfl rfl rfl rfl) hk) (fun v_38 I_38 hq => ?_)
      replace h := h v_38 I_38 hq
      refine XF.lift (pc2 := 42) (ls2 := [some (.ref 69), some (.int y1), some (.int y2), some (.int v_20)]) (st2 := [.int (v_20 - v_38)]) (I2 := I_38) ?_ (fun r I' hk => by
          refine XW.isub eX10_shortBy_41 ?_
          exact hk)
      exact ⟨(v_20 - v_38), I_38, XW.iret eX10_shortBy_42 rfl rfl rfl rfl rfl, h⟩
set_option maxRecDepth 100000 in
set_option maxHeartbeats 4000000 in
theorem VX10_leastOf {l : Launch} {C : xC} {G : xG} (hs : SH G)  (I : xI) (y1 : Int32) {Q : Int32 → xI → Prop} (h :
    XF fI l C mX10_leastOf 4 [some (.ref 69), some (.int y1), some (.int 1), some (.int 0)] [] G I Q) : XF fI l C mX10_leastOf 0 (xent mX10_leastOf [.ref 69, .int y1]) [] G I Q := by
  show XF fI l C mX10_leastOf 0 [some (.ref 69), some (.int y1), none, none] [] G I Q
  refine XF.lift (pc2 := 4) (ls2 := [some (.ref 69), some (.int y1), some (.int 1), some (.int 0)]) (st2 := []) (I2 := I) ?_ (fun r I' hk => by
      refine XW.iconst (v := 1) eX10_leastOf_0 (by decide) ?_
      refine XW.istore_n (ls' := [some (.ref 69), some (.int y1), some (.int 1), none]) eX10_leastOf_1 (Nat.le_of_ble_eq_true rfl) rfl ?_
      refine XW.iconst (v := 0) eX10_leastOf_2 (by decide) ?_
      refine XW.istore_n (ls' := [some (.ref 69), some (.int y1), some (.int 1), some (.int 0)]) eX10_leastOf_3 (Nat.le_of_ble_eq_true rfl) rfl ?_
      exact hk)
  exact h
set_option maxRecDepth 100000 in
set_option maxHeartbeats 4000000 in
theorem VX10_leastOf_4 {l : Launch} {C : xC} {G : xG} (hs : SH G)  (I : xI) (x1 x2 x3 : Int32) {Q : Int32 → xI → Prop} (h :
    ((161 ≤ x2 → Q x2 I) ∧ (¬ (161 ≤ x2) → ((x3 = 0 → (∃ Qc : Unit → xI → Prop, XF fV l C mX10_go 0 (xent mX10_go [.ref 69, .int x1, .int 1, .int x2, .int 1, .int 0]) [] G I Qc ∧ ∀ (u_21 : Unit) (I_21 : xI), Qc u_21 I_21 → (∃ Qc : Int32 → xI → Prop, XF fI l C mX10_countSent 0 (xent mX10_countSent [.ref 69]) [] G I_21 Qc ∧ ∀ (v_25 : Int32) (I_25 : xI), Qc v_25 I_25 → vp_in x1 4 ∧ ((v_25 = (I_25 81 x1.toNatClampNeg) → XF fI l C mX10_leastOf 4 [some (.ref 69), some (.int x1), some (.int (x2 + 0)), some (.int 1)] [] G I_25 Q) ∧ (¬ (v_25 = (I_25 81 x1.toNatClampNeg)) → XF fI l C mX10_leastOf 4 [some (.ref 69), some (.int x1), some (.int (x2 + 1)), some (.int 0)] [] G I_25 Q))))) ∧ (¬ (x3 = 0) → Q x2 I))))) : XF fI l C mX10_leastOf 4 [some (.ref 69), some (.int x1), some (.int x2), some (.int x3)] [] G I Q := by
  refine XF.lift (pc2 := 8) (ls2 := [some (.ref 69), some (.int x1), some (.int x2), some (.int x3)]) (st2 := [.int 161, .int x2]) (I2 := I) ?_ (fun r I' hk => by
      refine XW.iload_n eX10_leastOf_4 rfl ?_
      refine XW.sipush (v := 161) eX10_leastOf_5 (by decide) ?_
      exact hk)
  obtain ⟨ht, hf⟩ := h
  refine XF.br (P := 161 ≤ x2) (fun c_8 => ?_) (fun c_8 => ?_)
  ·
    replace h := ht c_8
    refine XF.lift (pc2 := 59) (ls2 := [some (.ref 69), some (.int x1), some (.int x2), some (.int x3)]) (st2 := [.int x2]) (I2 := I) ?_ (fun r I' hk => by
        refine XW.icmp_ge eX10_leastOf_8 (fun _ => ?_) (fun z => absurd c_8 z)
        refine XW.iload_n eX10_leastOf_58 rfl ?_
        exact hk)
    exact ⟨x2, I, XW.iret eX10_leastOf_59 rfl rfl rfl rfl rfl, h⟩
  ·
    replace h := hf c_8
    refine XF.lift (pc2 := 12) (ls2 := [some (.ref 69), some (.int x1), some (.int x2), some (.int x3)]) (st2 := [.int x3]) (I2 := I) ?_ (fun r I' hk => by
        refine XW.icmp_ge eX10_leastOf_8 (fun z => absurd z c_8) (fun _ => ?_)
        refine XW.iload_n eX10_leastOf_11 rfl ?_
        exact hk)
    obtain ⟨ht, hf⟩ := h
    refine XF.br (P := x3 = 0) (fun c_12 => ?_) (fun c_12 => ?_)
    ·
      replace h := ht c_12
      refine XF.lift (pc2 := 21) (ls2 := [some (.ref 69), some (.int x1), some (.int x2), some (.int x3)]) (st2 := [.int 0, .int 1, .int x2, .int 1, .int x1, .ref 69]) (I2 := I) ?_ (fun r I' hk => by
          refine XW.if_ne eX10_leastOf_12 (fun z => absurd c_12 z) (fun _ => ?_)
          refine XW.aload_n eX10_leastOf_15 rfl ?_
          refine XW.iload_n eX10_leastOf_16 rfl ?_
          refine XW.iconst (v := 1) eX10_leastOf_17 (by decide) ?_
          refine XW.iload_n eX10_leastOf_18 rfl ?_
          refine XW.iconst (v := 1) eX10_leastOf_19 (by decide) ?_
          refine XW.iconst (v := 0) eX10_leastOf_20 (by decide) ?_
          exact hk)
      obtain ⟨Qc, hc, h⟩ := h
      refine XF.call (nx := 24) (st := []) hc (fun v I1 r I' hY hk => XW.callV (As := [.int x1, .int 1, .int x2, .int 1, .int 0]) (st := []) eX10_leastOf_21 okX10_go cv10_202 rfl (so_69 hs) hY (xnum rfl rfl rfl rfl rfl) hk) (fun _ I_21 hq => ?_)
      replace h := h () I_21 hq
      refine XF.lift (pc2 := 25) (ls2 := [some (.ref 69), some (.int x1), some (.int x2), some (.int x3)]) (st2 := [.ref 69]) (I2 := I_21) ?_ (fun r I' hk => by
          refine XW.aload_n eX10_leastOf_24 rfl ?_
          exact hk)
      obtain ⟨Qc, hc, h⟩ := h
      refine XF.call (nx := 28) (st := []) hc (fun v I1 r I' hY hk => XW.callV (As := []) (st := []) eX10_leastOf_25 okX10_countSent cv10_215 rfl (so_69 hs) hY (xnum rfl rfl rfl rfl rfl) hk) (fun v_25 I_25 hq => ?_)
      replace h := h v_25 I_25 hq
      obtain ⟨q_33, h⟩ := h
      refine XF.lift (pc2 := 34) (ls2 := [some (.ref 69), some (.int x1), some (.int x2), some (.int x3)]) (st2 := [.int (I_25 81 x1.toNatClampNeg), .int v_25]) (I2 := I_25) ?_ (fun r I' hk => by
          refine XW.aload_n eX10_leastOf_28 rfl ?_
          refine XW.getR (b := 81) eX10_leastOf_29 f10_53_10 rfl (so_69 hs) (sr_69_14 hs) ?_
          refine XW.iload_n eX10_leastOf_32 rfl ?_
          refine XW.iaload eX10_leastOf_33 (sa_81 hs) q_33 ?_
          exact hk)
      obtain ⟨ht, hf⟩ := h
      refine XF.br (P := v_25 = (I_25 81 x1.toNatClampNeg)) (fun c_34 => ?_) (fun c_34 => ?_)
      ·
        replace h := ht c_34
        refine XF.lift (pc2 := 4) (ls2 := [some (.ref 69), some (.int x1), some (.int (x2 + 0)), some (.int 1)]) (st2 := []) (I2 := I_25) ?_ (fun r I' hk => by
            refine XW.icmp_ne eX10_leastOf_34 (fun z => absurd c_34 z) (fun _ => ?_)
            refine XW.iconst (v := 1) eX10_leastOf_37 (by decide) ?_
            refine XW.goto eX10_leastOf_38 ?_
            refine XW.istore_n (ls' := [some (.ref 69), some (.int x1), some (.int x2), some (.int 1)]) eX10_leastOf_42 (Nat.le_of_ble_eq_true rfl) rfl ?_
            refine XW.iload_n eX10_leastOf_43 rfl ?_
            refine XW.iload_n eX10_leastOf_44 rfl ?_
            refine XW.if_eq eX10_leastOf_45 (fun z => absurd z (by decide)) (fun _ => ?_)
            refine XW.iconst (v := 0) eX10_leastOf_48 (by decide) ?_
            refine XW.goto eX10_leastOf_49 ?_
            refine XW.iadd eX10_leastOf_53 ?_
            refine XW.istore_n (ls' := [some (.ref 69), some (.int x1), some (.int (x2 + 0)), some (.int 1)]) eX10_leastOf_54 (Nat.le_of_ble_eq_true rfl) rfl ?_
            refine XW.goto eX10_leastOf_55 ?_
            exact hk)
        exact h
      ·
        replace h := hf c_34
        refine XF.lift (pc2 := 4) (ls2 := [some (.ref 69), some (.int x1), some (.int (x2 + 1)), some (.int 0)]) (st2 := []) (I2 := I_25) ?_ (fun r I' hk => by
            refine XW.icmp_ne eX10_leastOf_34 (fun _ => ?_) (fun z => absurd z c_34)
            refine XW.iconst (v := 0) eX10_leastOf_41 (by decide) ?_
            refine XW.istore_n (ls' := [some (.ref 69), some (.int x1), some (.int x2), some (.int 0)]) eX10_leastOf_42 (Nat.le_of_ble_eq_true rfl) rfl ?_
            refine XW.iload_n eX10_leastOf_43 rfl ?_
            refine XW.iload_n eX10_leastOf_44 rfl ?_
            refine XW.if_eq eX10_leastOf_45 (fun _ => ?_) (fun z => absurd (by decide) z)
            refine XW.iconst (v := 1) eX10_leastOf_52 (by decide) ?_
            refine XW.iadd eX10_leastOf_53 ?_
            refine XW.istore_n (ls' := [some (.ref 69), some (.int x1), some (.int (x2 + 1)), some (.int 0)]) eX10_leastOf_54 (Nat.le_of_ble_eq_true rfl) rfl ?_
            refine XW.goto eX10_leastOf_55 ?_
            exact hk)
        exact h
    ·
      replace h := hf c_12
      refine XF.lift (pc2 := 59) (ls2 := [some (.ref 69), some (.int x1), some (.int x2), some (.int x3)]) (st2 := [.int x2]) (I2 := I) ?_ (fun r I' hk => by
          refine XW.if_ne eX10_leastOf_12 (fun _ => ?_) (fun z => absurd z c_12)
          refine XW.iload_n eX10_leastOf_58 rfl ?_
          exact hk)
      exact ⟨x2, I, XW.iret eX10_leastOf_59 rfl rfl rfl rfl rfl, h⟩
set_option maxRecDepth 100000 in
set_option maxHeartbeats 4000000 in
theorem VX10_marks {l : Launch} {C : xC} {G : xG} (hs : SH G)  (I : xI) {Q : Int32 → xI → Prop} (h :
    XF fI l C mX10_marks 9 [some (.ref 69), some (.int 1), some (.int 0), none] [] G (wI I 69 44 (-1)) Q) : XF fI l C mX10_marks 0 (xent mX10_marks [.ref 69]) [] G I Q := by
  show XF fI l C mX10_marks 0 [some (.ref 69), none, none, none] [] G I Q
  refine XF.lift (pc2 := 9) (ls2 := [some (.ref 69), some (.int 1), some (.int 0), none]) (st2 := []) (I2 := (wI I 69 44 (-1))) ?_ (fun r I' hk => by
      refine XW.aload_n eX10_marks_0 rfl ?_
      refine XW.iconst (v := (-1)) eX10_marks_1 (by decide) ?_
      refine XW.putI eX10_marks_2 f10_120_10 (xP_of rfl (by decide)) rfl ⟨rfl, rfl⟩ (so_69 hs) ?_
      refine XW.iconst (v := 1) eX10_marks_5 (by decide) ?_
      refine XW.istore_n (ls' := [some (.ref 69), some (.int 1), none, none]) eX10_marks_6 (Nat.le_of_ble_eq_true rfl) rfl ?_
      refine XW.iconst (v := 0) eX10_marks_7 (by decide) ?_
      refine XW.istore_n (ls' := [some (.ref 69), some (.int 1), some (.int 0), none]) eX10_marks_8 (Nat.le_of_ble_eq_true rfl) rfl ?_
      exact hk)
  exact h
set_option maxRecDepth 100000 in
set_option maxHeartbeats 4000000 in
theorem VX10_marks_9 {l : Launch} {C : xC} {G : xG} (hs : SH G)  (I : xI) (x1 x2 : Int32) {Q : Int32 → xI → Prop} (h :
    ((4 ≤ x2 → ((0 ≤ (I 69 44) → Q (-2) I) ∧ (¬ (0 ≤ (I 69 44)) → Q x1 I))) ∧ (¬ (4 ≤ x2) → ((0 ≤ (I 69 44) → Q (-2) I) ∧ (¬ (0 ≤ (I 69 44)) → vp_in x2 4 ∧ (((I 84 x2.toNatClampNeg) = 0 → (((1 : Int32) ≤ 160 → ((1 ≤ x1 → XF fI l C mX10_marks 9 [some (.ref 69), some (.int x1), some (.int (x2 + 1)), none] [] G (wI I 69 44 (-1)) Q) ∧ (¬ (1 ≤ x1) → XF fI l C mX10_marks 9 [some (.ref 69), some (.int 1), some (.int (x2 + 1)), none] [] G (wI I 69 44 (-1)) Q))) ∧ (¬ ((1 : Int32) ≤ 160) → ((1 ≤ x1 → XF fI l C mX10_marks 9 [some (.ref 69), some (.int x1), some (.int (x2 + 1)), none] [] G (wI I 69 44 x2) Q) ∧ (¬ (1 ≤ x1) → XF fI l C mX10_marks 9 [some (.ref 69), some (.int 1), some (.int (x2 + 1)), none] [] G (wI I 69 44 x2) Q))))) ∧ (¬ ((I 84 x2.toNatClampNeg) = 0) → (∃ Qc : Int32 → xI → Prop, XF fI l C mX10_leastOf 0 (xent mX10_leastOf [.ref 69, .int x2]) [] G I Qc ∧ ∀ (v_32 : Int32) (I_32 : xI), Qc v_32 I_32 → ((v_32 ≤ 160 → ((v_32 ≤ x1 → XF fI l C mX10_marks 9 [some (.ref 69), some (.int x1), some (.int (x2 + 1)), none] [] G (wI I_32 69 44 (-1)) Q) ∧ (¬ (v_32 ≤ x1) → XF fI l C mX10_marks 9 [some (.ref 69), some (.int v_32), some (.int (x2 + 1)), none] [] G (wI I_32 69 44 (-1)) Q))) ∧ (¬ (v_32 ≤ 160) → ((v_32 ≤ x1 → XF fI l C mX10_marks 9 [some (.ref 69), some (.int x1), some (.int (x2 + 1)), none] [] G (wI I_32 69 44 x2) Q) ∧ (¬ (v_32 ≤ x1) → XF fI l C mX10_marks 9 [some (.ref 69), some (.int v_32), some (.int (x2 + 1)), none] [] G (wI I_32 69 44 x2) Q)))))))))))) : XF fI l C mX10_marks 9 [some (.ref 69), some (.int x1), some (.int x2), none] [] G I Q := by
  refine XF.lift (pc2 := 11) (ls2 := [some (.ref 69), some (.int x1), some (.int x2), none]) (st2 := [.int 4, .int x2]) (I2 := I) ?_ (fun r I' hk => by
      refine XW.iload_n eX10_marks_9 rfl ?_
      refine XW.iconst (v := 4) eX10_marks_10 (by decide) ?_
      exact hk)
  obtain ⟨ht, hf⟩ := h
  refine XF.br (P := 4 ≤ x2) (fun c_11 => ?_) (fun c_11 => ?_)
  ·
    replace h := ht c_11
    refine XF.lift (pc2 := 77) (ls2 := [some (.ref 69), some (.int x1), some (.int x2), none]) (st2 := [.int (I 69 44)]) (I2 := I) ?_ (fun r I' hk => by
        refine XW.icmp_ge eX10_marks_11 (fun _ => ?_) (fun z => absurd c_11 z)
        refine XW.aload_n eX10_marks_73 rfl ?_
        refine XW.getI eX10_marks_74 f10_120_10 rfl (so_69 hs) ?_
        exact hk)
    obtain ⟨ht, hf⟩ := h
    refine XF.br (P := 0 ≤ (I 69 44)) (fun c_77 => ?_) (fun c_77 => ?_)
    ·
      replace h := ht c_77
      refine XF.lift (pc2 := 86) (ls2 := [some (.ref 69), some (.int x1), some (.int x2), none]) (st2 := [.int (-2)]) (I2 := I) ?_ (fun r I' hk => by
          refine XW.if_ge eX10_marks_77 (fun _ => ?_) (fun z => absurd c_77 z)
          refine XW.bipush (v := (-2)) eX10_marks_84 (by decide) ?_
          exact hk)
      exact ⟨(-2), I, XW.iret eX10_marks_86 rfl rfl rfl rfl rfl, h⟩
    ·
      replace h := hf c_77
      refine XF.lift (pc2 := 86) (ls2 := [some (.ref 69), some (.int x1), some (.int x2), none]) (st2 := [.int x1]) (I2 := I) ?_ (fun r I' hk => by
          refine XW.if_ge eX10_marks_77 (fun z => absurd z c_77) (fun _ => ?_)
          refine XW.iload_n eX10_marks_80 rfl ?_
          refine XW.goto eX10_marks_81 ?_
          exact hk)
      exact ⟨x1, I, XW.iret eX10_marks_86 rfl rfl rfl rfl rfl, h⟩
  ·
    replace h := hf c_11
    refine XF.lift (pc2 := 18) (ls2 := [some (.ref 69), some (.int x1), some (.int x2), none]) (st2 := [.int (I 69 44)]) (I2 := I) ?_ (fun r I' hk => by
        refine XW.icmp_ge eX10_marks_11 (fun z => absurd z c_11) (fun _ => ?_)
        refine XW.aload_n eX10_marks_14 rfl ?_
        refine XW.getI eX10_marks_15 f10_120_10 rfl (so_69 hs) ?_
        exact hk)
    obtain ⟨ht, hf⟩ := h
    refine XF.br (P := 0 ≤ (I 69 44)) (fun c_18 => ?_) (fun c_18 => ?_)
    ·
      replace h := ht c_18
      refine XF.lift (pc2 := 86) (ls2 := [some (.ref 69), some (.int x1), some (.int x2), none]) (st2 := [.int (-2)]) (I2 := I) ?_ (fun r I' hk => by
          refine XW.if_ge eX10_marks_18 (fun _ => ?_) (fun z => absurd c_18 z)
          refine XW.aload_n eX10_marks_73 rfl ?_
          refine XW.getI eX10_marks_74 f10_120_10 rfl (so_69 hs) ?_
          refine XW.if_ge eX10_marks_77 (fun _ => ?_) (fun z => absurd c_18 z)
          refine XW.bipush (v := (-2)) eX10_marks_84 (by decide) ?_
          exact hk)
      exact ⟨(-2), I, XW.iret eX10_marks_86 rfl rfl rfl rfl rfl, h⟩
    ·
      replace h := hf c_18
      obtain ⟨q_26, h⟩ := h
      refine XF.lift (pc2 := 27) (ls2 := [some (.ref 69), some (.int x1), some (.int x2), none]) (st2 := [.int (I 84 x2.toNatClampNeg)]) (I2 := I) ?_ (fun r I' hk => by
          refine XW.if_ge eX10_marks_18 (fun z => absurd z c_18) (fun _ => ?_)
          refine XW.aload_n eX10_marks_21 rfl ?_
          refine XW.getR (b := 84) eX10_marks_22 f10_62_10 rfl (so_69 hs) (sr_69_17 hs) ?_
          refine XW.iload_n eX10_marks_25 rfl ?_
          refine XW.baload eX10_marks_26 (sa_84 hs) q_26 ?_
          exact hk)
      obtain ⟨ht, hf⟩ := h
      refine XF.br (P := (I 84 x2.toNatClampNeg) = 0) (fun c_27 => ?_) (fun c_27 => ?_)
      ·
        replace h := ht c_27
        refine XF.lift (pc2 := 45) (ls2 := [some (.ref 69), some (.int x1), some (.int x2), some (.int 1)]) (st2 := [.int 160, .int 1, .ref 69]) (I2 := I) ?_ (fun r I' hk => by
            refine XW.if_eq eX10_marks_27 (fun _ => ?_) (fun z => absurd c_27 z)
            refine XW.iconst (v := 1) eX10_marks_38 (by decide) ?_
            refine XW.istore_n (ls' := [some (.ref 69), some (.int x1), some (.int x2), some (.int 1)]) eX10_marks_39 (Nat.le_of_ble_eq_true rfl) rfl ?_
            refine XW.aload_n eX10_marks_40 rfl ?_
            refine XW.iload_n eX10_marks_41 rfl ?_
            refine XW.sipush (v := 160) eX10_marks_42 (by decide) ?_
            exact hk)
        obtain ⟨ht, hf⟩ := h
        refine XF.br (P := (1 : Int32) ≤ 160) (fun c_45 => ?_) (fun c_45 => ?_)
        ·
          replace h := ht c_45
          refine XF.lift (pc2 := 58) (ls2 := [some (.ref 69), some (.int x1), some (.int x2), some (.int 1)]) (st2 := [.int x1, .int 1]) (I2 := (wI I 69 44 (-1))) ?_ (fun r I' hk => by
              refine XW.icmp_le eX10_marks_45 (fun _ => ?_) (fun z => absurd c_45 z)
              refine XW.iconst (v := (-1)) eX10_marks_52 (by decide) ?_
              refine XW.putI eX10_marks_53 f10_120_10 (xP_of rfl (by decide)) rfl ⟨rfl, rfl⟩ (so_69 hs) ?_
              refine XW.iload_n eX10_marks_56 rfl ?_
              refine XW.iload_n eX10_marks_57 rfl ?_
              exact hk)
          obtain ⟨ht, hf⟩ := h
          refine XF.br (P := 1 ≤ x1) (fun c_58 => ?_) (fun c_58 => ?_)
          ·
            replace h := ht c_58
            refine XF.lift (pc2 := 9) (ls2 := [some (.ref 69), some (.int x1), some (.int (x2 + 1)), none]) (st2 := []) (I2 := (wI I 69 44 (-1))) ?_ (fun r I' hk => by
                refine XW.icmp_le eX10_marks_58 (fun _ => ?_) (fun z => absurd c_58 z)
                refine XW.iload_n eX10_marks_65 rfl ?_
                refine XW.istore_n (ls' := [some (.ref 69), some (.int x1), some (.int x2), some (.int 1)]) eX10_marks_66 (Nat.le_of_ble_eq_true rfl) rfl ?_
                refine XW.iinc (y := (x2 + 1)) (ls' := [some (.ref 69), some (.int x1), some (.int (x2 + 1)), some (.int 1)]) eX10_marks_67 rfl rfl rfl ?_
                refine XW.goto eX10_marks_70 ?_
                refine XW.forget 3 rfl ?_
                exact hk)
            exact h
          ·
            replace h := hf c_58
            refine XF.lift (pc2 := 9) (ls2 := [some (.ref 69), some (.int 1), some (.int (x2 + 1)), none]) (st2 := []) (I2 := (wI I 69 44 (-1))) ?_ (fun r I' hk => by
                refine XW.icmp_le eX10_marks_58 (fun z => absurd z c_58) (fun _ => ?_)
                refine XW.iload_n eX10_marks_61 rfl ?_
                refine XW.goto eX10_marks_62 ?_
                refine XW.istore_n (ls' := [some (.ref 69), some (.int 1), some (.int x2), some (.int 1)]) eX10_marks_66 (Nat.le_of_ble_eq_true rfl) rfl ?_
                refine XW.iinc (y := (x2 + 1)) (ls' := [some (.ref 69), some (.int 1), some (.int (x2 + 1)), some (.int 1)]) eX10_marks_67 rfl rfl rfl ?_
                refine XW.goto eX10_marks_70 ?_
                refine XW.forget 3 rfl ?_
                exact hk)
            exact h
        ·
          replace h := hf c_45
          refine XF.lift (pc2 := 58) (ls2 := [some (.ref 69), some (.int x1), some (.int x2), some (.int 1)]) (st2 := [.int x1, .int 1]) (I2 := (wI I 69 44 x2)) ?_ (fun r I' hk => by
              refine XW.icmp_le eX10_marks_45 (fun z => absurd z c_45) (fun _ => ?_)
              refine XW.iload_n eX10_marks_48 rfl ?_
              refine XW.goto eX10_marks_49 ?_
              refine XW.putI eX10_marks_53 f10_120_10 (xP_of rfl (by decide)) rfl ⟨rfl, rfl⟩ (so_69 hs) ?_
              refine XW.iload_n eX10_marks_56 rfl ?_
              refine XW.iload_n eX10_marks_57 rfl ?_
              exact hk)
          obtain ⟨ht, hf⟩ := h
          refine XF.br (P := 1 ≤ x1) (fun c_58 => ?_) (fun c_58 => ?_)
          ·
            replace h := ht c_58
            refine XF.lift (pc2 := 9) (ls2 := [some (.ref 69), some (.int x1), some (.int (x2 + 1)), none]) (st2 := []) (I2 := (wI I 69 44 x2)) ?_ (fun r I' hk => by
                refine XW.icmp_le eX10_marks_58 (fun _ => ?_) (fun z => absurd c_58 z)
                refine XW.iload_n eX10_marks_65 rfl ?_
                refine XW.istore_n (ls' := [some (.ref 69), some (.int x1), some (.int x2), some (.int 1)]) eX10_marks_66 (Nat.le_of_ble_eq_true rfl) rfl ?_
                refine XW.iinc (y := (x2 + 1)) (ls' := [some (.ref 69), some (.int x1), some (.int (x2 + 1)), some (.int 1)]) eX10_marks_67 rfl rfl rfl ?_
                refine XW.goto eX10_marks_70 ?_
                refine XW.forget 3 rfl ?_
                exact hk)
            exact h
          ·
            replace h := hf c_58
            refine XF.lift (pc2 := 9) (ls2 := [some (.ref 69), some (.int 1), some (.int (x2 + 1)), none]) (st2 := []) (I2 := (wI I 69 44 x2)) ?_ (fun r I' hk => by
                refine XW.icmp_le eX10_marks_58 (fun z => absurd z c_58) (fun _ => ?_)
                refine XW.iload_n eX10_marks_61 rfl ?_
                refine XW.goto eX10_marks_62 ?_
                refine XW.istore_n (ls' := [some (.ref 69), some (.int 1), some (.int x2), some (.int 1)]) eX10_marks_66 (Nat.le_of_ble_eq_true rfl) rfl ?_
                refine XW.iinc (y := (x2 + 1)) (ls' := [some (.ref 69), some (.int 1), some (.int (x2 + 1)), some (.int 1)]) eX10_marks_67 rfl rfl rfl ?_
                refine XW.goto eX10_marks_70 ?_
                refine XW.forget 3 rfl ?_
                exact hk)
            exact h
      ·
        replace h := hf c_27
        refine XF.lift (pc2 := 32) (ls2 := [some (.ref 69), some (.int x1), some (.int x2), none]) (st2 := [.int x2, .ref 69]) (I2 := I) ?_ (fun r I' hk => by
            refine XW.if_eq eX10_marks_27 (fun z => absurd z c_27) (fun _ => ?_)
            refine XW.aload_n eX10_marks_30 rfl ?_
            refine XW.iload_n eX10_marks_31 rfl ?_
            exact hk)
        obtain ⟨Qc, hc, h⟩ := h
        refine XF.call (nx := 35) (st := []) hc (fun v I1 r I' hY hk => XW.callV (As := [.int x2]) (st := []) eX10_marks_32 okX10_leastOf cv10_237 rfl (so_69 hs) hY (xnum rfl rfl rfl rfl rfl) hk) (fun v_32 I_32 hq => ?_)
        replace h := h v_32 I_32 hq
        refine XF.lift (pc2 := 45) (ls2 := [some (.ref 69), some (.int x1), some (.int x2), some (.int v_32)]) (st2 := [.int 160, .int v_32, .ref 69]) (I2 := I_32) ?_ (fun r I' hk => by
            refine XW.goto eX10_marks_35 ?_
            refine XW.istore_n (ls' := [some (.ref 69), some (.int x1), some (.int x2), some (.int v_32)]) eX10_marks_39 (Nat.le_of_ble_eq_true rfl) rfl ?_
            refine XW.aload_n eX10_marks_40 rfl ?_
            refine XW.iload_n eX10_marks_41 rfl ?_
            refine XW.sipush (v := 160) eX10_marks_42 (by decide) ?_
            exact hk)
        obtain ⟨ht, hf⟩ := h
        refine XF.br (P := v_32 ≤ 160) (fun c_45 => ?_) (fun c_45 => ?_)
        ·
          replace h := ht c_45
          refine XF.lift (pc2 := 58) (ls2 := [some (.ref 69), some (.int x1), some (.int x2), some (.int v_32)]) (st2 := [.int x1, .int v_32]) (I2 := (wI I_32 69 44 (-1))) ?_ (fun r I' hk => by
              refine XW.icmp_le eX10_marks_45 (fun _ => ?_) (fun z => absurd c_45 z)
              refine XW.iconst (v := (-1)) eX10_marks_52 (by decide) ?_
              refine XW.putI eX10_marks_53 f10_120_10 (xP_of rfl (by decide)) rfl ⟨rfl, rfl⟩ (so_69 hs) ?_
              refine XW.iload_n eX10_marks_56 rfl ?_
              refine XW.iload_n eX10_marks_57 rfl ?_
              exact hk)
          obtain ⟨ht, hf⟩ := h
          refine XF.br (P := v_32 ≤ x1) (fun c_58 => ?_) (fun c_58 => ?_)
          ·
            replace h := ht c_58
            refine XF.lift (pc2 := 9) (ls2 := [some (.ref 69), some (.int x1), some (.int (x2 + 1)), none]) (st2 := []) (I2 := (wI I_32 69 44 (-1))) ?_ (fun r I' hk => by
                refine XW.icmp_le eX10_marks_58 (fun _ => ?_) (fun z => absurd c_58 z)
                refine XW.iload_n eX10_marks_65 rfl ?_
                refine XW.istore_n (ls' := [some (.ref 69), some (.int x1), some (.int x2), some (.int v_32)]) eX10_marks_66 (Nat.le_of_ble_eq_true rfl) rfl ?_
                refine XW.iinc (y := (x2 + 1)) (ls' := [some (.ref 69), some (.int x1), some (.int (x2 + 1)), some (.int v_32)]) eX10_marks_67 rfl rfl rfl ?_
                refine XW.goto eX10_marks_70 ?_
                refine XW.forget 3 rfl ?_
                exact hk)
            exact h
          ·
            replace h := hf c_58
            refine XF.lift (pc2 := 9) (ls2 := [some (.ref 69), some (.int v_32), some (.int (x2 + 1)), none]) (st2 := []) (I2 := (wI I_32 69 44 (-1))) ?_ (fun r I' hk => by
                refine XW.icmp_le eX10_marks_58 (fun z => absurd z c_58) (fun _ => ?_)
                refine XW.iload_n eX10_marks_61 rfl ?_
                refine XW.goto eX10_marks_62 ?_
                refine XW.istore_n (ls' := [some (.ref 69), some (.int v_32), some (.int x2), some (.int v_32)]) eX10_marks_66 (Nat.le_of_ble_eq_true rfl) rfl ?_
                refine XW.iinc (y := (x2 + 1)) (ls' := [some (.ref 69), some (.int v_32), some (.int (x2 + 1)), some (.int v_32)]) eX10_marks_67 rfl rfl rfl ?_
                refine XW.goto eX10_marks_70 ?_
                refine XW.forget 3 rfl ?_
                exact hk)
            exact h
        ·
          replace h := hf c_45
          refine XF.lift (pc2 := 58) (ls2 := [some (.ref 69), some (.int x1), some (.int x2), some (.int v_32)]) (st2 := [.int x1, .int v_32]) (I2 := (wI I_32 69 44 x2)) ?_ (fun r I' hk => by
              refine XW.icmp_le eX10_marks_45 (fun z => absurd z c_45) (fun _ => ?_)
              refine XW.iload_n eX10_marks_48 rfl ?_
              refine XW.goto eX10_marks_49 ?_
              refine XW.putI eX10_marks_53 f10_120_10 (xP_of rfl (by decide)) rfl ⟨rfl, rfl⟩ (so_69 hs) ?_
              refine XW.iload_n eX10_marks_56 rfl ?_
              refine XW.iload_n eX10_marks_57 rfl ?_
              exact hk)
          obtain ⟨ht, hf⟩ := h
          refine XF.br (P := v_32 ≤ x1) (fun c_58 => ?_) (fun c_58 => ?_)
          ·
            replace h := ht c_58
            refine XF.lift (pc2 := 9) (ls2 := [some (.ref 69), some (.int x1), some (.int (x2 + 1)), none]) (st2 := []) (I2 := (wI I_32 69 44 x2)) ?_ (fun r I' hk => by
                refine XW.icmp_le eX10_marks_58 (fun _ => ?_) (fun z => absurd c_58 z)
                refine XW.iload_n eX10_marks_65 rfl ?_
                refine XW.istore_n (ls' := [some (.ref 69), some (.int x1), some (.int x2), some (.int v_32)]) eX10_marks_66 (Nat.le_of_ble_eq_true rfl) rfl ?_
                refine XW.iinc (y := (x2 + 1)) (ls' := [some (.ref 69), some (.int x1), some (.int (x2 + 1)), some (.int v_32)]) eX10_marks_67 rfl rfl rfl ?_
                refine XW.goto eX10_marks_70 ?_
                refine XW.forget 3 rfl ?_
                exact hk)
            exact h
          ·
            replace h := hf c_58
            refine XF.lift (pc2 := 9) (ls2 := [some (.ref 69), some (.int v_32), some (.int (x2 + 1)), none]) (st2 := []) (I2 := (wI I_32 69 44 x2)) ?_ (fun r I' hk => by
                refine XW.icmp_le eX10_marks_58 (fun z => absurd z c_58) (fun _ => ?_)
                refine XW.iload_n eX10_marks_61 rfl ?_
                refine XW.goto eX10_marks_62 ?_
                refine XW.istore_n (ls' := [some (.ref 69), some (.int v_32), some (.int x2), some (.int v_32)]) eX10_marks_66 (Nat.le_of_ble_eq_true rfl) rfl ?_
                refine XW.iinc (y := (x2 + 1)) (ls' := [some (.ref 69), some (.int v_32), some (.int (x2 + 1)), some (.int v_32)]) eX10_marks_67 rfl rfl rfl ?_
                refine XW.goto eX10_marks_70 ?_
                refine XW.forget 3 rfl ?_
                exact hk)
            exact h
set_option maxRecDepth 100000 in
set_option maxHeartbeats 4000000 in
theorem VX10_room {l : Launch} {C : xC} {G : xG} (hs : SH G)  (I : xI) (y1 : Int32) {Q : Int32 → xI → Prop} (h :
    (∃ Qc : Int32 → xI → Prop, XF fI l C mX10_in 0 (xent mX10_in [.int y1, .int 1, .int 12]) [] G I Qc ∧ ∀ (v_4 : Int32) (I_4 : xI), Qc v_4 I_4 → ((v_4 = 0 → Q (-1) I_4) ∧ (¬ (v_4 = 0) → (∃ Qc : Int32 → xI → Prop, XF fI l C mX10_allParts 0 (xent mX10_allParts [.ref 69]) [] G I_4 Qc ∧ ∀ (v_11 : Int32) (I_11 : xI), Qc v_11 I_11 → ((v_11 ≤ y1 → Q (I_11 69 0) (wI I_11 69 0 y1)) ∧ (¬ (v_11 ≤ y1) → Q (-1) I_11))))))) : XF fI l C mX10_room 0 (xent mX10_room [.ref 69, .int y1]) [] G I Q := by
  show XF fI l C mX10_room 0 [some (.ref 69), some (.int y1), none] [] G I Q
  refine XF.lift (pc2 := 4) (ls2 := [some (.ref 69), some (.int y1), none]) (st2 := [.int 12, .int 1, .int y1]) (I2 := I) ?_ (fun r I' hk => by
      refine XW.iload_n eX10_room_0 rfl ?_
      refine XW.iconst (v := 1) eX10_room_1 (by decide) ?_
      refine XW.bipush (v := 12) eX10_room_2 (by decide) ?_
      exact hk)
  obtain ⟨Qc, hc, h⟩ := h
  refine XF.call (nx := 7) (st := []) hc (fun v I1 r I' hY hk => XW.callS (As := [.int y1, .int 1, .int 12]) (st := []) eX10_room_4 okX10_in cs10_123 rfl hY (xnum rfl rfl rfl rfl rfl) hk) (fun v_4 I_4 hq => ?_)
  replace h := h v_4 I_4 hq
  obtain ⟨ht, hf⟩ := h
  refine XF.br (P := v_4 = 0) (fun c_7 => ?_) (fun c_7 => ?_)
  ·
    replace h := ht c_7
    refine XF.lift (pc2 := 19) (ls2 := [some (.ref 69), some (.int y1), none]) (st2 := [.int (-1)]) (I2 := I_4) ?_ (fun r I' hk => by
        refine XW.if_eq eX10_room_7 (fun _ => ?_) (fun z => absurd c_7 z)
        refine XW.iconst (v := (-1)) eX10_room_18 (by decide) ?_
        exact hk)
    exact ⟨(-1), I_4, XW.iret eX10_room_19 rfl rfl rfl rfl rfl, h⟩
  ·
    replace h := hf c_7
    refine XF.lift (pc2 := 11) (ls2 := [some (.ref 69), some (.int y1), none]) (st2 := [.ref 69]) (I2 := I_4) ?_ (fun r I' hk => by
        refine XW.if_eq eX10_room_7 (fun z => absurd z c_7) (fun _ => ?_)
        refine XW.aload_n eX10_room_10 rfl ?_
        exact hk)
    obtain ⟨Qc, hc, h⟩ := h
    refine XF.call (nx := 14) (st := []) hc (fun v I1 r I' hY hk => XW.callV (As := []) (st := []) eX10_room_11 okX10_allParts cv10_127 rfl (so_69 hs) hY (xnum rfl rfl rfl rfl rfl) hk) (fun v_11 I_11 hq => ?_)
    replace h := h v_11 I_11 hq
    refine XF.lift (pc2 := 15) (ls2 := [some (.ref 69), some (.int y1), none]) (st2 := [.int y1, .int v_11]) (I2 := I_11) ?_ (fun r I' hk => by
        refine XW.iload_n eX10_room_14 rfl ?_
        exact hk)
    obtain ⟨ht, hf⟩ := h
    refine XF.br (P := v_11 ≤ y1) (fun c_15 => ?_) (fun c_15 => ?_)
    ·
      replace h := ht c_15
      refine XF.lift (pc2 := 31) (ls2 := [some (.ref 69), some (.int y1), some (.int (I_11 69 0))]) (st2 := [.int (I_11 69 0)]) (I2 := (wI I_11 69 0 y1)) ?_ (fun r I' hk => by
          refine XW.icmp_le eX10_room_15 (fun _ => ?_) (fun z => absurd c_15 z)
          refine XW.aload_n eX10_room_20 rfl ?_
          refine XW.getI eX10_room_21 f10_7_10 rfl (so_69 hs) ?_
          refine XW.istore_n (ls' := [some (.ref 69), some (.int y1), some (.int (I_11 69 0))]) eX10_room_24 (Nat.le_of_ble_eq_true rfl) rfl ?_
          refine XW.aload_n eX10_room_25 rfl ?_
          refine XW.iload_n eX10_room_26 rfl ?_
          refine XW.putI eX10_room_27 f10_7_10 (xP_of rfl (by decide)) rfl ⟨rfl, rfl⟩ (so_69 hs) ?_
          refine XW.iload_n eX10_room_30 rfl ?_
          exact hk)
      exact ⟨(I_11 69 0), (wI I_11 69 0 y1), XW.iret eX10_room_31 rfl rfl rfl rfl rfl, h⟩
    ·
      replace h := hf c_15
      refine XF.lift (pc2 := 19) (ls2 := [some (.ref 69), some (.int y1), none]) (st2 := [.int (-1)]) (I2 := I_11) ?_ (fun r I' hk => by
          refine XW.icmp_le eX10_room_15 (fun z => absurd z c_15) (fun _ => ?_)
          refine XW.iconst (v := (-1)) eX10_room_18 (by decide) ?_
          exact hk)
      exact ⟨(-1), I_11, XW.iret eX10_room_19 rfl rfl rfl rfl rfl, h⟩
set_option maxRecDepth 100000 in
set_option maxHeartbeats 4000000 in
theorem VX10_mark {l : Launch} {C : xC} {G : xG} (hs : SH G)  (I : xI) (y1 y2 : Int32) {Q : Int32 → xI → Prop} (h :
    (∃ Qc : Int32 → xI → Prop, XF fI l C mX10_isLine 0 (xent mX10_isLine [.ref 69, .int y1]) [] G I Qc ∧ ∀ (v_2 : Int32) (I_2 : xI), Qc v_2 I_2 → ((v_2 = 0 → Q (-1) I_2) ∧ (¬ (v_2 = 0) → (∃ Qc : Int32 → xI → Prop, XF fI l C mX10_in 0 (xent mX10_in [.int y2, .int 0, .int 12]) [] G I_2 Qc ∧ ∀ (v_12 : Int32) (I_12 : xI), Qc v_12 I_12 → ((v_12 = 0 → Q (-1) I_12) ∧ (¬ (v_12 = 0) → vp_in y1 4 ∧ Q (I_12 71 y1.toNatClampNeg) (wI I_12 71 y1.toNatClampNeg y2)))))))) : XF fI l C mX10_mark 0 (xent mX10_mark [.ref 69, .int y1, .int y2]) [] G I Q := by
  show XF fI l C mX10_mark 0 [some (.ref 69), some (.int y1), some (.int y2), none] [] G I Q
  refine XF.lift (pc2 := 2) (ls2 := [some (.ref 69), some (.int y1), some (.int y2), none]) (st2 := [.int y1, .ref 69]) (I2 := I) ?_ (fun r I' hk => by
      refine XW.aload_n eX10_mark_0 rfl ?_
      refine XW.iload_n eX10_mark_1 rfl ?_
      exact hk)
  obtain ⟨Qc, hc, h⟩ := h
  refine XF.call (nx := 5) (st := []) hc (fun v I1 r I' hY hk => XW.callV (As := [.int y1]) (st := []) eX10_mark_2 okX10_isLine cv10_131 rfl (so_69 hs) hY (xnum rfl rfl rfl rfl rfl) hk) (fun v_2 I_2 hq => ?_)
  replace h := h v_2 I_2 hq
  obtain ⟨ht, hf⟩ := h
  refine XF.br (P := v_2 = 0) (fun c_5 => ?_) (fun c_5 => ?_)
  ·
    replace h := ht c_5
    refine XF.lift (pc2 := 19) (ls2 := [some (.ref 69), some (.int y1), some (.int y2), none]) (st2 := [.int (-1)]) (I2 := I_2) ?_ (fun r I' hk => by
        refine XW.if_eq eX10_mark_5 (fun _ => ?_) (fun z => absurd c_5 z)
        refine XW.iconst (v := (-1)) eX10_mark_18 (by decide) ?_
        exact hk)
    exact ⟨(-1), I_2, XW.iret eX10_mark_19 rfl rfl rfl rfl rfl, h⟩
  ·
    replace h := hf c_5
    refine XF.lift (pc2 := 12) (ls2 := [some (.ref 69), some (.int y1), some (.int y2), none]) (st2 := [.int 12, .int 0, .int y2]) (I2 := I_2) ?_ (fun r I' hk => by
        refine XW.if_eq eX10_mark_5 (fun z => absurd z c_5) (fun _ => ?_)
        refine XW.iload_n eX10_mark_8 rfl ?_
        refine XW.iconst (v := 0) eX10_mark_9 (by decide) ?_
        refine XW.bipush (v := 12) eX10_mark_10 (by decide) ?_
        exact hk)
    obtain ⟨Qc, hc, h⟩ := h
    refine XF.call (nx := 15) (st := []) hc (fun v I1 r I' hY hk => XW.callS (As := [.int y2, .int 0, .int 12]) (st := []) eX10_mark_12 okX10_in cs10_123 rfl hY (xnum rfl rfl rfl rfl rfl) hk) (fun v_12 I_12 hq => ?_)
    replace h := h v_12 I_12 hq
    obtain ⟨ht, hf⟩ := h
    refine XF.br (P := v_12 = 0) (fun c_15 => ?_) (fun c_15 => ?_)
    ·
      replace h := ht c_15
      refine XF.lift (pc2 := 19) (ls2 := [some (.ref 69), some (.int y1), some (.int y2), none]) (st2 := [.int (-1)]) (I2 := I_12) ?_ (fun r I' hk => by
          refine XW.if_ne eX10_mark_15 (fun z => absurd c_15 z) (fun _ => ?_)
          refine XW.iconst (v := (-1)) eX10_mark_18 (by decide) ?_
          exact hk)
      exact ⟨(-1), I_12, XW.iret eX10_mark_19 rfl rfl rfl rfl rfl, h⟩
    ·
      replace h := hf c_15
      obtain ⟨q_25, h⟩ := h
      refine XF.lift (pc2 := 35) (ls2 := [some (.ref 69), some (.int y1), some (.int y2), some (.int (I_12 71 y1.toNatClampNeg))]) (st2 := [.int (I_12 71 y1.toNatClampNeg)]) (I2 := (wI I_12 71 y1.toNatClampNeg y2)) ?_ (fun r I' hk => by
          refine XW.if_ne eX10_mark_15 (fun _ => ?_) (fun z => absurd z c_15)
          refine XW.aload_n eX10_mark_20 rfl ?_
          refine XW.getR (b := 71) eX10_mark_21 f10_20_10 rfl (so_69 hs) (sr_69_3 hs) ?_
          refine XW.iload_n eX10_mark_24 rfl ?_
          refine XW.iaload eX10_mark_25 (sa_71 hs) q_25 ?_
          refine XW.istore_n (ls' := [some (.ref 69), some (.int y1), some (.int y2), some (.int (I_12 71 y1.toNatClampNeg))]) eX10_mark_26 (Nat.le_of_ble_eq_true rfl) rfl ?_
          refine XW.aload_n eX10_mark_27 rfl ?_
          refine XW.getR (b := 71) eX10_mark_28 f10_20_10 rfl (so_69 hs) (sr_69_3 hs) ?_
          refine XW.iload_n eX10_mark_31 rfl ?_
          refine XW.iload_n eX10_mark_32 rfl ?_
          refine XW.iastore eX10_mark_33 (sa_71 hs) q_25 ?_
          refine XW.iload_n eX10_mark_34 rfl ?_
          exact hk)
      exact ⟨(I_12 71 y1.toNatClampNeg), (wI I_12 71 y1.toNatClampNeg y2), XW.iret eX10_mark_35 rfl rfl rfl rfl rfl, h⟩
set_option maxRecDepth 100000 in
set_option maxHeartbeats 4000000 in
theorem VX10_pace {l : Launch} {C : xC} {G : xG} (hs : SH G)  (I : xI) (y1 y2 : Int32) {Q : Int32 → xI → Prop} (h :
    (∃ Qc : Int32 → xI → Prop, XF fI l C mX10_isLine 0 (xent mX10_isLine [.ref 69, .int y1]) [] G I Qc ∧ ∀ (v_2 : Int32) (I_2 : xI), Qc v_2 I_2 → ((v_2 = 0 → Q (-1) I_2) ∧ (¬ (v_2 = 0) → (∃ Qc : Int32 → xI → Prop, XF fI l C mX10_in 0 (xent mX10_in [.int y2, .int 1, .int 5]) [] G I_2 Qc ∧ ∀ (v_11 : Int32) (I_11 : xI), Qc v_11 I_11 → ((v_11 = 0 → Q (-1) I_11) ∧ (¬ (v_11 = 0) → vp_in y1 4 ∧ Q (I_11 72 y1.toNatClampNeg) (wI I_11 72 y1.toNatClampNeg y2)))))))) : XF fI l C mX10_pace 0 (xent mX10_pace [.ref 69, .int y1, .int y2]) [] G I Q := by
  show XF fI l C mX10_pace 0 [some (.ref 69), some (.int y1), some (.int y2), none] [] G I Q
  refine XF.lift (pc2 := 2) (ls2 := [some (.ref 69), some (.int y1), some (.int y2), none]) (st2 := [.int y1, .ref 69]) (I2 := I) ?_ (fun r I' hk => by
      refine XW.aload_n eX10_pace_0 rfl ?_
      refine XW.iload_n eX10_pace_1 rfl ?_
      exact hk)
  obtain ⟨Qc, hc, h⟩ := h
  refine XF.call (nx := 5) (st := []) hc (fun v I1 r I' hY hk => XW.callV (As := [.int y1]) (st := []) eX10_pace_2 okX10_isLine cv10_131 rfl (so_69 hs) hY (xnum rfl rfl rfl rfl rfl) hk) (fun v_2 I_2 hq => ?_)
  replace h := h v_2 I_2 hq
  obtain ⟨ht, hf⟩ := h
  refine XF.br (P := v_2 = 0) (fun c_5 => ?_) (fun c_5 => ?_)
  ·
    replace h := ht c_5
    refine XF.lift (pc2 := 18) (ls2 := [some (.ref 69), some (.int y1), some (.int y2), none]) (st2 := [.int (-1)]) (I2 := I_2) ?_ (fun r I' hk => by
        refine XW.if_eq eX10_pace_5 (fun _ => ?_) (fun z => absurd c_5 z)
        refine XW.iconst (v := (-1)) eX10_pace_17 (by decide) ?_
        exact hk)
    exact ⟨(-1), I_2, XW.iret eX10_pace_18 rfl rfl rfl rfl rfl, h⟩
  ·
    replace h := hf c_5
    refine XF.lift (pc2 := 11) (ls2 := [some (.ref 69), some (.int y1), some (.int y2), none]) (st2 := [.int 5, .int 1, .int y2]) (I2 := I_2) ?_ (fun r I' hk => by
        refine XW.if_eq eX10_pace_5 (fun z => absurd z c_5) (fun _ => ?_)
        refine XW.iload_n eX10_pace_8 rfl ?_
        refine XW.iconst (v := 1) eX10_pace_9 (by decide) ?_
        refine XW.iconst (v := 5) eX10_pace_10 (by decide) ?_
        exact hk)
    obtain ⟨Qc, hc, h⟩ := h
    refine XF.call (nx := 14) (st := []) hc (fun v I1 r I' hY hk => XW.callS (As := [.int y2, .int 1, .int 5]) (st := []) eX10_pace_11 okX10_in cs10_123 rfl hY (xnum rfl rfl rfl rfl rfl) hk) (fun v_11 I_11 hq => ?_)
    replace h := h v_11 I_11 hq
    obtain ⟨ht, hf⟩ := h
    refine XF.br (P := v_11 = 0) (fun c_14 => ?_) (fun c_14 => ?_)
    ·
      replace h := ht c_14
      refine XF.lift (pc2 := 18) (ls2 := [some (.ref 69), some (.int y1), some (.int y2), none]) (st2 := [.int (-1)]) (I2 := I_11) ?_ (fun r I' hk => by
          refine XW.if_ne eX10_pace_14 (fun z => absurd c_14 z) (fun _ => ?_)
          refine XW.iconst (v := (-1)) eX10_pace_17 (by decide) ?_
          exact hk)
      exact ⟨(-1), I_11, XW.iret eX10_pace_18 rfl rfl rfl rfl rfl, h⟩
    ·
      replace h := hf c_14
      obtain ⟨q_24, h⟩ := h
      refine XF.lift (pc2 := 34) (ls2 := [some (.ref 69), some (.int y1), some (.int y2), some (.int (I_11 72 y1.toNatClampNeg))]) (st2 := [.int (I_11 72 y1.toNatClampNeg)]) (I2 := (wI I_11 72 y1.toNatClampNeg y2)) ?_ (fun r I' hk => by
          refine XW.if_ne eX10_pace_14 (fun _ => ?_) (fun z => absurd z c_14)
          refine XW.aload_n eX10_pace_19 rfl ?_
          refine XW.getR (b := 72) eX10_pace_20 f10_23_10 rfl (so_69 hs) (sr_69_4 hs) ?_
          refine XW.iload_n eX10_pace_23 rfl ?_
          refine XW.iaload eX10_pace_24 (sa_72 hs) q_24 ?_
          refine XW.istore_n (ls' := [some (.ref 69), some (.int y1), some (.int y2), some (.int (I_11 72 y1.toNatClampNeg))]) eX10_pace_25 (Nat.le_of_ble_eq_true rfl) rfl ?_
          refine XW.aload_n eX10_pace_26 rfl ?_
          refine XW.getR (b := 72) eX10_pace_27 f10_23_10 rfl (so_69 hs) (sr_69_4 hs) ?_
          refine XW.iload_n eX10_pace_30 rfl ?_
          refine XW.iload_n eX10_pace_31 rfl ?_
          refine XW.iastore eX10_pace_32 (sa_72 hs) q_24 ?_
          refine XW.iload_n eX10_pace_33 rfl ?_
          exact hk)
      exact ⟨(I_11 72 y1.toNatClampNeg), (wI I_11 72 y1.toNatClampNeg y2), XW.iret eX10_pace_34 rfl rfl rfl rfl rfl, h⟩
set_option maxRecDepth 100000 in
set_option maxHeartbeats 4000000 in
theorem VX10_part {l : Launch} {C : xC} {G : xG} (hs : SH G)  (I : xI) (y1 y2 : Int32) {Q : Int32 → xI → Prop} (h :
    (∃ Qc : Int32 → xI → Prop, XF fI l C mX10_isLine 0 (xent mX10_isLine [.ref 69, .int y1]) [] G I Qc ∧ ∀ (v_2 : Int32) (I_2 : xI), Qc v_2 I_2 → ((v_2 = 0 → Q (-1) I_2) ∧ (¬ (v_2 = 0) → (∃ Qc : Int32 → xI → Prop, XF fI l C mX10_in 0 (xent mX10_in [.int y2, .int 0, .int 12]) [] G I_2 Qc ∧ ∀ (v_12 : Int32) (I_12 : xI), Qc v_12 I_12 → ((v_12 = 0 → Q (-1) I_12) ∧ (¬ (v_12 = 0) → vp_in y1 4 ∧ (((I_12 70 y1.toNatClampNeg) = 0 → Q (-12) I_12) ∧ (¬ ((I_12 70 y1.toNatClampNeg) = 0) → (∃ Qc : Int32 → xI → Prop, XF fI l C mX10_allParts 0 (xent mX10_allParts [.ref 69]) [] G I_12 Qc ∧ ∀ (v_33 : Int32) (I_33 : xI), Qc v_33 I_33 → ((((v_33 - (I_33 73 y1.toNatClampNeg)) + y2) ≤ (I_33 69 0) → Q (I_33 73 y1.toNatClampNeg) (wI I_33 73 y1.toNatClampNeg y2)) ∧ (¬ (((v_33 - (I_33 73 y1.toNatClampNeg)) + y2) ≤ (I_33 69 0)) → Q (-2) I_33)))))))))))) : XF fI l C mX10_part 0 (xent mX10_part [.ref 69, .int y1, .int y2]) [] G I Q := by
  show XF fI l C mX10_part 0 [some (.ref 69), some (.int y1), some (.int y2), none] [] G I Q
  refine XF.lift (pc2 := 2) (ls2 := [some (.ref 69), some (.int y1), some (.int y2), none]) (st2 := [.int y1, .ref 69]) (I2 := I) ?_ (fun r I' hk => by
      refine XW.aload_n eX10_part_0 rfl ?_
      refine XW.iload_n eX10_part_1 rfl ?_
      exact hk)
  obtain ⟨Qc, hc, h⟩ := h
  refine XF.call (nx := 5) (st := []) hc (fun v I1 r I' hY hk => XW.callV (As := [.int y1]) (st := []) eX10_part_2 okX10_isLine cv10_131 rfl (so_69 hs) hY (xnum rfl rfl rfl rfl rfl) hk) (fun v_2 I_2 hq => ?_)
  replace h := h v_2 I_2 hq
  obtain ⟨ht, hf⟩ := h
  refine XF.br (P := v_2 = 0) (fun c_5 => ?_) (fun c_5 => ?_)
  ·
    replace h := ht c_5
    refine XF.lift (pc2 := 19) (ls2 := [some (.ref 69), some (.int y1), some (.int y2), none]) (st2 := [.int (-1)]) (I2 := I_2) ?_ (fun r I' hk => by
        refine XW.if_eq eX10_part_5 (fun _ => ?_) (fun z => absurd c_5 z)
        refine XW.iconst (v := (-1)) eX10_part_18 (by decide) ?_
        exact hk)
    exact ⟨(-1), I_2, XW.iret eX10_part_19 rfl rfl rfl rfl rfl, h⟩
  ·
    replace h := hf c_5
    refine XF.lift (pc2 := 12) (ls2 := [some (.ref 69), some (.int y1), some (.int y2), none]) (st2 := [.int 12, .int 0, .int y2]) (I2 := I_2) ?_ (fun r I' hk => by
        refine XW.if_eq eX10_part_5 (fun z => absurd z c_5) (fun _ => ?_)
        refine XW.iload_n eX10_part_8 rfl ?_
        refine XW.iconst (v := 0) eX10_part_9 (by decide) ?_
        refine XW.bipush (v := 12) eX10_part_10 (by decide) ?_
        exact hk)
    obtain ⟨Qc, hc, h⟩ := h
    refine XF.call (nx := 15) (st := []) hc (fun v I1 r I' hY hk => XW.callS (As := [.int y2, .int 0, .int 12]) (st := []) eX10_part_12 okX10_in cs10_123 rfl hY (xnum rfl rfl rfl rfl rfl) hk) (fun v_12 I_12 hq => ?_)
    replace h := h v_12 I_12 hq
    obtain ⟨ht, hf⟩ := h
    refine XF.br (P := v_12 = 0) (fun c_15 => ?_) (fun c_15 => ?_)
    ·
      replace h := ht c_15
      refine XF.lift (pc2 := 19) (ls2 := [some (.ref 69), some (.int y1), some (.int y2), none]) (st2 := [.int (-1)]) (I2 := I_12) ?_ (fun r I' hk => by
          refine XW.if_ne eX10_part_15 (fun z => absurd c_15 z) (fun _ => ?_)
          refine XW.iconst (v := (-1)) eX10_part_18 (by decide) ?_
          exact hk)
      exact ⟨(-1), I_12, XW.iret eX10_part_19 rfl rfl rfl rfl rfl, h⟩
    ·
      replace h := hf c_15
      obtain ⟨q_25, h⟩ := h
      refine XF.lift (pc2 := 26) (ls2 := [some (.ref 69), some (.int y1), some (.int y2), none]) (st2 := [.int (I_12 70 y1.toNatClampNeg)]) (I2 := I_12) ?_ (fun r I' hk => by
          refine XW.if_ne eX10_part_15 (fun _ => ?_) (fun z => absurd z c_15)
          refine XW.aload_n eX10_part_20 rfl ?_
          refine XW.getR (b := 70) eX10_part_21 f10_16_10 rfl (so_69 hs) (sr_69_2 hs) ?_
          refine XW.iload_n eX10_part_24 rfl ?_
          refine XW.iaload eX10_part_25 (sa_70 hs) q_25 ?_
          exact hk)
      obtain ⟨ht, hf⟩ := h
      refine XF.br (P := (I_12 70 y1.toNatClampNeg) = 0) (fun c_26 => ?_) (fun c_26 => ?_)
      ·
        replace h := ht c_26
        refine XF.lift (pc2 := 31) (ls2 := [some (.ref 69), some (.int y1), some (.int y2), none]) (st2 := [.int (-12)]) (I2 := I_12) ?_ (fun r I' hk => by
            refine XW.if_ne eX10_part_26 (fun z => absurd c_26 z) (fun _ => ?_)
            refine XW.bipush (v := (-12)) eX10_part_29 (by decide) ?_
            exact hk)
        exact ⟨(-12), I_12, XW.iret eX10_part_31 rfl rfl rfl rfl rfl, h⟩
      ·
        replace h := hf c_26
        refine XF.lift (pc2 := 33) (ls2 := [some (.ref 69), some (.int y1), some (.int y2), none]) (st2 := [.ref 69]) (I2 := I_12) ?_ (fun r I' hk => by
            refine XW.if_ne eX10_part_26 (fun _ => ?_) (fun z => absurd z c_26)
            refine XW.aload_n eX10_part_32 rfl ?_
            exact hk)
        obtain ⟨Qc, hc, h⟩ := h
        refine XF.call (nx := 36) (st := []) hc (fun v I1 r I' hY hk => XW.callV (As := []) (st := []) eX10_part_33 okX10_allParts cv10_127 rfl (so_69 hs) hY (xnum rfl rfl rfl rfl rfl) hk) (fun v_33 I_33 hq => ?_)
        replace h := h v_33 I_33 hq
        refine XF.lift (pc2 := 49) (ls2 := [some (.ref 69), some (.int y1), some (.int y2), none]) (st2 := [.int (I_33 69 0), .int ((v_33 - (I_33 73 y1.toNatClampNeg)) + y2)]) (I2 := I_33) ?_ (fun r I' hk => by
            refine XW.aload_n eX10_part_36 rfl ?_
            refine XW.getR (b := 73) eX10_part_37 f10_26_10 rfl (so_69 hs) (sr_69_5 hs) ?_
            refine XW.iload_n eX10_part_40 rfl ?_
            refine XW.iaload eX10_part_41 (sa_73 hs) q_25 ?_
            refine XW.isub eX10_part_42 ?_
            refine XW.iload_n eX10_part_43 rfl ?_
            refine XW.iadd eX10_part_44 ?_
            refine XW.aload_n eX10_part_45 rfl ?_
            refine XW.getI eX10_part_46 f10_7_10 rfl (so_69 hs) ?_
            exact hk)
        obtain ⟨ht, hf⟩ := h
        refine XF.br (P := ((v_33 - (I_33 73 y1.toNatClampNeg)) + y2) ≤ (I_33 69 0)) (fun c_49 => ?_) (fun c_49 => ?_)
        ·
          replace h := ht c_49
          refine XF.lift (pc2 := 70) (ls2 := [some (.ref 69), some (.int y1), some (.int y2), some (.int (I_33 73 y1.toNatClampNeg))]) (st2 := [.int (I_33 73 y1.toNatClampNeg)]) (I2 := (wI I_33 73 y1.toNatClampNeg y2)) ?_ (fun r I' hk => by
              refine XW.icmp_le eX10_part_49 (fun _ => ?_) (fun z => absurd c_49 z)
              refine XW.aload_n eX10_part_55 rfl ?_
              refine XW.getR (b := 73) eX10_part_56 f10_26_10 rfl (so_69 hs) (sr_69_5 hs) ?_
              refine XW.iload_n eX10_part_59 rfl ?_
              refine XW.iaload eX10_part_60 (sa_73 hs) q_25 ?_
              refine XW.istore_n (ls' := [some (.ref 69), some (.int y1), some (.int y2), some (.int (I_33 73 y1.toNatClampNeg))]) eX10_part_61 (Nat.le_of_ble_eq_true rfl) rfl ?_
              refine XW.aload_n eX10_part_62 rfl ?_
              refine XW.getR (b := 73) eX10_part_63 f10_26_10 rfl (so_69 hs) (sr_69_5 hs) ?_
              refine XW.iload_n eX10_part_66 rfl ?_
              refine XW.iload_n eX10_part_67 rfl ?_
              refine XW.iastore eX10_part_68 (sa_73 hs) q_25 ?_
              refine XW.iload_n eX10_part_69 rfl ?_
              exact hk)
          exact ⟨(I_33 73 y1.toNatClampNeg), (wI I_33 73 y1.toNatClampNeg y2), XW.iret eX10_part_70 rfl rfl rfl rfl rfl, h⟩
        ·
          replace h := hf c_49
          refine XF.lift (pc2 := 54) (ls2 := [some (.ref 69), some (.int y1), some (.int y2), none]) (st2 := [.int (-2)]) (I2 := I_33) ?_ (fun r I' hk => by
              refine XW.icmp_le eX10_part_49 (fun z => absurd z c_49) (fun _ => ?_)
              refine XW.bipush (v := (-2)) eX10_part_52 (by decide) ?_
              exact hk)
          exact ⟨(-2), I_33, XW.iret eX10_part_54 rfl rfl rfl rfl rfl, h⟩
set_option maxRecDepth 100000 in
set_option maxHeartbeats 4000000 in
theorem VX10_hold {l : Launch} {C : xC} {G : xG} (hs : SH G)  (I : xI) (y1 y2 y3 y4 : Int32) {Q : Int32 → xI → Prop} (h :
    (∃ Qc : Int32 → xI → Prop, XF fI l C mX10_isLine 0 (xent mX10_isLine [.ref 69, .int y1]) [] G I Qc ∧ ∀ (v_2 : Int32) (I_2 : xI), Qc v_2 I_2 → ((v_2 = 0 → Q (-1) I_2) ∧ (¬ (v_2 = 0) → (∃ Qc : Int32 → xI → Prop, XF fI l C mX10_in 0 (xent mX10_in [.int y2, .int 1, .int 12]) [] G I_2 Qc ∧ ∀ (v_12 : Int32) (I_12 : xI), Qc v_12 I_12 → ((v_12 = 0 → Q (-1) I_12) ∧ (¬ (v_12 = 0) → (∃ Qc : Int32 → xI → Prop, XF fI l C mX10_in 0 (xent mX10_in [.int y3, .int 0, .int 11]) [] G I_12 Qc ∧ ∀ (v_22 : Int32) (I_22 : xI), Qc v_22 I_22 → ((v_22 = 0 → Q (-1) I_22) ∧ (¬ (v_22 = 0) → ((y2 ≤ y3 → Q (-1) I_22) ∧ (¬ (y2 ≤ y3) → (∃ Qc : Int32 → xI → Prop, XF fI l C mX10_in 0 (xent mX10_in [.int y4, .int 0, .int 5]) [] G I_22 Qc ∧ ∀ (v_37 : Int32) (I_37 : xI), Qc v_37 I_37 → ((v_37 = 0 → Q (-1) I_37) ∧ (¬ (v_37 = 0) → vp_in y1 4 ∧ (((I_37 70 y1.toNatClampNeg) = 2 → Q 1 (wI (wI (wI I_37 74 y1.toNatClampNeg y2) 75 y1.toNatClampNeg y3) 76 y1.toNatClampNeg y4)) ∧ (¬ ((I_37 70 y1.toNatClampNeg) = 2) → Q (-12) I_37))))))))))))))))) : XF fI l C mX10_hold 0 (xent mX10_hold [.ref 69, .int y1, .int y2, .int y3, .int y4]) [] G I Q := by
  show XF fI l C mX10_hold 0 [some (.ref 69), some (.int y1), some (.int y2), some (.int y3), some (.int y4)] [] G I Q
  refine XF.lift (pc2 := 2) (ls2 := [some (.ref 69), some (.int y1), some (.int y2), some (.int y3), some (.int y4)]) (st2 := [.int y1, .ref 69]) (I2 := I) ?_ (fun r I' hk => by
      refine XW.aload_n eX10_hold_0 rfl ?_
      refine XW.iload_n eX10_hold_1 rfl ?_
      exact hk)
  obtain ⟨Qc, hc, h⟩ := h
  refine XF.call (nx := 5) (st := []) hc (fun v I1 r I' hY hk => XW.callV (As := [.int y1]) (st := []) eX10_hold_2 okX10_isLine cv10_131 rfl (so_69 hs) hY (xnum rfl rfl rfl rfl rfl) hk) (fun v_2 I_2 hq => ?_)
  replace h := h v_2 I_2 hq
  obtain ⟨ht, hf⟩ := h
  refine XF.br (P := v_2 = 0) (fun c_5 => ?_) (fun c_5 => ?_)
  ·
    replace h := ht c_5
    refine XF.lift (pc2 := 44) (ls2 := [some (.ref 69), some (.int y1), some (.int y2), some (.int y3), some (.int y4)]) (st2 := [.int (-1)]) (I2 := I_2) ?_ (fun r I' hk => by
        refine XW.if_eq eX10_hold_5 (fun _ => ?_) (fun z => absurd c_5 z)
        refine XW.iconst (v := (-1)) eX10_hold_43 (by decide) ?_
        exact hk)
    exact ⟨(-1), I_2, XW.iret eX10_hold_44 rfl rfl rfl rfl rfl, h⟩
  ·
    replace h := hf c_5
    refine XF.lift (pc2 := 12) (ls2 := [some (.ref 69), some (.int y1), some (.int y2), some (.int y3), some (.int y4)]) (st2 := [.int 12, .int 1, .int y2]) (I2 := I_2) ?_ (fun r I' hk => by
        refine XW.if_eq eX10_hold_5 (fun z => absurd z c_5) (fun _ => ?_)
        refine XW.iload_n eX10_hold_8 rfl ?_
        refine XW.iconst (v := 1) eX10_hold_9 (by decide) ?_
        refine XW.bipush (v := 12) eX10_hold_10 (by decide) ?_
        exact hk)
    obtain ⟨Qc, hc, h⟩ := h
    refine XF.call (nx := 15) (st := []) hc (fun v I1 r I' hY hk => XW.callS (As := [.int y2, .int 1, .int 12]) (st := []) eX10_hold_12 okX10_in cs10_123 rfl hY (xnum rfl rfl rfl rfl rfl) hk) (fun v_12 I_12 hq => ?_)
    replace h := h v_12 I_12 hq
    obtain ⟨ht, hf⟩ := h
    refine XF.br (P := v_12 = 0) (fun c_15 => ?_) (fun c_15 => ?_)
    ·
      replace h := ht c_15
      refine XF.lift (pc2 := 44) (ls2 := [some (.ref 69), some (.int y1), some (.int y2), some (.int y3), some (.int y4)]) (st2 := [.int (-1)]) (I2 := I_12) ?_ (fun r I' hk => by
          refine XW.if_eq eX10_hold_15 (fun _ => ?_) (fun z => absurd c_15 z)
          refine XW.iconst (v := (-1)) eX10_hold_43 (by decide) ?_
          exact hk)
      exact ⟨(-1), I_12, XW.iret eX10_hold_44 rfl rfl rfl rfl rfl, h⟩
    ·
      replace h := hf c_15
      refine XF.lift (pc2 := 22) (ls2 := [some (.ref 69), some (.int y1), some (.int y2), some (.int y3), some (.int y4)]) (st2 := [.int 11, .int 0, .int y3]) (I2 := I_12) ?_ (fun r I' hk => by
          refine XW.if_eq eX10_hold_15 (fun z => absurd z c_15) (fun _ => ?_)
          refine XW.iload_n eX10_hold_18 rfl ?_
          refine XW.iconst (v := 0) eX10_hold_19 (by decide) ?_
          refine XW.bipush (v := 11) eX10_hold_20 (by decide) ?_
          exact hk)
      obtain ⟨Qc, hc, h⟩ := h
      refine XF.call (nx := 25) (st := []) hc (fun v I1 r I' hY hk => XW.callS (As := [.int y3, .int 0, .int 11]) (st := []) eX10_hold_22 okX10_in cs10_123 rfl hY (xnum rfl rfl rfl rfl rfl) hk) (fun v_22 I_22 hq => ?_)
      replace h := h v_22 I_22 hq
      obtain ⟨ht, hf⟩ := h
      refine XF.br (P := v_22 = 0) (fun c_25 => ?_) (fun c_25 => ?_)
      ·
        replace h := ht c_25
        refine XF.lift (pc2 := 44) (ls2 := [some (.ref 69), some (.int y1), some (.int y2), some (.int y3), some (.int y4)]) (st2 := [.int (-1)]) (I2 := I_22) ?_ (fun r I' hk => by
            refine XW.if_eq eX10_hold_25 (fun _ => ?_) (fun z => absurd c_25 z)
            refine XW.iconst (v := (-1)) eX10_hold_43 (by decide) ?_
            exact hk)
        exact ⟨(-1), I_22, XW.iret eX10_hold_44 rfl rfl rfl rfl rfl, h⟩
      ·
        replace h := hf c_25
        refine XF.lift (pc2 := 30) (ls2 := [some (.ref 69), some (.int y1), some (.int y2), some (.int y3), some (.int y4)]) (st2 := [.int y2, .int y3]) (I2 := I_22) ?_ (fun r I' hk => by
            refine XW.if_eq eX10_hold_25 (fun z => absurd z c_25) (fun _ => ?_)
            refine XW.iload_n eX10_hold_28 rfl ?_
            refine XW.iload_n eX10_hold_29 rfl ?_
            exact hk)
        obtain ⟨ht, hf⟩ := h
        refine XF.br (P := y2 ≤ y3) (fun c_30 => ?_) (fun c_30 => ?_)
        ·
          replace h := ht c_30
          refine XF.lift (pc2 := 44) (ls2 := [some (.ref 69), some (.int y1), some (.int y2), some (.int y3), some (.int y4)]) (st2 := [.int (-1)]) (I2 := I_22) ?_ (fun r I' hk => by
              refine XW.icmp_ge eX10_hold_30 (fun _ => ?_) (fun z => absurd c_30 z)
              refine XW.iconst (v := (-1)) eX10_hold_43 (by decide) ?_
              exact hk)
          exact ⟨(-1), I_22, XW.iret eX10_hold_44 rfl rfl rfl rfl rfl, h⟩
        ·
          replace h := hf c_30
          refine XF.lift (pc2 := 37) (ls2 := [some (.ref 69), some (.int y1), some (.int y2), some (.int y3), some (.int y4)]) (st2 := [.int 5, .int 0, .int y4]) (I2 := I_22) ?_ (fun r I' hk => by
              refine XW.icmp_ge eX10_hold_30 (fun z => absurd z c_30) (fun _ => ?_)
              refine XW.iload eX10_hold_33 rfl ?_
              refine XW.iconst (v := 0) eX10_hold_35 (by decide) ?_
              refine XW.iconst (v := 5) eX10_hold_36 (by decide) ?_
              exact hk)
          obtain ⟨Qc, hc, h⟩ := h
          refine XF.call (nx := 40) (st := []) hc (fun v I1 r I' hY hk => XW.callS (As := [.int y4, .int 0, .int 5]) (st := []) eX10_hold_37 okX10_in cs10_123 rfl hY (xnum rfl rfl rfl rfl rfl) hk) (fun v_37 I_37 hq => ?_)
          replace h := h v_37 I_37 hq
          obtain ⟨ht, hf⟩ := h
          refine XF.br (P := v_37 = 0) (fun c_40 => ?_) (fun c_40 => ?_)
          ·
            replace h := ht c_40
            refine XF.lift (pc2 := 44) (ls2 := [some (.ref 69), some (.int y1), some (.int y2), some (.int y3), some (.int y4)]) (st2 := [.int (-1)]) (I2 := I_37) ?_ (fun r I' hk => by
                refine XW.if_ne eX10_hold_40 (fun z => absurd c_40 z) (fun _ => ?_)
                refine XW.iconst (v := (-1)) eX10_hold_43 (by decide) ?_
                exact hk)
            exact ⟨(-1), I_37, XW.iret eX10_hold_44 rfl rfl rfl rfl rfl, h⟩
          ·
            replace h := hf c_40
            obtain ⟨q_50, h⟩ := h
            refine XF.lift (pc2 := 52) (ls2 := [some (.ref 69), some (.int y1), some (.int y2), some (.int y3), some (.int y4)]) (st2 := [.int 2, .int (I_37 70 y1.toNatClampNeg)]) (I2 := I_37) ?_ (fun r I' hk => by
                refine XW.if_ne eX10_hold_40 (fun _ => ?_) (fun z => absurd z c_40)
                refine XW.aload_n eX10_hold_45 rfl ?_
                refine XW.getR (b := 70) eX10_hold_46 f10_16_10 rfl (so_69 hs) (sr_69_2 hs) ?_
                refine XW.iload_n eX10_hold_49 rfl ?_
                refine XW.iaload eX10_hold_50 (sa_70 hs) q_50 ?_
                refine XW.iconst (v := 2) eX10_hold_51 (by decide) ?_
                exact hk)
            obtain ⟨ht, hf⟩ := h
            refine XF.br (P := (I_37 70 y1.toNatClampNeg) = 2) (fun c_52 => ?_) (fun c_52 => ?_)
            ·
              replace h := ht c_52
              refine XF.lift (pc2 := 81) (ls2 := [some (.ref 69), some (.int y1), some (.int y2), some (.int y3), some (.int y4)]) (st2 := [.int 1]) (I2 := (wI (wI (wI I_37 74 y1.toNatClampNeg y2) 75 y1.toNatClampNeg y3) 76 y1.toNatClampNeg y4)) ?_ (fun r I' hk => by
                  refine XW.icmp_eq eX10_hold_52 (fun _ => ?_) (fun z => absurd c_52 z)
                  refine XW.aload_n eX10_hold_58 rfl ?_
                  refine XW.getR (b := 74) eX10_hold_59 f10_29_10 rfl (so_69 hs) (sr_69_6 hs) ?_
                  refine XW.iload_n eX10_hold_62 rfl ?_
                  refine XW.iload_n eX10_hold_63 rfl ?_
                  refine XW.iastore eX10_hold_64 (sa_74 hs) q_50 ?_
                  refine XW.aload_n eX10_hold_65 rfl ?_
                  refine XW.getR (b := 75) eX10_hold_66 f10_32_10 rfl (so_69 hs) (sr_69_7 hs) ?_
                  refine XW.iload_n eX10_hold_69 rfl ?_
                  refine XW.iload_n eX10_hold_70 rfl ?_
                  refine XW.iastore eX10_hold_71 (sa_75 hs) q_50 ?_
                  refine XW.aload_n eX10_hold_72 rfl ?_
                  refine XW.getR (b := 76) eX10_hold_73 f10_35_10 rfl (so_69 hs) (sr_69_8 hs) ?_
                  refine XW.iload_n eX10_hold_76 rfl ?_
                  refine XW.iload eX10_hold_77 rfl ?_
                  refine XW.iastore eX10_hold_79 (sa_76 hs) q_50 ?_
                  refine XW.iconst (v := 1) eX10_hold_80 (by decide) ?_
                  exact hk)
              exact ⟨1, (wI (wI (wI I_37 74 y1.toNatClampNeg y2) 75 y1.toNatClampNeg y3) 76 y1.toNatClampNeg y4), XW.iret eX10_hold_81 rfl rfl rfl rfl rfl, h⟩
            ·
              replace h := hf c_52
              refine XF.lift (pc2 := 57) (ls2 := [some (.ref 69), some (.int y1), some (.int y2), some (.int y3), some (.int y4)]) (st2 := [.int (-12)]) (I2 := I_37) ?_ (fun r I' hk => by
                  refine XW.icmp_eq eX10_hold_52 (fun z => absurd z c_52) (fun _ => ?_)
                  refine XW.bipush (v := (-12)) eX10_hold_55 (by decide) ?_
                  exact hk)
              exact ⟨(-12), I_37, XW.iret eX10_hold_57 rfl rfl rfl rfl rfl, h⟩
set_option maxRecDepth 100000 in
set_option maxHeartbeats 4000000 in
theorem VX10_told {l : Launch} {C : xC} {G : xG} (hs : SH G)  (I : xI) (y1 y2 : Int32) {Q : Int32 → xI → Prop} (h :
    (∃ Qc : Int32 → xI → Prop, XF fI l C mX10_isLine 0 (xent mX10_isLine [.ref 69, .int y1]) [] G I Qc ∧ ∀ (v_2 : Int32) (I_2 : xI), Qc v_2 I_2 → ((v_2 = 0 → Q (-1) I_2) ∧ (¬ (v_2 = 0) → vp_in y1 4 ∧ (((I_2 70 y1.toNatClampNeg) ≤ 0 → (((I_2 70 y1.toNatClampNeg) = 2 → ((y2 = 0 → Q (I_2 70 y1.toNatClampNeg) I_2) ∧ (¬ (y2 = 0) → ((y2 = 1 → Q (I_2 71 y1.toNatClampNeg) I_2) ∧ (¬ (y2 = 1) → ((y2 = 2 → Q 0 I_2) ∧ (¬ (y2 = 2) → ((y2 = 3 → Q (I_2 74 y1.toNatClampNeg) I_2) ∧ (¬ (y2 = 3) → ((y2 = 4 → Q (I_2 75 y1.toNatClampNeg) I_2) ∧ (¬ (y2 = 4) → ((y2 = 5 → Q (I_2 76 y1.toNatClampNeg) I_2) ∧ (¬ (y2 = 5) → ((y2 = 6 → Q ((I_2 74 y1.toNatClampNeg) + (I_2 76 y1.toNatClampNeg)) I_2) ∧ (¬ (y2 = 6) → ((y2 = 7 → Q (I_2 72 y1.toNatClampNeg) I_2) ∧ (¬ (y2 = 7) → Q (-1) I_2))))))))))))))))) ∧ (¬ ((I_2 70 y1.toNatClampNeg) = 2) → ((y2 = 0 → Q (I_2 70 y1.toNatClampNeg) I_2) ∧ (¬ (y2 = 0) → ((y2 = 1 → Q (I_2 71 y1.toNatClampNeg) I_2) ∧ (¬ (y2 = 1) → ((y2 = 2 → Q 0 I_2) ∧ (¬ (y2 = 2) → ((y2 = 3 → Q 0 I_2) ∧ (¬ (y2 = 3) → ((y2 = 4 → Q 0 I_2) ∧ (¬ (y2 = 4) → ((y2 = 5 → Q 0 I_2) ∧ (¬ (y2 = 5) → ((y2 = 6 → Q 0 I_2) ∧ (¬ (y2 = 6) → ((y2 = 7 → Q (I_2 72 y1.toNatClampNeg) I_2) ∧ (¬ (y2 = 7) → Q (-1) I_2))))))))))))))))))) ∧ (¬ ((I_2 70 y1.toNatClampNeg) ≤ 0) → (((I_2 70 y1.toNatClampNeg) = 2 → ((y2 = 0 → Q (I_2 70 y1.toNatClampNeg) I_2) ∧ (¬ (y2 = 0) → ((y2 = 1 → Q (I_2 71 y1.toNatClampNeg) I_2) ∧ (¬ (y2 = 1) → ((y2 = 2 → Q (I_2 73 y1.toNatClampNeg) I_2) ∧ (¬ (y2 = 2) → ((y2 = 3 → Q (I_2 74 y1.toNatClampNeg) I_2) ∧ (¬ (y2 = 3) → ((y2 = 4 → Q (I_2 75 y1.toNatClampNeg) I_2) ∧ (¬ (y2 = 4) → ((y2 = 5 → Q (I_2 76 y1.toNatClampNeg) I_2) ∧ (¬ (y2 = 5) → ((y2 = 6 → Q ((I_2 74 y1.toNatClampNeg) + (I_2 76 y1.toNatClampNeg)) I_2) ∧ (¬ (y2 = 6) → ((y2 = 7 → Q (I_2 72 y1.toNatClampNeg) I_2) ∧ (¬ (y2 = 7) → Q (-1) I_2))))))))))))))))) ∧ (¬ ((I_2 70 y1.toNatClampNeg) = 2) → ((y2 = 0 → Q (I_2 70 y1.toNatClampNeg) I_2) ∧ (¬ (y2 = 0) → ((y2 = 1 → Q (I_2 71 y1.toNatClampNeg) I_2) ∧ (¬ (y2 = 1) → ((y2 = 2 → Q (I_2 73 y1.toNatClampNeg) I_2) ∧ (¬ (y2 = 2) → ((y2 = 3 → Q 0 I_2) ∧ (¬ (y2 = 3) → ((y2 = 4 → Q 0 I_2) ∧ (¬ (y2 = 4) → ((y2 = 5 → Q 0 I_2) ∧ (¬ (y2 = 5) → ((y2 = 6 → Q 0 I_2) ∧ (¬ (y2 = 6) → ((y2 = 7 → Q (I_2 72 y1.toNatClampNeg) I_2) ∧ (¬ (y2 = 7) → Q (-1) I_2)))))))))))))))))))))))) : XF fI l C mX10_told 0 (xent mX10_told [.ref 69, .int y1, .int y2]) [] G I Q := by
  show XF fI l C mX10_told 0 [some (.ref 69), some (.int y1), some (.int y2), none, none] [] G I Q
  refine XF.lift (pc2 := 2) (ls2 := [some (.ref 69), some (.int y1), some (.int y2), none, none]) (st2 := [.int y1, .ref 69]) (I2 := I) ?_ (fun r I' hk => by
      refine XW.aload_n eX10_told_0 rfl ?_
      refine XW.iload_n eX10_told_1 rfl ?_
      exact hk)
  obtain ⟨Qc, hc, h⟩ := h
  refine XF.call (nx := 5) (st := []) hc (fun v I1 r I' hY hk => XW.callV (As := [.int y1]) (st := []) eX10_told_2 okX10_isLine cv10_131 rfl (so_69 hs) hY (xnum rfl rfl rfl rfl rfl) hk) (fun v_2 I_2 hq => ?_)
  replace h := h v_2 I_2 hq
  obtain ⟨ht, hf⟩ := h
  refine XF.br (P := v_2 = 0) (fun c_5 => ?_) (fun c_5 => ?_)
  ·
    replace h := ht c_5
    refine XF.lift (pc2 := 9) (ls2 := [some (.ref 69), some (.int y1), some (.int y2), none, none]) (st2 := [.int (-1)]) (I2 := I_2) ?_ (fun r I' hk => by
        refine XW.if_ne eX10_told_5 (fun z => absurd c_5 z) (fun _ => ?_)
        refine XW.iconst (v := (-1)) eX10_told_8 (by decide) ?_
        exact hk)
    exact ⟨(-1), I_2, XW.iret eX10_told_9 rfl rfl rfl rfl rfl, h⟩
  ·
    replace h := hf c_5
    obtain ⟨q_15, h⟩ := h
    refine XF.lift (pc2 := 16) (ls2 := [some (.ref 69), some (.int y1), some (.int y2), none, none]) (st2 := [.int (I_2 70 y1.toNatClampNeg)]) (I2 := I_2) ?_ (fun r I' hk => by
        refine XW.if_ne eX10_told_5 (fun _ => ?_) (fun z => absurd z c_5)
        refine XW.aload_n eX10_told_10 rfl ?_
        refine XW.getR (b := 70) eX10_told_11 f10_16_10 rfl (so_69 hs) (sr_69_2 hs) ?_
        refine XW.iload_n eX10_told_14 rfl ?_
        refine XW.iaload eX10_told_15 (sa_70 hs) q_15 ?_
        exact hk)
    obtain ⟨ht, hf⟩ := h
    refine XF.br (P := (I_2 70 y1.toNatClampNeg) ≤ 0) (fun c_16 => ?_) (fun c_16 => ?_)
    ·
      replace h := ht c_16
      refine XF.lift (pc2 := 32) (ls2 := [some (.ref 69), some (.int y1), some (.int y2), some (.int 0), none]) (st2 := [.int 2, .int (I_2 70 y1.toNatClampNeg)]) (I2 := I_2) ?_ (fun r I' hk => by
          refine XW.if_le eX10_told_16 (fun _ => ?_) (fun z => absurd c_16 z)
          refine XW.iconst (v := 0) eX10_told_23 (by decide) ?_
          refine XW.istore_n (ls' := [some (.ref 69), some (.int y1), some (.int y2), some (.int 0), none]) eX10_told_24 (Nat.le_of_ble_eq_true rfl) rfl ?_
          refine XW.aload_n eX10_told_25 rfl ?_
          refine XW.getR (b := 70) eX10_told_26 f10_16_10 rfl (so_69 hs) (sr_69_2 hs) ?_
          refine XW.iload_n eX10_told_29 rfl ?_
          refine XW.iaload eX10_told_30 (sa_70 hs) q_15 ?_
          refine XW.iconst (v := 2) eX10_told_31 (by decide) ?_
          exact hk)
      obtain ⟨ht, hf⟩ := h
      refine XF.br (P := (I_2 70 y1.toNatClampNeg) = 2) (fun c_32 => ?_) (fun c_32 => ?_)
      ·
        replace h := ht c_32
        refine XF.lift (pc2 := 43) (ls2 := [some (.ref 69), some (.int y1), some (.int y2), some (.int 0), some (.int 1)]) (st2 := [.int y2]) (I2 := I_2) ?_ (fun r I' hk => by
            refine XW.icmp_ne eX10_told_32 (fun z => absurd c_32 z) (fun _ => ?_)
            refine XW.iconst (v := 1) eX10_told_35 (by decide) ?_
            refine XW.goto eX10_told_36 ?_
            refine XW.istore (ls' := [some (.ref 69), some (.int y1), some (.int y2), some (.int 0), some (.int 1)]) eX10_told_40 (Nat.le_of_ble_eq_true rfl) rfl ?_
            refine XW.iload_n eX10_told_42 rfl ?_
            exact hk)
        obtain ⟨ht, hf⟩ := h
        refine XF.br (P := y2 = 0) (fun c_43_0 => ?_) (fun c_43_0 => ?_)
        ·
          replace h := ht c_43_0
          refine XF.lift (pc2 := 94) (ls2 := [some (.ref 69), some (.int y1), some (.int y2), some (.int 0), some (.int 1)]) (st2 := [.int (I_2 70 y1.toNatClampNeg)]) (I2 := I_2) ?_ (fun r I' hk => by
              refine XW.tabIn (off := 45) (tgt := 88) dX10_told_43 (by rw [c_43_0]; decide) (by rw [c_43_0]; decide) (by rw [c_43_0]; rfl) (by decide) ?_
              refine XW.aload_n eX10_told_88 rfl ?_
              refine XW.getR (b := 70) eX10_told_89 f10_16_10 rfl (so_69 hs) (sr_69_2 hs) ?_
              refine XW.iload_n eX10_told_92 rfl ?_
              refine XW.iaload eX10_told_93 (sa_70 hs) q_15 ?_
              exact hk)
          exact ⟨(I_2 70 y1.toNatClampNeg), I_2, XW.iret eX10_told_94 rfl rfl rfl rfl rfl, h⟩
        replace h := hf c_43_0
        obtain ⟨ht, hf⟩ := h
        refine XF.br (P := y2 = 1) (fun c_43_1 => ?_) (fun c_43_1 => ?_)
        ·
          replace h := ht c_43_1
          refine XF.lift (pc2 := 101) (ls2 := [some (.ref 69), some (.int y1), some (.int y2), some (.int 0), some (.int 1)]) (st2 := [.int (I_2 71 y1.toNatClampNeg)]) (I2 := I_2) ?_ (fun r I' hk => by
              refine XW.tabIn (off := 52) (tgt := 95) dX10_told_43 (by rw [c_43_1]; decide) (by rw [c_43_1]; decide) (by rw [c_43_1]; rfl) (by decide) ?_
              refine XW.aload_n eX10_told_95 rfl ?_
              refine XW.getR (b := 71) eX10_told_96 f10_20_10 rfl (so_69 hs) (sr_69_3 hs) ?_
              refine XW.iload_n eX10_told_99 rfl ?_
              refine XW.iaload eX10_told_100 (sa_71 hs) q_15 ?_
              exact hk)
          exact ⟨(I_2 71 y1.toNatClampNeg), I_2, XW.iret eX10_told_101 rfl rfl rfl rfl rfl, h⟩
        replace h := hf c_43_1
        obtain ⟨ht, hf⟩ := h
        refine XF.br (P := y2 = 2) (fun c_43_2 => ?_) (fun c_43_2 => ?_)
        ·
          replace h := ht c_43_2
          refine XF.lift (pc2 := 116) (ls2 := [some (.ref 69), some (.int y1), some (.int y2), some (.int 0), some (.int 1)]) (st2 := [.int 0]) (I2 := I_2) ?_ (fun r I' hk => by
              refine XW.tabIn (off := 59) (tgt := 102) dX10_told_43 (by rw [c_43_2]; decide) (by rw [c_43_2]; decide) (by rw [c_43_2]; rfl) (by decide) ?_
              refine XW.iload_n eX10_told_102 rfl ?_
              refine XW.if_eq eX10_told_103 (fun _ => ?_) (fun z => absurd (by decide) z)
              refine XW.iconst (v := 0) eX10_told_115 (by decide) ?_
              exact hk)
          exact ⟨0, I_2, XW.iret eX10_told_116 rfl rfl rfl rfl rfl, h⟩
        replace h := hf c_43_2
        obtain ⟨ht, hf⟩ := h
        refine XF.br (P := y2 = 3) (fun c_43_3 => ?_) (fun c_43_3 => ?_)
        ·
          replace h := ht c_43_3
          refine XF.lift (pc2 := 132) (ls2 := [some (.ref 69), some (.int y1), some (.int y2), some (.int 0), some (.int 1)]) (st2 := [.int (I_2 74 y1.toNatClampNeg)]) (I2 := I_2) ?_ (fun r I' hk => by
              refine XW.tabIn (off := 74) (tgt := 117) dX10_told_43 (by rw [c_43_3]; decide) (by rw [c_43_3]; decide) (by rw [c_43_3]; rfl) (by decide) ?_
              refine XW.iload eX10_told_117 rfl ?_
              refine XW.if_eq eX10_told_119 (fun z => absurd z (by decide)) (fun _ => ?_)
              refine XW.aload_n eX10_told_122 rfl ?_
              refine XW.getR (b := 74) eX10_told_123 f10_29_10 rfl (so_69 hs) (sr_69_6 hs) ?_
              refine XW.iload_n eX10_told_126 rfl ?_
              refine XW.iaload eX10_told_127 (sa_74 hs) q_15 ?_
              refine XW.goto eX10_told_128 ?_
              exact hk)
          exact ⟨(I_2 74 y1.toNatClampNeg), I_2, XW.iret eX10_told_132 rfl rfl rfl rfl rfl, h⟩
        replace h := hf c_43_3
        obtain ⟨ht, hf⟩ := h
        refine XF.br (P := y2 = 4) (fun c_43_4 => ?_) (fun c_43_4 => ?_)
        ·
          replace h := ht c_43_4
          refine XF.lift (pc2 := 148) (ls2 := [some (.ref 69), some (.int y1), some (.int y2), some (.int 0), some (.int 1)]) (st2 := [.int (I_2 75 y1.toNatClampNeg)]) (I2 := I_2) ?_ (fun r I' hk => by
              refine XW.tabIn (off := 90) (tgt := 133) dX10_told_43 (by rw [c_43_4]; decide) (by rw [c_43_4]; decide) (by rw [c_43_4]; rfl) (by decide) ?_
              refine XW.iload eX10_told_133 rfl ?_
              refine XW.if_eq eX10_told_135 (fun z => absurd z (by decide)) (fun _ => ?_)
              refine XW.aload_n eX10_told_138 rfl ?_
              refine XW.getR (b := 75) eX10_told_139 f10_32_10 rfl (so_69 hs) (sr_69_7 hs) ?_
              refine XW.iload_n eX10_told_142 rfl ?_
              refine XW.iaload eX10_told_143 (sa_75 hs) q_15 ?_
              refine XW.goto eX10_told_144 ?_
              exact hk)
          exact ⟨(I_2 75 y1.toNatClampNeg), I_2, XW.iret eX10_told_148 rfl rfl rfl rfl rfl, h⟩
        replace h := hf c_43_4
        obtain ⟨ht, hf⟩ := h
        refine XF.br (P := y2 = 5) (fun c_43_5 => ?_) (fun c_43_5 => ?_)
        ·
          replace h := ht c_43_5
          refine XF.lift (pc2 := 164) (ls2 := [some (.ref 69), some (.int y1), some (.int y2), some (.int 0), some (.int 1)]) (st2 := [.int (I_2 76 y1.toNatClampNeg)]) (I2 := I_2) ?_ (fun r I' hk => by
              refine XW.tabIn (off := 106) (tgt := 149) dX10_told_43 (by rw [c_43_5]; decide) (by rw [c_43_5]; decide) (by rw [c_43_5]; rfl) (by decide) ?_
              refine XW.iload eX10_told_149 rfl ?_
              refine XW.if_eq eX10_told_151 (fun z => absurd z (by decide)) (fun _ => ?_)
              refine XW.aload_n eX10_told_154 rfl ?_
              refine XW.getR (b := 76) eX10_told_155 f10_35_10 rfl (so_69 hs) (sr_69_8 hs) ?_
              refine XW.iload_n eX10_told_158 rfl ?_
              refine XW.iaload eX10_told_159 (sa_76 hs) q_15 ?_
              refine XW.goto eX10_told_160 ?_
              exact hk)
          exact ⟨(I_2 76 y1.toNatClampNeg), I_2, XW.iret eX10_told_164 rfl rfl rfl rfl rfl, h⟩
        replace h := hf c_43_5
        obtain ⟨ht, hf⟩ := h
        refine XF.br (P := y2 = 6) (fun c_43_6 => ?_) (fun c_43_6 => ?_)
        ·
          replace h := ht c_43_6
          refine XF.lift (pc2 := 187) (ls2 := [some (.ref 69), some (.int y1), some (.int y2), some (.int 0), some (.int 1)]) (st2 := [.int ((I_2 74 y1.toNatClampNeg) + (I_2 76 y1.toNatClampNeg))]) (I2 := I_2) ?_ (fun r I' hk => by
              refine XW.tabIn (off := 122) (tgt := 165) dX10_told_43 (by rw [c_43_6]; decide) (by rw [c_43_6]; decide) (by rw [c_43_6]; rfl) (by decide) ?_
              refine XW.iload eX10_told_165 rfl ?_
              refine XW.if_eq eX10_told_167 (fun z => absurd z (by decide)) (fun _ => ?_)
              refine XW.aload_n eX10_told_170 rfl ?_
              refine XW.getR (b := 74) eX10_told_171 f10_29_10 rfl (so_69 hs) (sr_69_6 hs) ?_
              refine XW.iload_n eX10_told_174 rfl ?_
              refine XW.iaload eX10_told_175 (sa_74 hs) q_15 ?_
              refine XW.aload_n eX10_told_176 rfl ?_
              refine XW.getR (b := 76) eX10_told_177 f10_35_10 rfl (so_69 hs) (sr_69_8 hs) ?_
              refine XW.iload_n eX10_told_180 rfl ?_
              refine XW.iaload eX10_told_181 (sa_76 hs) q_15 ?_
              refine XW.iadd eX10_told_182 ?_
              refine XW.goto eX10_told_183 ?_
              exact hk)
          exact ⟨((I_2 74 y1.toNatClampNeg) + (I_2 76 y1.toNatClampNeg)), I_2, XW.iret eX10_told_187 rfl rfl rfl rfl rfl, h⟩
        replace h := hf c_43_6
        obtain ⟨ht, hf⟩ := h
        refine XF.br (P := y2 = 7) (fun c_43_7 => ?_) (fun c_43_7 => ?_)
        ·
          replace h := ht c_43_7
          refine XF.lift (pc2 := 194) (ls2 := [some (.ref 69), some (.int y1), some (.int y2), some (.int 0), some (.int 1)]) (st2 := [.int (I_2 72 y1.toNatClampNeg)]) (I2 := I_2) ?_ (fun r I' hk => by
              refine XW.tabIn (off := 145) (tgt := 188) dX10_told_43 (by rw [c_43_7]; decide) (by rw [c_43_7]; decide) (by rw [c_43_7]; rfl) (by decide) ?_
              refine XW.aload_n eX10_told_188 rfl ?_
              refine XW.getR (b := 72) eX10_told_189 f10_23_10 rfl (so_69 hs) (sr_69_4 hs) ?_
              refine XW.iload_n eX10_told_192 rfl ?_
              refine XW.iaload eX10_told_193 (sa_72 hs) q_15 ?_
              exact hk)
          exact ⟨(I_2 72 y1.toNatClampNeg), I_2, XW.iret eX10_told_194 rfl rfl rfl rfl rfl, h⟩
        replace h := hf c_43_7
        refine XF.lift (pc2 := 196) (ls2 := [some (.ref 69), some (.int y1), some (.int y2), some (.int 0), some (.int 1)]) (st2 := [.int (-1)]) (I2 := I_2) ?_ (fun r I' hk => by
            refine XW.tabOut (tgt := 195) dX10_told_43 (tab_out 8 (by decide) (by intro k hk; rcases (show k = 0 ∨ k = 1 ∨ k = 2 ∨ k = 3 ∨ k = 4 ∨ k = 5 ∨ k = 6 ∨ k = 7 by omega) with rfl | rfl | rfl | rfl | rfl | rfl | rfl | rfl <;> first | exact c_43_0 | exact c_43_1 | exact c_43_2 | exact c_43_3 | exact c_43_4 | exact c_43_5 | exact c_43_6 | exact c_43_7)) (by decide) ?_
            refine XW.iconst (v := (-1)) eX10_told_195 (by decide) ?_
            exact hk)
        exact ⟨(-1), I_2, XW.iret eX10_told_196 rfl rfl rfl rfl rfl, h⟩
      ·
        replace h := hf c_32
        refine XF.lift (pc2 := 43) (ls2 := [some (.ref 69), some (.int y1), some (.int y2), some (.int 0), some (.int 0)]) (st2 := [.int y2]) (I2 := I_2) ?_ (fun r I' hk => by
            refine XW.icmp_ne eX10_told_32 (fun _ => ?_) (fun z => absurd z c_32)
            refine XW.iconst (v := 0) eX10_told_39 (by decide) ?_
            refine XW.istore (ls' := [some (.ref 69), some (.int y1), some (.int y2), some (.int 0), some (.int 0)]) eX10_told_40 (Nat.le_of_ble_eq_true rfl) rfl ?_
            refine XW.iload_n eX10_told_42 rfl ?_
            exact hk)
        obtain ⟨ht, hf⟩ := h
        refine XF.br (P := y2 = 0) (fun c_43_0 => ?_) (fun c_43_0 => ?_)
        ·
          replace h := ht c_43_0
          refine XF.lift (pc2 := 94) (ls2 := [some (.ref 69), some (.int y1), some (.int y2), some (.int 0), some (.int 0)]) (st2 := [.int (I_2 70 y1.toNatClampNeg)]) (I2 := I_2) ?_ (fun r I' hk => by
              refine XW.tabIn (off := 45) (tgt := 88) dX10_told_43 (by rw [c_43_0]; decide) (by rw [c_43_0]; decide) (by rw [c_43_0]; rfl) (by decide) ?_
              refine XW.aload_n eX10_told_88 rfl ?_
              refine XW.getR (b := 70) eX10_told_89 f10_16_10 rfl (so_69 hs) (sr_69_2 hs) ?_
              refine XW.iload_n eX10_told_92 rfl ?_
              refine XW.iaload eX10_told_93 (sa_70 hs) q_15 ?_
              exact hk)
          exact ⟨(I_2 70 y1.toNatClampNeg), I_2, XW.iret eX10_told_94 rfl rfl rfl rfl rfl, h⟩
        replace h := hf c_43_0
        obtain ⟨ht, hf⟩ := h
        refine XF.br (P := y2 = 1) (fun c_43_1 => ?_) (fun c_43_1 => ?_)
        ·
          replace h := ht c_43_1
          refine XF.lift (pc2 := 101) (ls2 := [some (.ref 69), some (.int y1), some (.int y2), some (.int 0), some (.int 0)]) (st2 := [.int (I_2 71 y1.toNatClampNeg)]) (I2 := I_2) ?_ (fun r I' hk => by
              refine XW.tabIn (off := 52) (tgt := 95) dX10_told_43 (by rw [c_43_1]; decide) (by rw [c_43_1]; decide) (by rw [c_43_1]; rfl) (by decide) ?_
              refine XW.aload_n eX10_told_95 rfl ?_
              refine XW.getR (b := 71) eX10_told_96 f10_20_10 rfl (so_69 hs) (sr_69_3 hs) ?_
              refine XW.iload_n eX10_told_99 rfl ?_
              refine XW.iaload eX10_told_100 (sa_71 hs) q_15 ?_
              exact hk)
          exact ⟨(I_2 71 y1.toNatClampNeg), I_2, XW.iret eX10_told_101 rfl rfl rfl rfl rfl, h⟩
        replace h := hf c_43_1
        obtain ⟨ht, hf⟩ := h
        refine XF.br (P := y2 = 2) (fun c_43_2 => ?_) (fun c_43_2 => ?_)
        ·
          replace h := ht c_43_2
          refine XF.lift (pc2 := 116) (ls2 := [some (.ref 69), some (.int y1), some (.int y2), some (.int 0), some (.int 0)]) (st2 := [.int 0]) (I2 := I_2) ?_ (fun r I' hk => by
              refine XW.tabIn (off := 59) (tgt := 102) dX10_told_43 (by rw [c_43_2]; decide) (by rw [c_43_2]; decide) (by rw [c_43_2]; rfl) (by decide) ?_
              refine XW.iload_n eX10_told_102 rfl ?_
              refine XW.if_eq eX10_told_103 (fun _ => ?_) (fun z => absurd (by decide) z)
              refine XW.iconst (v := 0) eX10_told_115 (by decide) ?_
              exact hk)
          exact ⟨0, I_2, XW.iret eX10_told_116 rfl rfl rfl rfl rfl, h⟩
        replace h := hf c_43_2
        obtain ⟨ht, hf⟩ := h
        refine XF.br (P := y2 = 3) (fun c_43_3 => ?_) (fun c_43_3 => ?_)
        ·
          replace h := ht c_43_3
          refine XF.lift (pc2 := 132) (ls2 := [some (.ref 69), some (.int y1), some (.int y2), some (.int 0), some (.int 0)]) (st2 := [.int 0]) (I2 := I_2) ?_ (fun r I' hk => by
              refine XW.tabIn (off := 74) (tgt := 117) dX10_told_43 (by rw [c_43_3]; decide) (by rw [c_43_3]; decide) (by rw [c_43_3]; rfl) (by decide) ?_
              refine XW.iload eX10_told_117 rfl ?_
              refine XW.if_eq eX10_told_119 (fun _ => ?_) (fun z => absurd (by decide) z)
              refine XW.iconst (v := 0) eX10_told_131 (by decide) ?_
              exact hk)
          exact ⟨0, I_2, XW.iret eX10_told_132 rfl rfl rfl rfl rfl, h⟩
        replace h := hf c_43_3
        obtain ⟨ht, hf⟩ := h
        refine XF.br (P := y2 = 4) (fun c_43_4 => ?_) (fun c_43_4 => ?_)
        ·
          replace h := ht c_43_4
          refine XF.lift (pc2 := 148) (ls2 := [some (.ref 69), some (.int y1), some (.int y2), some (.int 0), some (.int 0)]) (st2 := [.int 0]) (I2 := I_2) ?_ (fun r I' hk => by
              refine XW.tabIn (off := 90) (tgt := 133) dX10_told_43 (by rw [c_43_4]; decide) (by rw [c_43_4]; decide) (by rw [c_43_4]; rfl) (by decide) ?_
              refine XW.iload eX10_told_133 rfl ?_
              refine XW.if_eq eX10_told_135 (fun _ => ?_) (fun z => absurd (by decide) z)
              refine XW.iconst (v := 0) eX10_told_147 (by decide) ?_
              exact hk)
          exact ⟨0, I_2, XW.iret eX10_told_148 rfl rfl rfl rfl rfl, h⟩
        replace h := hf c_43_4
        obtain ⟨ht, hf⟩ := h
        refine XF.br (P := y2 = 5) (fun c_43_5 => ?_) (fun c_43_5 => ?_)
        ·
          replace h := ht c_43_5
          refine XF.lift (pc2 := 164) (ls2 := [some (.ref 69), some (.int y1), some (.int y2), some (.int 0), some (.int 0)]) (st2 := [.int 0]) (I2 := I_2) ?_ (fun r I' hk => by
              refine XW.tabIn (off := 106) (tgt := 149) dX10_told_43 (by rw [c_43_5]; decide) (by rw [c_43_5]; decide) (by rw [c_43_5]; rfl) (by decide) ?_
              refine XW.iload eX10_told_149 rfl ?_
              refine XW.if_eq eX10_told_151 (fun _ => ?_) (fun z => absurd (by decide) z)
              refine XW.iconst (v := 0) eX10_told_163 (by decide) ?_
              exact hk)
          exact ⟨0, I_2, XW.iret eX10_told_164 rfl rfl rfl rfl rfl, h⟩
        replace h := hf c_43_5
        obtain ⟨ht, hf⟩ := h
        refine XF.br (P := y2 = 6) (fun c_43_6 => ?_) (fun c_43_6 => ?_)
        ·
          replace h := ht c_43_6
          refine XF.lift (pc2 := 187) (ls2 := [some (.ref 69), some (.int y1), some (.int y2), some (.int 0), some (.int 0)]) (st2 := [.int 0]) (I2 := I_2) ?_ (fun r I' hk => by
              refine XW.tabIn (off := 122) (tgt := 165) dX10_told_43 (by rw [c_43_6]; decide) (by rw [c_43_6]; decide) (by rw [c_43_6]; rfl) (by decide) ?_
              refine XW.iload eX10_told_165 rfl ?_
              refine XW.if_eq eX10_told_167 (fun _ => ?_) (fun z => absurd (by decide) z)
              refine XW.iconst (v := 0) eX10_told_186 (by decide) ?_
              exact hk)
          exact ⟨0, I_2, XW.iret eX10_told_187 rfl rfl rfl rfl rfl, h⟩
        replace h := hf c_43_6
        obtain ⟨ht, hf⟩ := h
        refine XF.br (P := y2 = 7) (fun c_43_7 => ?_) (fun c_43_7 => ?_)
        ·
          replace h := ht c_43_7
          refine XF.lift (pc2 := 194) (ls2 := [some (.ref 69), some (.int y1), some (.int y2), some (.int 0), some (.int 0)]) (st2 := [.int (I_2 72 y1.toNatClampNeg)]) (I2 := I_2) ?_ (fun r I' hk => by
              refine XW.tabIn (off := 145) (tgt := 188) dX10_told_43 (by rw [c_43_7]; decide) (by rw [c_43_7]; decide) (by rw [c_43_7]; rfl) (by decide) ?_
              refine XW.aload_n eX10_told_188 rfl ?_
              refine XW.getR (b := 72) eX10_told_189 f10_23_10 rfl (so_69 hs) (sr_69_4 hs) ?_
              refine XW.iload_n eX10_told_192 rfl ?_
              refine XW.iaload eX10_told_193 (sa_72 hs) q_15 ?_
              exact hk)
          exact ⟨(I_2 72 y1.toNatClampNeg), I_2, XW.iret eX10_told_194 rfl rfl rfl rfl rfl, h⟩
        replace h := hf c_43_7
        refine XF.lift (pc2 := 196) (ls2 := [some (.ref 69), some (.int y1), some (.int y2), some (.int 0), some (.int 0)]) (st2 := [.int (-1)]) (I2 := I_2) ?_ (fun r I' hk => by
            refine XW.tabOut (tgt := 195) dX10_told_43 (tab_out 8 (by decide) (by intro k hk; rcases (show k = 0 ∨ k = 1 ∨ k = 2 ∨ k = 3 ∨ k = 4 ∨ k = 5 ∨ k = 6 ∨ k = 7 by omega) with rfl | rfl | rfl | rfl | rfl | rfl | rfl | rfl <;> first | exact c_43_0 | exact c_43_1 | exact c_43_2 | exact c_43_3 | exact c_43_4 | exact c_43_5 | exact c_43_6 | exact c_43_7)) (by decide) ?_
            refine XW.iconst (v := (-1)) eX10_told_195 (by decide) ?_
            exact hk)
        exact ⟨(-1), I_2, XW.iret eX10_told_196 rfl rfl rfl rfl rfl, h⟩
    ·
      replace h := hf c_16
      refine XF.lift (pc2 := 32) (ls2 := [some (.ref 69), some (.int y1), some (.int y2), some (.int 1), none]) (st2 := [.int 2, .int (I_2 70 y1.toNatClampNeg)]) (I2 := I_2) ?_ (fun r I' hk => by
          refine XW.if_le eX10_told_16 (fun z => absurd z c_16) (fun _ => ?_)
          refine XW.iconst (v := 1) eX10_told_19 (by decide) ?_
          refine XW.goto eX10_told_20 ?_
          refine XW.istore_n (ls' := [some (.ref 69), some (.int y1), some (.int y2), some (.int 1), none]) eX10_told_24 (Nat.le_of_ble_eq_true rfl) rfl ?_
          refine XW.aload_n eX10_told_25 rfl ?_
          refine XW.getR (b := 70) eX10_told_26 f10_16_10 rfl (so_69 hs) (sr_69_2 hs) ?_
          refine XW.iload_n eX10_told_29 rfl ?_
          refine XW.iaload eX10_told_30 (sa_70 hs) q_15 ?_
          refine XW.iconst (v := 2) eX10_told_31 (by decide) ?_
          exact hk)
      obtain ⟨ht, hf⟩ := h
      refine XF.br (P := (I_2 70 y1.toNatClampNeg) = 2) (fun c_32 => ?_) (fun c_32 => ?_)
      ·
        replace h := ht c_32
        refine XF.lift (pc2 := 43) (ls2 := [some (.ref 69), some (.int y1), some (.int y2), some (.int 1), some (.int 1)]) (st2 := [.int y2]) (I2 := I_2) ?_ (fun r I' hk => by
            refine XW.icmp_ne eX10_told_32 (fun z => absurd c_32 z) (fun _ => ?_)
            refine XW.iconst (v := 1) eX10_told_35 (by decide) ?_
            refine XW.goto eX10_told_36 ?_
            refine XW.istore (ls' := [some (.ref 69), some (.int y1), some (.int y2), some (.int 1), some (.int 1)]) eX10_told_40 (Nat.le_of_ble_eq_true rfl) rfl ?_
            refine XW.iload_n eX10_told_42 rfl ?_
            exact hk)
        obtain ⟨ht, hf⟩ := h
        refine XF.br (P := y2 = 0) (fun c_43_0 => ?_) (fun c_43_0 => ?_)
        ·
          replace h := ht c_43_0
          refine XF.lift (pc2 := 94) (ls2 := [some (.ref 69), some (.int y1), some (.int y2), some (.int 1), some (.int 1)]) (st2 := [.int (I_2 70 y1.toNatClampNeg)]) (I2 := I_2) ?_ (fun r I' hk => by
              refine XW.tabIn (off := 45) (tgt := 88) dX10_told_43 (by rw [c_43_0]; decide) (by rw [c_43_0]; decide) (by rw [c_43_0]; rfl) (by decide) ?_
              refine XW.aload_n eX10_told_88 rfl ?_
              refine XW.getR (b := 70) eX10_told_89 f10_16_10 rfl (so_69 hs) (sr_69_2 hs) ?_
              refine XW.iload_n eX10_told_92 rfl ?_
              refine XW.iaload eX10_told_93 (sa_70 hs) q_15 ?_
              exact hk)
          exact ⟨(I_2 70 y1.toNatClampNeg), I_2, XW.iret eX10_told_94 rfl rfl rfl rfl rfl, h⟩
        replace h := hf c_43_0
        obtain ⟨ht, hf⟩ := h
        refine XF.br (P := y2 = 1) (fun c_43_1 => ?_) (fun c_43_1 => ?_)
        ·
          replace h := ht c_43_1
          refine XF.lift (pc2 := 101) (ls2 := [some (.ref 69), some (.int y1), some (.int y2), some (.int 1), some (.int 1)]) (st2 := [.int (I_2 71 y1.toNatClampNeg)]) (I2 := I_2) ?_ (fun r I' hk => by
              refine XW.tabIn (off := 52) (tgt := 95) dX10_told_43 (by rw [c_43_1]; decide) (by rw [c_43_1]; decide) (by rw [c_43_1]; rfl) (by decide) ?_
              refine XW.aload_n eX10_told_95 rfl ?_
              refine XW.getR (b := 71) eX10_told_96 f10_20_10 rfl (so_69 hs) (sr_69_3 hs) ?_
              refine XW.iload_n eX10_told_99 rfl ?_
              refine XW.iaload eX10_told_100 (sa_71 hs) q_15 ?_
              exact hk)
          exact ⟨(I_2 71 y1.toNatClampNeg), I_2, XW.iret eX10_told_101 rfl rfl rfl rfl rfl, h⟩
        replace h := hf c_43_1
        obtain ⟨ht, hf⟩ := h
        refine XF.br (P := y2 = 2) (fun c_43_2 => ?_) (fun c_43_2 => ?_)
        ·
          replace h := ht c_43_2
          refine XF.lift (pc2 := 116) (ls2 := [some (.ref 69), some (.int y1), some (.int y2), some (.int 1), some (.int 1)]) (st2 := [.int (I_2 73 y1.toNatClampNeg)]) (I2 := I_2) ?_ (fun r I' hk => by
              refine XW.tabIn (off := 59) (tgt := 102) dX10_told_43 (by rw [c_43_2]; decide) (by rw [c_43_2]; decide) (by rw [c_43_2]; rfl) (by decide) ?_
              refine XW.iload_n eX10_told_102 rfl ?_
              refine XW.if_eq eX10_told_103 (fun z => absurd z (by decide)) (fun _ => ?_)
              refine XW.aload_n eX10_told_106 rfl ?_
              refine XW.getR (b := 73) eX10_told_107 f10_26_10 rfl (so_69 hs) (sr_69_5 hs) ?_
              refine XW.iload_n eX10_told_110 rfl ?_
              refine XW.iaload eX10_told_111 (sa_73 hs) q_15 ?_
              refine XW.goto eX10_told_112 ?_
              exact hk)
          exact ⟨(I_2 73 y1.toNatClampNeg), I_2, XW.iret eX10_told_116 rfl rfl rfl rfl rfl, h⟩
        replace h := hf c_43_2
        obtain ⟨ht, hf⟩ := h
        refine XF.br (P := y2 = 3) (fun c_43_3 => ?_) (fun c_43_3 => ?_)
        ·
          replace h := ht c_43_3
          refine XF.lift (pc2 := 132) (ls2 := [some (.ref 69), some (.int y1), some (.int y2), some (.int 1), some (.int 1)]) (st2 := [.int (I_2 74 y1.toNatClampNeg)]) (I2 := I_2) ?_ (fun r I' hk => by
              refine XW.tabIn (off := 74) (tgt := 117) dX10_told_43 (by rw [c_43_3]; decide) (by rw [c_43_3]; decide) (by rw [c_43_3]; rfl) (by decide) ?_
              refine XW.iload eX10_told_117 rfl ?_
              refine XW.if_eq eX10_told_119 (fun z => absurd z (by decide)) (fun _ => ?_)
              refine XW.aload_n eX10_told_122 rfl ?_
              refine XW.getR (b := 74) eX10_told_123 f10_29_10 rfl (so_69 hs) (sr_69_6 hs) ?_
              refine XW.iload_n eX10_told_126 rfl ?_
              refine XW.iaload eX10_told_127 (sa_74 hs) q_15 ?_
              refine XW.goto eX10_told_128 ?_
              exact hk)
          exact ⟨(I_2 74 y1.toNatClampNeg), I_2, XW.iret eX10_told_132 rfl rfl rfl rfl rfl, h⟩
        replace h := hf c_43_3
        obtain ⟨ht, hf⟩ := h
        refine XF.br (P := y2 = 4) (fun c_43_4 => ?_) (fun c_43_4 => ?_)
        ·
          replace h := ht c_43_4
          refine XF.lift (pc2 := 148) (ls2 := [some (.ref 69), some (.int y1), some (.int y2), some (.int 1), some (.int 1)]) (st2 := [.int (I_2 75 y1.toNatClampNeg)]) (I2 := I_2) ?_ (fun r I' hk => by
              refine XW.tabIn (off := 90) (tgt := 133) dX10_told_43 (by rw [c_43_4]; decide) (by rw [c_43_4]; decide) (by rw [c_43_4]; rfl) (by decide) ?_
              refine XW.iload eX10_told_133 rfl ?_
              refine XW.if_eq eX10_told_135 (fun z => absurd z (by decide)) (fun _ => ?_)
              refine XW.aload_n eX10_told_138 rfl ?_
              refine XW.getR (b := 75) eX10_told_139 f10_32_10 rfl (so_69 hs) (sr_69_7 hs) ?_
              refine XW.iload_n eX10_told_142 rfl ?_
              refine XW.iaload eX10_told_143 (sa_75 hs) q_15 ?_
              refine XW.goto eX10_told_144 ?_
              exact hk)
          exact ⟨(I_2 75 y1.toNatClampNeg), I_2, XW.iret eX10_told_148 rfl rfl rfl rfl rfl, h⟩
        replace h := hf c_43_4
        obtain ⟨ht, hf⟩ := h
        refine XF.br (P := y2 = 5) (fun c_43_5 => ?_) (fun c_43_5 => ?_)
        ·
          replace h := ht c_43_5
          refine XF.lift (pc2 := 164) (ls2 := [some (.ref 69), some (.int y1), some (.int y2), some (.int 1), some (.int 1)]) (st2 := [.int (I_2 76 y1.toNatClampNeg)]) (I2 := I_2) ?_ (fun r I' hk => by
              refine XW.tabIn (off := 106) (tgt := 149) dX10_told_43 (by rw [c_43_5]; decide) (by rw [c_43_5]; decide) (by rw [c_43_5]; rfl) (by decide) ?_
              refine XW.iload eX10_told_149 rfl ?_
              refine XW.if_eq eX10_told_151 (fun z => absurd z (by decide)) (fun _ => ?_)
              refine XW.aload_n eX10_told_154 rfl ?_
              refine XW.getR (b := 76) eX10_told_155 f10_35_10 rfl (so_69 hs) (sr_69_8 hs) ?_
              refine XW.iload_n eX10_told_158 rfl ?_
              refine XW.iaload eX10_told_159 (sa_76 hs) q_15 ?_
              refine XW.goto eX10_told_160 ?_
              exact hk)
          exact ⟨(I_2 76 y1.toNatClampNeg), I_2, XW.iret eX10_told_164 rfl rfl rfl rfl rfl, h⟩
        replace h := hf c_43_5
        obtain ⟨ht, hf⟩ := h
        refine XF.br (P := y2 = 6) (fun c_43_6 => ?_) (fun c_43_6 => ?_)
        ·
          replace h := ht c_43_6
          refine XF.lift (pc2 := 187) (ls2 := [some (.ref 69), some (.int y1), some (.int y2), some (.int 1), some (.int 1)]) (st2 := [.int ((I_2 74 y1.toNatClampNeg) + (I_2 76 y1.toNatClampNeg))]) (I2 := I_2) ?_ (fun r I' hk => by
              refine XW.tabIn (off := 122) (tgt := 165) dX10_told_43 (by rw [c_43_6]; decide) (by rw [c_43_6]; decide) (by rw [c_43_6]; rfl) (by decide) ?_
              refine XW.iload eX10_told_165 rfl ?_
              refine XW.if_eq eX10_told_167 (fun z => absurd z (by decide)) (fun _ => ?_)
              refine XW.aload_n eX10_told_170 rfl ?_
              refine XW.getR (b := 74) eX10_told_171 f10_29_10 rfl (so_69 hs) (sr_69_6 hs) ?_
              refine XW.iload_n eX10_told_174 rfl ?_
              refine XW.iaload eX10_told_175 (sa_74 hs) q_15 ?_
              refine XW.aload_n eX10_told_176 rfl ?_
              refine XW.getR (b := 76) eX10_told_177 f10_35_10 rfl (so_69 hs) (sr_69_8 hs) ?_
              refine XW.iload_n eX10_told_180 rfl ?_
              refine XW.iaload eX10_told_181 (sa_76 hs) q_15 ?_
              refine XW.iadd eX10_told_182 ?_
              refine XW.goto eX10_told_183 ?_
              exact hk)
          exact ⟨((I_2 74 y1.toNatClampNeg) + (I_2 76 y1.toNatClampNeg)), I_2, XW.iret eX10_told_187 rfl rfl rfl rfl rfl, h⟩
        replace h := hf c_43_6
        obtain ⟨ht, hf⟩ := h
        refine XF.br (P := y2 = 7) (fun c_43_7 => ?_) (fun c_43_7 => ?_)
        ·
          replace h := ht c_43_7
          refine XF.lift (pc2 := 194) (ls2 := [some (.ref 69), some (.int y1), some (.int y2), some (.int 1), some (.int 1)]) (st2 := [.int (I_2 72 y1.toNatClampNeg)]) (I2 := I_2) ?_ (fun r I' hk => by
              refine XW.tabIn (off := 145) (tgt := 188) dX10_told_43 (by rw [c_43_7]; decide) (by rw [c_43_7]; decide) (by rw [c_43_7]; rfl) (by decide) ?_
              refine XW.aload_n eX10_told_188 rfl ?_
              refine XW.getR (b := 72) eX10_told_189 f10_23_10 rfl (so_69 hs) (sr_69_4 hs) ?_
              refine XW.iload_n eX10_told_192 rfl ?_
              refine XW.iaload eX10_told_193 (sa_72 hs) q_15 ?_
              exact hk)
          exact ⟨(I_2 72 y1.toNatClampNeg), I_2, XW.iret eX10_told_194 rfl rfl rfl rfl rfl, h⟩
        replace h := hf c_43_7
        refine XF.lift (pc2 := 196) (ls2 := [some (.ref 69), some (.int y1), some (.int y2), some (.int 1), some (.int 1)]) (st2 := [.int (-1)]) (I2 := I_2) ?_ (fun r I' hk => by
            refine XW.tabOut (tgt := 195) dX10_told_43 (tab_out 8 (by decide) (by intro k hk; rcases (show k = 0 ∨ k = 1 ∨ k = 2 ∨ k = 3 ∨ k = 4 ∨ k = 5 ∨ k = 6 ∨ k = 7 by omega) with rfl | rfl | rfl | rfl | rfl | rfl | rfl | rfl <;> first | exact c_43_0 | exact c_43_1 | exact c_43_2 | exact c_43_3 | exact c_43_4 | exact c_43_5 | exact c_43_6 | exact c_43_7)) (by decide) ?_
            refine XW.iconst (v := (-1)) eX10_told_195 (by decide) ?_
            exact hk)
        exact ⟨(-1), I_2, XW.iret eX10_told_196 rfl rfl rfl rfl rfl, h⟩
      ·
        replace h := hf c_32
        refine XF.lift (pc2 := 43) (ls2 := [some (.ref 69), some (.int y1), some (.int y2), some (.int 1), some (.int 0)]) (st2 := [.int y2]) (I2 := I_2) ?_ (fun r I' hk => by
            refine XW.icmp_ne eX10_told_32 (fun _ => ?_) (fun z => absurd z c_32)
            refine XW.iconst (v := 0) eX10_told_39 (by decide) ?_
            refine XW.istore (ls' := [some (.ref 69), some (.int y1), some (.int y2), some (.int 1), some (.int 0)]) eX10_told_40 (Nat.le_of_ble_eq_true rfl) rfl ?_
            refine XW.iload_n eX10_told_42 rfl ?_
            exact hk)
        obtain ⟨ht, hf⟩ := h
        refine XF.br (P := y2 = 0) (fun c_43_0 => ?_) (fun c_43_0 => ?_)
        ·
          replace h := ht c_43_0
          refine XF.lift (pc2 := 94) (ls2 := [some (.ref 69), some (.int y1), some (.int y2), some (.int 1), some (.int 0)]) (st2 := [.int (I_2 70 y1.toNatClampNeg)]) (I2 := I_2) ?_ (fun r I' hk => by
              refine XW.tabIn (off := 45) (tgt := 88) dX10_told_43 (by rw [c_43_0]; decide) (by rw [c_43_0]; decide) (by rw [c_43_0]; rfl) (by decide) ?_
              refine XW.aload_n eX10_told_88 rfl ?_
              refine XW.getR (b := 70) eX10_told_89 f10_16_10 rfl (so_69 hs) (sr_69_2 hs) ?_
              refine XW.iload_n eX10_told_92 rfl ?_
              refine XW.iaload eX10_told_93 (sa_70 hs) q_15 ?_
              exact hk)
          exact ⟨(I_2 70 y1.toNatClampNeg), I_2, XW.iret eX10_told_94 rfl rfl rfl rfl rfl, h⟩
        replace h := hf c_43_0
        obtain ⟨ht, hf⟩ := h
        refine XF.br (P := y2 = 1) (fun c_43_1 => ?_) (fun c_43_1 => ?_)
        ·
          replace h := ht c_43_1
          refine XF.lift (pc2 := 101) (ls2 := [some (.ref 69), some (.int y1), some (.int y2), some (.int 1), some (.int 0)]) (st2 := [.int (I_2 71 y1.toNatClampNeg)]) (I2 := I_2) ?_ (fun r I' hk => by
              refine XW.tabIn (off := 52) (tgt := 95) dX10_told_43 (by rw [c_43_1]; decide) (by rw [c_43_1]; decide) (by rw [c_43_1]; rfl) (by decide) ?_
              refine XW.aload_n eX10_told_95 rfl ?_
              refine XW.getR (b := 71) eX10_told_96 f10_20_10 rfl (so_69 hs) (sr_69_3 hs) ?_
              refine XW.iload_n eX10_told_99 rfl ?_
              refine XW.iaload eX10_told_100 (sa_71 hs) q_15 ?_
              exact hk)
          exact ⟨(I_2 71 y1.toNatClampNeg), I_2, XW.iret eX10_told_101 rfl rfl rfl rfl rfl, h⟩
        replace h := hf c_43_1
        obtain ⟨ht, hf⟩ := h
        refine XF.br (P := y2 = 2) (fun c_43_2 => ?_) (fun c_43_2 => ?_)
        ·
          replace h := ht c_43_2
          refine XF.lift (pc2 := 116) (ls2 := [some (.ref 69), some (.int y1), some (.int y2), some (.int 1), some (.int 0)]) (st2 := [.int (I_2 73 y1.toNatClampNeg)]) (I2 := I_2) ?_ (fun r I' hk => by
              refine XW.tabIn (off := 59) (tgt := 102) dX10_told_43 (by rw [c_43_2]; decide) (by rw [c_43_2]; decide) (by rw [c_43_2]; rfl) (by decide) ?_
              refine XW.iload_n eX10_told_102 rfl ?_
              refine XW.if_eq eX10_told_103 (fun z => absurd z (by decide)) (fun _ => ?_)
              refine XW.aload_n eX10_told_106 rfl ?_
              refine XW.getR (b := 73) eX10_told_107 f10_26_10 rfl (so_69 hs) (sr_69_5 hs) ?_
              refine XW.iload_n eX10_told_110 rfl ?_
              refine XW.iaload eX10_told_111 (sa_73 hs) q_15 ?_
              refine XW.goto eX10_told_112 ?_
              exact hk)
          exact ⟨(I_2 73 y1.toNatClampNeg), I_2, XW.iret eX10_told_116 rfl rfl rfl rfl rfl, h⟩
        replace h := hf c_43_2
        obtain ⟨ht, hf⟩ := h
        refine XF.br (P := y2 = 3) (fun c_43_3 => ?_) (fun c_43_3 => ?_)
        ·
          replace h := ht c_43_3
          refine XF.lift (pc2 := 132) (ls2 := [some (.ref 69), some (.int y1), some (.int y2), some (.int 1), some (.int 0)]) (st2 := [.int 0]) (I2 := I_2) ?_ (fun r I' hk => by
              refine XW.tabIn (off := 74) (tgt := 117) dX10_told_43 (by rw [c_43_3]; decide) (by rw [c_43_3]; decide) (by rw [c_43_3]; rfl) (by decide) ?_
              refine XW.iload eX10_told_117 rfl ?_
              refine XW.if_eq eX10_told_119 (fun _ => ?_) (fun z => absurd (by decide) z)
              refine XW.iconst (v := 0) eX10_told_131 (by decide) ?_
              exact hk)
          exact ⟨0, I_2, XW.iret eX10_told_132 rfl rfl rfl rfl rfl, h⟩
        replace h := hf c_43_3
        obtain ⟨ht, hf⟩ := h
        refine XF.br (P := y2 = 4) (fun c_43_4 => ?_) (fun c_43_4 => ?_)
        ·
          replace h := ht c_43_4
          refine XF.lift (pc2 := 148) (ls2 := [some (.ref 69), some (.int y1), some (.int y2), some (.int 1), some (.int 0)]) (st2 := [.int 0]) (I2 := I_2) ?_ (fun r I' hk => by
              refine XW.tabIn (off := 90) (tgt := 133) dX10_told_43 (by rw [c_43_4]; decide) (by rw [c_43_4]; decide) (by rw [c_43_4]; rfl) (by decide) ?_
              refine XW.iload eX10_told_133 rfl ?_
              refine XW.if_eq eX10_told_135 (fun _ => ?_) (fun z => absurd (by decide) z)
              refine XW.iconst (v := 0) eX10_told_147 (by decide) ?_
              exact hk)
          exact ⟨0, I_2, XW.iret eX10_told_148 rfl rfl rfl rfl rfl, h⟩
        replace h := hf c_43_4
        obtain ⟨ht, hf⟩ := h
        refine XF.br (P := y2 = 5) (fun c_43_5 => ?_) (fun c_43_5 => ?_)
        ·
          replace h := ht c_43_5
          refine XF.lift (pc2 := 164) (ls2 := [some (.ref 69), some (.int y1), some (.int y2), some (.int 1), some (.int 0)]) (st2 := [.int 0]) (I2 := I_2) ?_ (fun r I' hk => by
              refine XW.tabIn (off := 106) (tgt := 149) dX10_told_43 (by rw [c_43_5]; decide) (by rw [c_43_5]; decide) (by rw [c_43_5]; rfl) (by decide) ?_
              refine XW.iload eX10_told_149 rfl ?_
              refine XW.if_eq eX10_told_151 (fun _ => ?_) (fun z => absurd (by decide) z)
              refine XW.iconst (v := 0) eX10_told_163 (by decide) ?_
              exact hk)
          exact ⟨0, I_2, XW.iret eX10_told_164 rfl rfl rfl rfl rfl, h⟩
        replace h := hf c_43_5
        obtain ⟨ht, hf⟩ := h
        refine XF.br (P := y2 = 6) (fun c_43_6 => ?_) (fun c_43_6 => ?_)
        ·
          replace h := ht c_43_6
          refine XF.lift (pc2 := 187) (ls2 := [some (.ref 69), some (.int y1), some (.int y2), some (.int 1), some (.int 0)]) (st2 := [.int 0]) (I2 := I_2) ?_ (fun r I' hk => by
              refine XW.tabIn (off := 122) (tgt := 165) dX10_told_43 (by rw [c_43_6]; decide) (by rw [c_43_6]; decide) (by rw [c_43_6]; rfl) (by decide) ?_
              refine XW.iload eX10_told_165 rfl ?_
              refine XW.if_eq eX10_told_167 (fun _ => ?_) (fun z => absurd (by decide) z)
              refine XW.iconst (v := 0) eX10_told_186 (by decide) ?_
              exact hk)
          exact ⟨0, I_2, XW.iret eX10_told_187 rfl rfl rfl rfl rfl, h⟩
        replace h := hf c_43_6
        obtain ⟨ht, hf⟩ := h
        refine XF.br (P := y2 = 7) (fun c_43_7 => ?_) (fun c_43_7 => ?_)
        ·
          replace h := ht c_43_7
          refine XF.lift (pc2 := 194) (ls2 := [some (.ref 69), some (.int y1), some (.int y2), some (.int 1), some (.int 0)]) (st2 := [.int (I_2 72 y1.toNatClampNeg)]) (I2 := I_2) ?_ (fun r I' hk => by
              refine XW.tabIn (off := 145) (tgt := 188) dX10_told_43 (by rw [c_43_7]; decide) (by rw [c_43_7]; decide) (by rw [c_43_7]; rfl) (by decide) ?_
              refine XW.aload_n eX10_told_188 rfl ?_
              refine XW.getR (b := 72) eX10_told_189 f10_23_10 rfl (so_69 hs) (sr_69_4 hs) ?_
              refine XW.iload_n eX10_told_192 rfl ?_
              refine XW.iaload eX10_told_193 (sa_72 hs) q_15 ?_
              exact hk)
          exact ⟨(I_2 72 y1.toNatClampNeg), I_2, XW.iret eX10_told_194 rfl rfl rfl rfl rfl, h⟩
        replace h := hf c_43_7
        refine XF.lift (pc2 := 196) (ls2 := [some (.ref 69), some (.int y1), some (.int y2), some (.int 1), some (.int 0)]) (st2 := [.int (-1)]) (I2 := I_2) ?_ (fun r I' hk => by
            refine XW.tabOut (tgt := 195) dX10_told_43 (tab_out 8 (by decide) (by intro k hk; rcases (show k = 0 ∨ k = 1 ∨ k = 2 ∨ k = 3 ∨ k = 4 ∨ k = 5 ∨ k = 6 ∨ k = 7 by omega) with rfl | rfl | rfl | rfl | rfl | rfl | rfl | rfl <;> first | exact c_43_0 | exact c_43_1 | exact c_43_2 | exact c_43_3 | exact c_43_4 | exact c_43_5 | exact c_43_6 | exact c_43_7)) (by decide) ?_
            refine XW.iconst (v := (-1)) eX10_told_195 (by decide) ?_
            exact hk)
        exact ⟨(-1), I_2, XW.iret eX10_told_196 rfl rfl rfl rfl rfl, h⟩
set_option maxRecDepth 100000 in
set_option maxHeartbeats 4000000 in
theorem VX10_share {l : Launch} {C : xC} {G : xG} (hs : SH G)  (I : xI) (y1 : Int32) {Q : Int32 → xI → Prop} (h :
    (∃ Qc : Int32 → xI → Prop, XF fI l C mX10_in 0 (xent mX10_in [.int y1, .int 1, .int 160]) [] G I Qc ∧ ∀ (v_5 : Int32) (I_5 : xI), Qc v_5 I_5 → ((v_5 = 0 → Q (-1) I_5) ∧ (¬ (v_5 = 0) → Q (I_5 69 9) (wI I_5 69 9 y1))))) : XF fI l C mX10_share 0 (xent mX10_share [.ref 69, .int y1]) [] G I Q := by
  show XF fI l C mX10_share 0 [some (.ref 69), some (.int y1), none] [] G I Q
  refine XF.lift (pc2 := 5) (ls2 := [some (.ref 69), some (.int y1), none]) (st2 := [.int 160, .int 1, .int y1]) (I2 := I) ?_ (fun r I' hk => by
      refine XW.iload_n eX10_share_0 rfl ?_
      refine XW.iconst (v := 1) eX10_share_1 (by decide) ?_
      refine XW.sipush (v := 160) eX10_share_2 (by decide) ?_
      exact hk)
  obtain ⟨Qc, hc, h⟩ := h
  refine XF.call (nx := 8) (st := []) hc (fun v I1 r I' hY hk => XW.callS (As := [.int y1, .int 1, .int 160]) (st := []) eX10_share_5 okX10_in cs10_123 rfl hY (xnum rfl rfl rfl rfl rfl) hk) (fun v_5 I_5 hq => ?_)
  replace h := h v_5 I_5 hq
  obtain ⟨ht, hf⟩ := h
  refine XF.br (P := v_5 = 0) (fun c_8 => ?_) (fun c_8 => ?_)
  ·
    replace h := ht c_8
    refine XF.lift (pc2 := 12) (ls2 := [some (.ref 69), some (.int y1), none]) (st2 := [.int (-1)]) (I2 := I_5) ?_ (fun r I' hk => by
        refine XW.if_ne eX10_share_8 (fun z => absurd c_8 z) (fun _ => ?_)
        refine XW.iconst (v := (-1)) eX10_share_11 (by decide) ?_
        exact hk)
    exact ⟨(-1), I_5, XW.iret eX10_share_12 rfl rfl rfl rfl rfl, h⟩
  ·
    replace h := hf c_8
    refine XF.lift (pc2 := 24) (ls2 := [some (.ref 69), some (.int y1), some (.int (I_5 69 9))]) (st2 := [.int (I_5 69 9)]) (I2 := (wI I_5 69 9 y1)) ?_ (fun r I' hk => by
        refine XW.if_ne eX10_share_8 (fun _ => ?_) (fun z => absurd z c_8)
        refine XW.aload_n eX10_share_13 rfl ?_
        refine XW.getI eX10_share_14 f10_38_10 rfl (so_69 hs) ?_
        refine XW.istore_n (ls' := [some (.ref 69), some (.int y1), some (.int (I_5 69 9))]) eX10_share_17 (Nat.le_of_ble_eq_true rfl) rfl ?_
        refine XW.aload_n eX10_share_18 rfl ?_
        refine XW.iload_n eX10_share_19 rfl ?_
        refine XW.putI eX10_share_20 f10_38_10 (xP_of rfl (by decide)) rfl ⟨rfl, rfl⟩ (so_69 hs) ?_
        refine XW.iload_n eX10_share_23 rfl ?_
        exact hk)
    exact ⟨(I_5 69 9), (wI I_5 69 9 y1), XW.iret eX10_share_24 rfl rfl rfl rfl rfl, h⟩
set_option maxRecDepth 100000 in
set_option maxHeartbeats 4000000 in
theorem VX10_drop {l : Launch} {C : xC} {G : xG} (hs : SH G)  (I : xI) (y1 : Int32) {Q : Int32 → xI → Prop} (h :
    (∃ Qc : Int32 → xI → Prop, XF fI l C mX10_isSheet 0 (xent mX10_isSheet [.int y1]) [] G I Qc ∧ ∀ (v_1 : Int32) (I_1 : xI), Qc v_1 I_1 → ((v_1 = 0 → Q (-1) I_1) ∧ (¬ (v_1 = 0) → vp_in y1 4 ∧ ((0 ≤ (I_1 77 y1.toNatClampNeg) → Q (I_1 78 y1.toNatClampNeg) (wI I_1 77 y1.toNatClampNeg (-1))) ∧ (¬ (0 ≤ (I_1 77 y1.toNatClampNeg)) → Q (-11) I_1)))))) : XF fI l C mX10_drop 0 (xent mX10_drop [.ref 69, .int y1]) [] G I Q := by
  show XF fI l C mX10_drop 0 [some (.ref 69), some (.int y1)] [] G I Q
  refine XF.lift (pc2 := 1) (ls2 := [some (.ref 69), some (.int y1)]) (st2 := [.int y1]) (I2 := I) ?_ (fun r I' hk => by
      refine XW.iload_n eX10_drop_0 rfl ?_
      exact hk)
  obtain ⟨Qc, hc, h⟩ := h
  refine XF.call (nx := 4) (st := []) hc (fun v I1 r I' hY hk => XW.callS (As := [.int y1]) (st := []) eX10_drop_1 okX10_isSheet cs10_135 rfl hY (xnum rfl rfl rfl rfl rfl) hk) (fun v_1 I_1 hq => ?_)
  replace h := h v_1 I_1 hq
  obtain ⟨ht, hf⟩ := h
  refine XF.br (P := v_1 = 0) (fun c_4 => ?_) (fun c_4 => ?_)
  ·
    replace h := ht c_4
    refine XF.lift (pc2 := 8) (ls2 := [some (.ref 69), some (.int y1)]) (st2 := [.int (-1)]) (I2 := I_1) ?_ (fun r I' hk => by
        refine XW.if_ne eX10_drop_4 (fun z => absurd c_4 z) (fun _ => ?_)
        refine XW.iconst (v := (-1)) eX10_drop_7 (by decide) ?_
        exact hk)
    exact ⟨(-1), I_1, XW.iret eX10_drop_8 rfl rfl rfl rfl rfl, h⟩
  ·
    replace h := hf c_4
    obtain ⟨q_14, h⟩ := h
    refine XF.lift (pc2 := 15) (ls2 := [some (.ref 69), some (.int y1)]) (st2 := [.int (I_1 77 y1.toNatClampNeg)]) (I2 := I_1) ?_ (fun r I' hk => by
        refine XW.if_ne eX10_drop_4 (fun _ => ?_) (fun z => absurd z c_4)
        refine XW.aload_n eX10_drop_9 rfl ?_
        refine XW.getR (b := 77) eX10_drop_10 f10_41_10 rfl (so_69 hs) (sr_69_10 hs) ?_
        refine XW.iload_n eX10_drop_13 rfl ?_
        refine XW.iaload eX10_drop_14 (sa_77 hs) q_14 ?_
        exact hk)
    obtain ⟨ht, hf⟩ := h
    refine XF.br (P := 0 ≤ (I_1 77 y1.toNatClampNeg)) (fun c_15 => ?_) (fun c_15 => ?_)
    ·
      replace h := ht c_15
      refine XF.lift (pc2 := 34) (ls2 := [some (.ref 69), some (.int y1)]) (st2 := [.int (I_1 78 y1.toNatClampNeg)]) (I2 := (wI I_1 77 y1.toNatClampNeg (-1))) ?_ (fun r I' hk => by
          refine XW.if_ge eX10_drop_15 (fun _ => ?_) (fun z => absurd c_15 z)
          refine XW.aload_n eX10_drop_21 rfl ?_
          refine XW.getR (b := 77) eX10_drop_22 f10_41_10 rfl (so_69 hs) (sr_69_10 hs) ?_
          refine XW.iload_n eX10_drop_25 rfl ?_
          refine XW.iconst (v := (-1)) eX10_drop_26 (by decide) ?_
          refine XW.iastore eX10_drop_27 (sa_77 hs) q_14 ?_
          refine XW.aload_n eX10_drop_28 rfl ?_
          refine XW.getR (b := 78) eX10_drop_29 f10_44_10 rfl (so_69 hs) (sr_69_11 hs) ?_
          refine XW.iload_n eX10_drop_32 rfl ?_
          refine XW.iaload eX10_drop_33 (sa_78 hs) q_14 ?_
          exact hk)
      exact ⟨(I_1 78 y1.toNatClampNeg), (wI I_1 77 y1.toNatClampNeg (-1)), XW.iret eX10_drop_34 rfl rfl rfl rfl rfl, h⟩
    ·
      replace h := hf c_15
      refine XF.lift (pc2 := 20) (ls2 := [some (.ref 69), some (.int y1)]) (st2 := [.int (-11)]) (I2 := I_1) ?_ (fun r I' hk => by
          refine XW.if_ge eX10_drop_15 (fun z => absurd z c_15) (fun _ => ?_)
          refine XW.bipush (v := (-11)) eX10_drop_18 (by decide) ?_
          exact hk)
      exact ⟨(-11), I_1, XW.iret eX10_drop_20 rfl rfl rfl rfl rfl, h⟩
set_option maxRecDepth 100000 in
set_option maxHeartbeats 4000000 in
theorem VX10_item {l : Launch} {C : xC} {G : xG} (hs : SH G)  (I : xI) (y1 y2 y3 y4 : Int32) {Q : Int32 → xI → Prop} (h :
    (∃ Qc : Int32 → xI → Prop, XF fI l C mX10_isSheet 0 (xent mX10_isSheet [.int y1]) [] G I Qc ∧ ∀ (v_1 : Int32) (I_1 : xI), Qc v_1 I_1 → ((v_1 = 0 → Q (-1) I_1) ∧ (¬ (v_1 = 0) → (∃ Qc : Int32 → xI → Prop, XF fI l C mX10_in 0 (xent mX10_in [.int y2, .int 0, .int 2]) [] G I_1 Qc ∧ ∀ (v_10 : Int32) (I_10 : xI), Qc v_10 I_10 → ((v_10 = 0 → Q (-1) I_10) ∧ (¬ (v_10 = 0) → vp_in y1 4 ∧ ((0 ≤ (I_10 77 y1.toNatClampNeg) → (((I_10 77 y1.toNatClampNeg) = y2 → (∃ Qc : Int32 → xI → Prop, XF fI l C mX10_in 0 (xent mX10_in [.int y3, .int 0, .int ((I_10 78 y1.toNatClampNeg) - 1)]) [] G I_10 Qc ∧ ∀ (v_53 : Int32) (I_53 : xI), Qc v_53 I_53 → ((v_53 = 0 → Q (-13) I_53) ∧ (¬ (v_53 = 0) → ((y2 = 0 → vp_in ((160 * y1) + y3) 640 ∧ Q 1 (wI I_53 79 ((160 * y1) + y3).toNatClampNeg (y4).toInt8.toInt32)) ∧ (¬ (y2 = 0) → ((y2 = 1 → vp_in ((160 * y1) + y3) 640 ∧ Q 1 (wI I_53 79 ((160 * y1) + y3).toNatClampNeg (y4).toInt16.toInt32)) ∧ (¬ (y2 = 1) → vp_in ((160 * y1) + y3) 640 ∧ Q 1 (wI I_53 79 ((160 * y1) + y3).toNatClampNeg y4))))))))) ∧ (¬ ((I_10 77 y1.toNatClampNeg) = y2) → Q (-12) I_10))) ∧ (¬ (0 ≤ (I_10 77 y1.toNatClampNeg)) → Q (-11) I_10))))))))) : XF fI l C mX10_item 0 (xent mX10_item [.ref 69, .int y1, .int y2, .int y3, .int y4]) [] G I Q := by
  show XF fI l C mX10_item 0 [some (.ref 69), some (.int y1), some (.int y2), some (.int y3), some (.int y4)] [] G I Q
  refine XF.lift (pc2 := 1) (ls2 := [some (.ref 69), some (.int y1), some (.int y2), some (.int y3), some (.int y4)]) (st2 := [.int y1]) (I2 := I) ?_ (fun r I' hk => by
      refine XW.iload_n eX10_item_0 rfl ?_
      exact hk)
  obtain ⟨Qc, hc, h⟩ := h
  refine XF.call (nx := 4) (st := []) hc (fun v I1 r I' hY hk => XW.callS (As := [.int y1]) (st := []) eX10_item_1 okX10_isSheet cs10_135 rfl hY (xnum rfl rfl rfl rfl rfl) hk) (fun v_1 I_1 hq => ?_)
  replace h := h v_1 I_1 hq
  obtain ⟨ht, hf⟩ := h
  refine XF.br (P := v_1 = 0) (fun c_4 => ?_) (fun c_4 => ?_)
  ·
    replace h := ht c_4
    refine XF.lift (pc2 := 17) (ls2 := [some (.ref 69), some (.int y1), some (.int y2), some (.int y3), some (.int y4)]) (st2 := [.int (-1)]) (I2 := I_1) ?_ (fun r I' hk => by
        refine XW.if_eq eX10_item_4 (fun _ => ?_) (fun z => absurd c_4 z)
        refine XW.iconst (v := (-1)) eX10_item_16 (by decide) ?_
        exact hk)
    exact ⟨(-1), I_1, XW.iret eX10_item_17 rfl rfl rfl rfl rfl, h⟩
  ·
    replace h := hf c_4
    refine XF.lift (pc2 := 10) (ls2 := [some (.ref 69), some (.int y1), some (.int y2), some (.int y3), some (.int y4)]) (st2 := [.int 2, .int 0, .int y2]) (I2 := I_1) ?_ (fun r I' hk => by
        refine XW.if_eq eX10_item_4 (fun z => absurd z c_4) (fun _ => ?_)
        refine XW.iload_n eX10_item_7 rfl ?_
        refine XW.iconst (v := 0) eX10_item_8 (by decide) ?_
        refine XW.iconst (v := 2) eX10_item_9 (by decide) ?_
        exact hk)
    obtain ⟨Qc, hc, h⟩ := h
    refine XF.call (nx := 13) (st := []) hc (fun v I1 r I' hY hk => XW.callS (As := [.int y2, .int 0, .int 2]) (st := []) eX10_item_10 okX10_in cs10_123 rfl hY (xnum rfl rfl rfl rfl rfl) hk) (fun v_10 I_10 hq => ?_)
    replace h := h v_10 I_10 hq
    obtain ⟨ht, hf⟩ := h
    refine XF.br (P := v_10 = 0) (fun c_13 => ?_) (fun c_13 => ?_)
    ·
      replace h := ht c_13
      refine XF.lift (pc2 := 17) (ls2 := [some (.ref 69), some (.int y1), some (.int y2), some (.int y3), some (.int y4)]) (st2 := [.int (-1)]) (I2 := I_10) ?_ (fun r I' hk => by
          refine XW.if_ne eX10_item_13 (fun z => absurd c_13 z) (fun _ => ?_)
          refine XW.iconst (v := (-1)) eX10_item_16 (by decide) ?_
          exact hk)
      exact ⟨(-1), I_10, XW.iret eX10_item_17 rfl rfl rfl rfl rfl, h⟩
    ·
      replace h := hf c_13
      obtain ⟨q_23, h⟩ := h
      refine XF.lift (pc2 := 24) (ls2 := [some (.ref 69), some (.int y1), some (.int y2), some (.int y3), some (.int y4)]) (st2 := [.int (I_10 77 y1.toNatClampNeg)]) (I2 := I_10) ?_ (fun r I' hk => by
          refine XW.if_ne eX10_item_13 (fun _ => ?_) (fun z => absurd z c_13)
          refine XW.aload_n eX10_item_18 rfl ?_
          refine XW.getR (b := 77) eX10_item_19 f10_41_10 rfl (so_69 hs) (sr_69_10 hs) ?_
          refine XW.iload_n eX10_item_22 rfl ?_
          refine XW.iaload eX10_item_23 (sa_77 hs) q_23 ?_
          exact hk)
      obtain ⟨ht, hf⟩ := h
      refine XF.br (P := 0 ≤ (I_10 77 y1.toNatClampNeg)) (fun c_24 => ?_) (fun c_24 => ?_)
      ·
        replace h := ht c_24
        refine XF.lift (pc2 := 37) (ls2 := [some (.ref 69), some (.int y1), some (.int y2), some (.int y3), some (.int y4)]) (st2 := [.int y2, .int (I_10 77 y1.toNatClampNeg)]) (I2 := I_10) ?_ (fun r I' hk => by
            refine XW.if_ge eX10_item_24 (fun _ => ?_) (fun z => absurd c_24 z)
            refine XW.aload_n eX10_item_30 rfl ?_
            refine XW.getR (b := 77) eX10_item_31 f10_41_10 rfl (so_69 hs) (sr_69_10 hs) ?_
            refine XW.iload_n eX10_item_34 rfl ?_
            refine XW.iaload eX10_item_35 (sa_77 hs) q_23 ?_
            refine XW.iload_n eX10_item_36 rfl ?_
            exact hk)
        obtain ⟨ht, hf⟩ := h
        refine XF.br (P := (I_10 77 y1.toNatClampNeg) = y2) (fun c_37 => ?_) (fun c_37 => ?_)
        ·
          replace h := ht c_37
          refine XF.lift (pc2 := 53) (ls2 := [some (.ref 69), some (.int y1), some (.int y2), some (.int y3), some (.int y4)]) (st2 := [.int ((I_10 78 y1.toNatClampNeg) - 1), .int 0, .int y3]) (I2 := I_10) ?_ (fun r I' hk => by
              refine XW.icmp_eq eX10_item_37 (fun _ => ?_) (fun z => absurd c_37 z)
              refine XW.iload_n eX10_item_43 rfl ?_
              refine XW.iconst (v := 0) eX10_item_44 (by decide) ?_
              refine XW.aload_n eX10_item_45 rfl ?_
              refine XW.getR (b := 78) eX10_item_46 f10_44_10 rfl (so_69 hs) (sr_69_11 hs) ?_
              refine XW.iload_n eX10_item_49 rfl ?_
              refine XW.iaload eX10_item_50 (sa_78 hs) q_23 ?_
              refine XW.iconst (v := 1) eX10_item_51 (by decide) ?_
              refine XW.isub eX10_item_52 ?_
              exact hk)
          obtain ⟨Qc, hc, h⟩ := h
          refine XF.call (nx := 56) (st := []) hc (fun v I1 r I' hY hk => XW.callS (As := [.int y3, .int 0, .int ((I_10 78 y1.toNatClampNeg) - 1)]) (st := []) eX10_item_53 okX10_in cs10_123 rfl hY (xnum rfl rfl rfl rfl rfl) hk) (fun v_53 I_53 hq => ?_)
          replace h := h v_53 I_53 hq
          obtain ⟨ht, hf⟩ := h
          refine XF.br (P := v_53 = 0) (fun c_56 => ?_) (fun c_56 => ?_)
          ·
            replace h := ht c_56
            refine XF.lift (pc2 := 61) (ls2 := [some (.ref 69), some (.int y1), some (.int y2), some (.int y3), some (.int y4)]) (st2 := [.int (-13)]) (I2 := I_53) ?_ (fun r I' hk => by
                refine XW.if_ne eX10_item_56 (fun z => absurd c_56 z) (fun _ => ?_)
                refine XW.bipush (v := (-13)) eX10_item_59 (by decide) ?_
                exact hk)
            exact ⟨(-13), I_53, XW.iret eX10_item_61 rfl rfl rfl rfl rfl, h⟩
          ·
            replace h := hf c_56
            refine XF.lift (pc2 := 74) (ls2 := [some (.ref 69), some (.int y1), some (.int y2), some (.int y3), some (.int y4)]) (st2 := [.int y2, .int ((160 * y1) + y3), .ref 79]) (I2 := I_53) ?_ (fun r I' hk => by
                refine XW.if_ne eX10_item_56 (fun _ => ?_) (fun z => absurd z c_56)
                refine XW.aload_n eX10_item_62 rfl ?_
                refine XW.getR (b := 79) eX10_item_63 f10_47_10 rfl (so_69 hs) (sr_69_12 hs) ?_
                refine XW.sipush (v := 160) eX10_item_66 (by decide) ?_
                refine XW.iload_n eX10_item_69 rfl ?_
                refine XW.imul eX10_item_70 ?_
                refine XW.iload_n eX10_item_71 rfl ?_
                refine XW.iadd eX10_item_72 ?_
                refine XW.iload_n eX10_item_73 rfl ?_
                exact hk)
            obtain ⟨ht, hf⟩ := h
            refine XF.br (P := y2 = 0) (fun c_74 => ?_) (fun c_74 => ?_)
            ·
              replace h := ht c_74
              obtain ⟨q_96, h⟩ := h
              refine XF.lift (pc2 := 98) (ls2 := [some (.ref 69), some (.int y1), some (.int y2), some (.int y3), some (.int y4)]) (st2 := [.int 1]) (I2 := (wI I_53 79 ((160 * y1) + y3).toNatClampNeg (y4).toInt8.toInt32)) ?_ (fun r I' hk => by
                  refine XW.if_ne eX10_item_74 (fun z => absurd c_74 z) (fun _ => ?_)
                  refine XW.iload eX10_item_77 rfl ?_
                  refine XW.i2b eX10_item_79 ?_
                  refine XW.goto eX10_item_80 ?_
                  refine XW.iastore eX10_item_96 (sa_79 hs) q_96 ?_
                  refine XW.iconst (v := 1) eX10_item_97 (by decide) ?_
                  exact hk)
              exact ⟨1, (wI I_53 79 ((160 * y1) + y3).toNatClampNeg (y4).toInt8.toInt32), XW.iret eX10_item_98 rfl rfl rfl rfl rfl, h⟩
            ·
              replace h := hf c_74
              refine XF.lift (pc2 := 85) (ls2 := [some (.ref 69), some (.int y1), some (.int y2), some (.int y3), some (.int y4)]) (st2 := [.int 1, .int y2, .int ((160 * y1) + y3), .ref 79]) (I2 := I_53) ?_ (fun r I' hk => by
                  refine XW.if_ne eX10_item_74 (fun _ => ?_) (fun z => absurd z c_74)
                  refine XW.iload_n eX10_item_83 rfl ?_
                  refine XW.iconst (v := 1) eX10_item_84 (by decide) ?_
                  exact hk)
              obtain ⟨ht, hf⟩ := h
              refine XF.br (P := y2 = 1) (fun c_85 => ?_) (fun c_85 => ?_)
              ·
                replace h := ht c_85
                obtain ⟨q_96, h⟩ := h
                refine XF.lift (pc2 := 98) (ls2 := [some (.ref 69), some (.int y1), some (.int y2), some (.int y3), some (.int y4)]) (st2 := [.int 1]) (I2 := (wI I_53 79 ((160 * y1) + y3).toNatClampNeg (y4).toInt16.toInt32)) ?_ (fun r I' hk => by
                    refine XW.icmp_ne eX10_item_85 (fun z => absurd c_85 z) (fun _ => ?_)
                    refine XW.iload eX10_item_88 rfl ?_
                    refine XW.i2s eX10_item_90 ?_
                    refine XW.goto eX10_item_91 ?_
                    refine XW.iastore eX10_item_96 (sa_79 hs) q_96 ?_
                    refine XW.iconst (v := 1) eX10_item_97 (by decide) ?_
                    exact hk)
                exact ⟨1, (wI I_53 79 ((160 * y1) + y3).toNatClampNeg (y4).toInt16.toInt32), XW.iret eX10_item_98 rfl rfl rfl rfl rfl, h⟩
              ·
                replace h := hf c_85
                obtain ⟨q_96, h⟩ := h
                refine XF.lift (pc2 := 98) (ls2 := [some (.ref 69), some (.int y1), some (.int y2), some (.int y3), some (.int y4)]) (st2 := [.int 1]) (I2 := (wI I_53 79 ((160 * y1) + y3).toNatClampNeg y4)) ?_ (fun r I' hk => by
                    refine XW.icmp_ne eX10_item_85 (fun _ => ?_) (fun z => absurd z c_85)
                    refine XW.iload eX10_item_94 rfl ?_
                    refine XW.iastore eX10_item_96 (sa_79 hs) q_96 ?_
                    refine XW.iconst (v := 1) eX10_item_97 (by decide) ?_
                    exact hk)
                exact ⟨1, (wI I_53 79 ((160 * y1) + y3).toNatClampNeg y4), XW.iret eX10_item_98 rfl rfl rfl rfl rfl, h⟩
        ·
          replace h := hf c_37
          refine XF.lift (pc2 := 42) (ls2 := [some (.ref 69), some (.int y1), some (.int y2), some (.int y3), some (.int y4)]) (st2 := [.int (-12)]) (I2 := I_10) ?_ (fun r I' hk => by
              refine XW.icmp_eq eX10_item_37 (fun z => absurd z c_37) (fun _ => ?_)
              refine XW.bipush (v := (-12)) eX10_item_40 (by decide) ?_
              exact hk)
          exact ⟨(-12), I_10, XW.iret eX10_item_42 rfl rfl rfl rfl rfl, h⟩
      ·
        replace h := hf c_24
        refine XF.lift (pc2 := 29) (ls2 := [some (.ref 69), some (.int y1), some (.int y2), some (.int y3), some (.int y4)]) (st2 := [.int (-11)]) (I2 := I_10) ?_ (fun r I' hk => by
            refine XW.if_ge eX10_item_24 (fun z => absurd z c_24) (fun _ => ?_)
            refine XW.bipush (v := (-11)) eX10_item_27 (by decide) ?_
            exact hk)
        exact ⟨(-11), I_10, XW.iret eX10_item_29 rfl rfl rfl rfl rfl, h⟩
set_option maxRecDepth 100000 in
set_option maxHeartbeats 4000000 in
theorem VX10_clear {l : Launch} {C : xC} {G : xG} (hs : SH G)  (I : xI) (y1 : Int32) {Q : Int32 → xI → Prop} (h :
    (∃ Qc : Int32 → xI → Prop, XF fI l C mX10_isRow 0 (xent mX10_isRow [.int y1]) [] G I Qc ∧ ∀ (v_1 : Int32) (I_1 : xI), Qc v_1 I_1 → ((v_1 = 0 → Q (-1) I_1) ∧ (¬ (v_1 = 0) → vp_in y1 4 ∧ Q (I_1 81 y1.toNatClampNeg) (wI (wI I_1 81 y1.toNatClampNeg 0) 84 y1.toNatClampNeg 0))))) : XF fI l C mX10_clear 0 (xent mX10_clear [.ref 69, .int y1]) [] G I Q := by
  show XF fI l C mX10_clear 0 [some (.ref 69), some (.int y1), none] [] G I Q
  refine XF.lift (pc2 := 1) (ls2 := [some (.ref 69), some (.int y1), none]) (st2 := [.int y1]) (I2 := I) ?_ (fun r I' hk => by
      refine XW.iload_n eX10_clear_0 rfl ?_
      exact hk)
  obtain ⟨Qc, hc, h⟩ := h
  refine XF.call (nx := 4) (st := []) hc (fun v I1 r I' hY hk => XW.callS (As := [.int y1]) (st := []) eX10_clear_1 okX10_isRow cs10_141 rfl hY (xnum rfl rfl rfl rfl rfl) hk) (fun v_1 I_1 hq => ?_)
  replace h := h v_1 I_1 hq
  obtain ⟨ht, hf⟩ := h
  refine XF.br (P := v_1 = 0) (fun c_4 => ?_) (fun c_4 => ?_)
  ·
    replace h := ht c_4
    refine XF.lift (pc2 := 8) (ls2 := [some (.ref 69), some (.int y1), none]) (st2 := [.int (-1)]) (I2 := I_1) ?_ (fun r I' hk => by
        refine XW.if_ne eX10_clear_4 (fun z => absurd c_4 z) (fun _ => ?_)
        refine XW.iconst (v := (-1)) eX10_clear_7 (by decide) ?_
        exact hk)
    exact ⟨(-1), I_1, XW.iret eX10_clear_8 rfl rfl rfl rfl rfl, h⟩
  ·
    replace h := hf c_4
    obtain ⟨q_14, h⟩ := h
    refine XF.lift (pc2 := 31) (ls2 := [some (.ref 69), some (.int y1), some (.int (I_1 81 y1.toNatClampNeg))]) (st2 := [.int (I_1 81 y1.toNatClampNeg)]) (I2 := (wI (wI I_1 81 y1.toNatClampNeg 0) 84 y1.toNatClampNeg 0)) ?_ (fun r I' hk => by
        refine XW.if_ne eX10_clear_4 (fun _ => ?_) (fun z => absurd z c_4)
        refine XW.aload_n eX10_clear_9 rfl ?_
        refine XW.getR (b := 81) eX10_clear_10 f10_53_10 rfl (so_69 hs) (sr_69_14 hs) ?_
        refine XW.iload_n eX10_clear_13 rfl ?_
        refine XW.iaload eX10_clear_14 (sa_81 hs) q_14 ?_
        refine XW.istore_n (ls' := [some (.ref 69), some (.int y1), some (.int (I_1 81 y1.toNatClampNeg))]) eX10_clear_15 (Nat.le_of_ble_eq_true rfl) rfl ?_
        refine XW.aload_n eX10_clear_16 rfl ?_
        refine XW.getR (b := 81) eX10_clear_17 f10_53_10 rfl (so_69 hs) (sr_69_14 hs) ?_
        refine XW.iload_n eX10_clear_20 rfl ?_
        refine XW.iconst (v := 0) eX10_clear_21 (by decide) ?_
        refine XW.iastore eX10_clear_22 (sa_81 hs) q_14 ?_
        refine XW.aload_n eX10_clear_23 rfl ?_
        refine XW.getR (b := 84) eX10_clear_24 f10_62_10 rfl (so_69 hs) (sr_69_17 hs) ?_
        refine XW.iload_n eX10_clear_27 rfl ?_
        refine XW.iconst (v := 0) eX10_clear_28 (by decide) ?_
        refine XW.bastore eX10_clear_29 (sa_84 hs) q_14 rfl ?_
        refine XW.iload_n eX10_clear_30 rfl ?_
        exact hk)
    exact ⟨(I_1 81 y1.toNatClampNeg), (wI (wI I_1 81 y1.toNatClampNeg 0) 84 y1.toNatClampNeg 0), XW.iret eX10_clear_31 rfl rfl rfl rfl rfl, h⟩
set_option maxRecDepth 100000 in
set_option maxHeartbeats 4000000 in
theorem VX10_letter {l : Launch} {C : xC} {G : xG} (hs : SH G)  (I : xI) (y1 y2 y3 : Int32) {Q : Int32 → xI → Prop} (h :
    (∃ Qc : Int32 → xI → Prop, XF fI l C mX10_isRow 0 (xent mX10_isRow [.int y1]) [] G I Qc ∧ ∀ (v_1 : Int32) (I_1 : xI), Qc v_1 I_1 → ((v_1 = 0 → Q (-1) I_1) ∧ (¬ (v_1 = 0) → ((y2 = (-1) → vp_in y1 4 ∧ Q (I_1 81 y1.toNatClampNeg) I_1) ∧ (¬ (y2 = (-1)) → vp_in y1 4 ∧ (∃ Qc : Int32 → xI → Prop, XF fI l C mX10_in 0 (xent mX10_in [.int y2, .int 0, .int ((I_1 81 y1.toNatClampNeg) - 1)]) [] G I_1 Qc ∧ ∀ (v_31 : Int32) (I_31 : xI), Qc v_31 I_31 → ((v_31 = 0 → Q (-1) I_31) ∧ (¬ (v_31 = 0) → (∃ Qc : Int32 → xI → Prop, XF fI l C mX10_in 0 (xent mX10_in [.int y3, .int 0, .int 1]) [] G I_31 Qc ∧ ∀ (v_40 : Int32) (I_40 : xI), Qc v_40 I_40 → ((v_40 = 0 → Q (-1) I_40) ∧ (¬ (v_40 = 0) → ((y3 = 0 → vp_in ((80 * y1) + y2) 320 ∧ Q (I_40 82 ((80 * y1) + y2).toNatClampNeg) I_40) ∧ (¬ (y3 = 0) → vp_in ((80 * y1) + y2) 320 ∧ Q (I_40 83 ((80 * y1) + y2).toNatClampNeg) I_40)))))))))))))) : XF fI l C mX10_letter 0 (xent mX10_letter [.ref 69, .int y1, .int y2, .int y3]) [] G I Q := by
  show XF fI l C mX10_letter 0 [some (.ref 69), some (.int y1), some (.int y2), some (.int y3)] [] G I Q
  refine XF.lift (pc2 := 1) (ls2 := [some (.ref 69), some (.int y1), some (.int y2), some (.int y3)]) (st2 := [.int y1]) (I2 := I) ?_ (fun r I' hk => by
      refine XW.iload_n eX10_letter_0 rfl ?_
      exact hk)
  obtain ⟨Qc, hc, h⟩ := h
  refine XF.call (nx := 4) (st := []) hc (fun v I1 r I' hY hk => XW.callS (As := [.int y1]) (st := []) eX10_letter_1 okX10_isRow cs10_141 rfl hY (xnum rfl rfl rfl rfl rfl) hk) (fun v_1 I_1 hq => ?_)
  replace h := h v_1 I_1 hq
  obtain ⟨ht, hf⟩ := h
  refine XF.br (P := v_1 = 0) (fun c_4 => ?_) (fun c_4 => ?_)
  ·
    replace h := ht c_4
    refine XF.lift (pc2 := 8) (ls2 := [some (.ref 69), some (.int y1), some (.int y2), some (.int y3)]) (st2 := [.int (-1)]) (I2 := I_1) ?_ (fun r I' hk => by
        refine XW.if_ne eX10_letter_4 (fun z => absurd c_4 z) (fun _ => ?_)
        refine XW.iconst (v := (-1)) eX10_letter_7 (by decide) ?_
        exact hk)
    exact ⟨(-1), I_1, XW.iret eX10_letter_8 rfl rfl rfl rfl rfl, h⟩
  ·
    replace h := hf c_4
    refine XF.lift (pc2 := 11) (ls2 := [some (.ref 69), some (.int y1), some (.int y2), some (.int y3)]) (st2 := [.int (-1), .int y2]) (I2 := I_1) ?_ (fun r I' hk => by
        refine XW.if_ne eX10_letter_4 (fun _ => ?_) (fun z => absurd z c_4)
        refine XW.iload_n eX10_letter_9 rfl ?_
        refine XW.iconst (v := (-1)) eX10_letter_10 (by decide) ?_
        exact hk)
    obtain ⟨ht, hf⟩ := h
    refine XF.br (P := y2 = (-1)) (fun c_11 => ?_) (fun c_11 => ?_)
    ·
      replace h := ht c_11
      obtain ⟨q_19, h⟩ := h
      refine XF.lift (pc2 := 20) (ls2 := [some (.ref 69), some (.int y1), some (.int y2), some (.int y3)]) (st2 := [.int (I_1 81 y1.toNatClampNeg)]) (I2 := I_1) ?_ (fun r I' hk => by
          refine XW.icmp_ne eX10_letter_11 (fun z => absurd c_11 z) (fun _ => ?_)
          refine XW.aload_n eX10_letter_14 rfl ?_
          refine XW.getR (b := 81) eX10_letter_15 f10_53_10 rfl (so_69 hs) (sr_69_14 hs) ?_
          refine XW.iload_n eX10_letter_18 rfl ?_
          refine XW.iaload eX10_letter_19 (sa_81 hs) q_19 ?_
          exact hk)
      exact ⟨(I_1 81 y1.toNatClampNeg), I_1, XW.iret eX10_letter_20 rfl rfl rfl rfl rfl, h⟩
    ·
      replace h := hf c_11
      obtain ⟨q_28, h⟩ := h
      refine XF.lift (pc2 := 31) (ls2 := [some (.ref 69), some (.int y1), some (.int y2), some (.int y3)]) (st2 := [.int ((I_1 81 y1.toNatClampNeg) - 1), .int 0, .int y2]) (I2 := I_1) ?_ (fun r I' hk => by
          refine XW.icmp_ne eX10_letter_11 (fun _ => ?_) (fun z => absurd z c_11)
          refine XW.iload_n eX10_letter_21 rfl ?_
          refine XW.iconst (v := 0) eX10_letter_22 (by decide) ?_
          refine XW.aload_n eX10_letter_23 rfl ?_
          refine XW.getR (b := 81) eX10_letter_24 f10_53_10 rfl (so_69 hs) (sr_69_14 hs) ?_
          refine XW.iload_n eX10_letter_27 rfl ?_
          refine XW.iaload eX10_letter_28 (sa_81 hs) q_28 ?_
          refine XW.iconst (v := 1) eX10_letter_29 (by decide) ?_
          refine XW.isub eX10_letter_30 ?_
          exact hk)
      obtain ⟨Qc, hc, h⟩ := h
      refine XF.call (nx := 34) (st := []) hc (fun v I1 r I' hY hk => XW.callS (As := [.int y2, .int 0, .int ((I_1 81 y1.toNatClampNeg) - 1)]) (st := []) eX10_letter_31 okX10_in cs10_123 rfl hY (xnum rfl rfl rfl rfl rfl) hk) (fun v_31 I_31 hq => ?_)
      replace h := h v_31 I_31 hq
      obtain ⟨ht, hf⟩ := h
      refine XF.br (P := v_31 = 0) (fun c_34 => ?_) (fun c_34 => ?_)
      ·
        replace h := ht c_34
        refine XF.lift (pc2 := 47) (ls2 := [some (.ref 69), some (.int y1), some (.int y2), some (.int y3)]) (st2 := [.int (-1)]) (I2 := I_31) ?_ (fun r I' hk => by
            refine XW.if_eq eX10_letter_34 (fun _ => ?_) (fun z => absurd c_34 z)
            refine XW.iconst (v := (-1)) eX10_letter_46 (by decide) ?_
            exact hk)
        exact ⟨(-1), I_31, XW.iret eX10_letter_47 rfl rfl rfl rfl rfl, h⟩
      ·
        replace h := hf c_34
        refine XF.lift (pc2 := 40) (ls2 := [some (.ref 69), some (.int y1), some (.int y2), some (.int y3)]) (st2 := [.int 1, .int 0, .int y3]) (I2 := I_31) ?_ (fun r I' hk => by
            refine XW.if_eq eX10_letter_34 (fun z => absurd z c_34) (fun _ => ?_)
            refine XW.iload_n eX10_letter_37 rfl ?_
            refine XW.iconst (v := 0) eX10_letter_38 (by decide) ?_
            refine XW.iconst (v := 1) eX10_letter_39 (by decide) ?_
            exact hk)
        obtain ⟨Qc, hc, h⟩ := h
        refine XF.call (nx := 43) (st := []) hc (fun v I1 r I' hY hk => XW.callS (As := [.int y3, .int 0, .int 1]) (st := []) eX10_letter_40 okX10_in cs10_123 rfl hY (xnum rfl rfl rfl rfl rfl) hk) (fun v_40 I_40 hq => ?_)
        replace h := h v_40 I_40 hq
        obtain ⟨ht, hf⟩ := h
        refine XF.br (P := v_40 = 0) (fun c_43 => ?_) (fun c_43 => ?_)
        ·
          replace h := ht c_43
          refine XF.lift (pc2 := 47) (ls2 := [some (.ref 69), some (.int y1), some (.int y2), some (.int y3)]) (st2 := [.int (-1)]) (I2 := I_40) ?_ (fun r I' hk => by
              refine XW.if_ne eX10_letter_43 (fun z => absurd c_43 z) (fun _ => ?_)
              refine XW.iconst (v := (-1)) eX10_letter_46 (by decide) ?_
              exact hk)
          exact ⟨(-1), I_40, XW.iret eX10_letter_47 rfl rfl rfl rfl rfl, h⟩
        ·
          replace h := hf c_43
          refine XF.lift (pc2 := 49) (ls2 := [some (.ref 69), some (.int y1), some (.int y2), some (.int y3)]) (st2 := [.int y3]) (I2 := I_40) ?_ (fun r I' hk => by
              refine XW.if_ne eX10_letter_43 (fun _ => ?_) (fun z => absurd z c_43)
              refine XW.iload_n eX10_letter_48 rfl ?_
              exact hk)
          obtain ⟨ht, hf⟩ := h
          refine XF.br (P := y3 = 0) (fun c_49 => ?_) (fun c_49 => ?_)
          ·
            replace h := ht c_49
            obtain ⟨q_62, h⟩ := h
            refine XF.lift (pc2 := 77) (ls2 := [some (.ref 69), some (.int y1), some (.int y2), some (.int y3)]) (st2 := [.int (I_40 82 ((80 * y1) + y2).toNatClampNeg)]) (I2 := I_40) ?_ (fun r I' hk => by
                refine XW.if_ne eX10_letter_49 (fun z => absurd c_49 z) (fun _ => ?_)
                refine XW.aload_n eX10_letter_52 rfl ?_
                refine XW.getR (b := 82) eX10_letter_53 f10_56_10 rfl (so_69 hs) (sr_69_15 hs) ?_
                refine XW.bipush (v := 80) eX10_letter_56 (by decide) ?_
                refine XW.iload_n eX10_letter_58 rfl ?_
                refine XW.imul eX10_letter_59 ?_
                refine XW.iload_n eX10_letter_60 rfl ?_
                refine XW.iadd eX10_letter_61 ?_
                refine XW.iaload eX10_letter_62 (sa_82 hs) q_62 ?_
                refine XW.goto eX10_letter_63 ?_
                exact hk)
            exact ⟨(I_40 82 ((80 * y1) + y2).toNatClampNeg), I_40, XW.iret eX10_letter_77 rfl rfl rfl rfl rfl, h⟩
          ·
            replace h := hf c_49
            obtain ⟨q_76, h⟩ := h
            refine XF.lift (pc2 := 77) (ls2 := [some (.ref 69), some (.int y1), some (.int y2), some (.int y3)]) (st2 := [.int (I_40 83 ((80 * y1) + y2).toNatClampNeg)]) (I2 := I_40) ?_ (fun r I' hk => by
                refine XW.if_ne eX10_letter_49 (fun _ => ?_) (fun z => absurd z c_49)
                refine XW.aload_n eX10_letter_66 rfl ?_
                refine XW.getR (b := 83) eX10_letter_67 f10_59_10 rfl (so_69 hs) (sr_69_16 hs) ?_
                refine XW.bipush (v := 80) eX10_letter_70 (by decide) ?_
                refine XW.iload_n eX10_letter_72 rfl ?_
                refine XW.imul eX10_letter_73 ?_
                refine XW.iload_n eX10_letter_74 rfl ?_
                refine XW.iadd eX10_letter_75 ?_
                refine XW.iaload eX10_letter_76 (sa_83 hs) q_76 ?_
                exact hk)
            exact ⟨(I_40 83 ((80 * y1) + y2).toNatClampNeg), I_40, XW.iret eX10_letter_77 rfl rfl rfl rfl rfl, h⟩
set_option maxRecDepth 100000 in
set_option maxHeartbeats 4000000 in
theorem VX10_fate {l : Launch} {C : xC} {G : xG} (hs : SH G)  (I : xI) (y1 y2 : Int32) {Q : Int32 → xI → Prop} (h :
    (((I 69 34) = 0 → Q (-1) I) ∧ (¬ ((I 69 34) = 0) → (∃ Qc : Int32 → xI → Prop, XF fI l C mX10_in 0 (xent mX10_in [.int y1, .int 0, .int ((I 69 35) - 1)]) [] G I Qc ∧ ∀ (v_15 : Int32) (I_15 : xI), Qc v_15 I_15 → ((v_15 = 0 → Q (-1) I_15) ∧ (¬ (v_15 = 0) → (∃ Qc : Int32 → xI → Prop, XF fI l C mX10_in 0 (xent mX10_in [.int y2, .int 0, .int 2]) [] G I_15 Qc ∧ ∀ (v_24 : Int32) (I_24 : xI), Qc v_24 I_24 → ((v_24 = 0 → Q (-1) I_24) ∧ (¬ (v_24 = 0) → ((y2 = 0 → vp_in y1 80 ∧ Q (I_24 96 y1.toNatClampNeg) I_24) ∧ (¬ (y2 = 0) → ((y2 = 1 → vp_in y1 80 ∧ Q (I_24 97 y1.toNatClampNeg) I_24) ∧ (¬ (y2 = 1) → vp_in y1 80 ∧ Q (I_24 98 y1.toNatClampNeg) I_24))))))))))))) : XF fI l C mX10_fate 0 (xent mX10_fate [.ref 69, .int y1, .int y2]) [] G I Q := by
  show XF fI l C mX10_fate 0 [some (.ref 69), some (.int y1), some (.int y2)] [] G I Q
  refine XF.lift (pc2 := 4) (ls2 := [some (.ref 69), some (.int y1), some (.int y2)]) (st2 := [.int (I 69 34)]) (I2 := I) ?_ (fun r I' hk => by
      refine XW.aload_n eX10_fate_0 rfl ?_
      refine XW.getI eX10_fate_1 f10_206_10 rfl (so_69 hs) ?_
      exact hk)
  obtain ⟨ht, hf⟩ := h
  refine XF.br (P := (I 69 34) = 0) (fun c_4 => ?_) (fun c_4 => ?_)
  ·
    replace h := ht c_4
    refine XF.lift (pc2 := 31) (ls2 := [some (.ref 69), some (.int y1), some (.int y2)]) (st2 := [.int (-1)]) (I2 := I) ?_ (fun r I' hk => by
        refine XW.if_eq eX10_fate_4 (fun _ => ?_) (fun z => absurd c_4 z)
        refine XW.iconst (v := (-1)) eX10_fate_30 (by decide) ?_
        exact hk)
    exact ⟨(-1), I, XW.iret eX10_fate_31 rfl rfl rfl rfl rfl, h⟩
  ·
    replace h := hf c_4
    refine XF.lift (pc2 := 15) (ls2 := [some (.ref 69), some (.int y1), some (.int y2)]) (st2 := [.int ((I 69 35) - 1), .int 0, .int y1]) (I2 := I) ?_ (fun r I' hk => by
        refine XW.if_eq eX10_fate_4 (fun z => absurd z c_4) (fun _ => ?_)
        refine XW.iload_n eX10_fate_7 rfl ?_
        refine XW.iconst (v := 0) eX10_fate_8 (by decide) ?_
        refine XW.aload_n eX10_fate_9 rfl ?_
        refine XW.getI eX10_fate_10 f10_209_10 rfl (so_69 hs) ?_
        refine XW.iconst (v := 1) eX10_fate_13 (by decide) ?_
        refine XW.isub eX10_fate_14 ?_
        exact hk)
    obtain ⟨Qc, hc, h⟩ := h
    refine XF.call (nx := 18) (st := []) hc (fun v I1 r I' hY hk => XW.callS (As := [.int y1, .int 0, .int ((I 69 35) - 1)]) (st := []) eX10_fate_15 okX10_in cs10_123 rfl hY (xnum rfl rfl rfl rfl rfl) hk) (fun v_15 I_15 hq => ?_)
    replace h := h v_15 I_15 hq
    obtain ⟨ht, hf⟩ := h
    refine XF.br (P := v_15 = 0) (fun c_18 => ?_) (fun c_18 => ?_)
    ·
      replace h := ht c_18
      refine XF.lift (pc2 := 31) (ls2 := [some (.ref 69), some (.int y1), some (.int y2)]) (st2 := [.int (-1)]) (I2 := I_15) ?_ (fun r I' hk => by
          refine XW.if_eq eX10_fate_18 (fun _ => ?_) (fun z => absurd c_18 z)
          refine XW.iconst (v := (-1)) eX10_fate_30 (by decide) ?_
          exact hk)
      exact ⟨(-1), I_15, XW.iret eX10_fate_31 rfl rfl rfl rfl rfl, h⟩
    ·
      replace h := hf c_18
      refine XF.lift (pc2 := 24) (ls2 := [some (.ref 69), some (.int y1), some (.int y2)]) (st2 := [.int 2, .int 0, .int y2]) (I2 := I_15) ?_ (fun r I' hk => by
          refine XW.if_eq eX10_fate_18 (fun z => absurd z c_18) (fun _ => ?_)
          refine XW.iload_n eX10_fate_21 rfl ?_
          refine XW.iconst (v := 0) eX10_fate_22 (by decide) ?_
          refine XW.iconst (v := 2) eX10_fate_23 (by decide) ?_
          exact hk)
      obtain ⟨Qc, hc, h⟩ := h
      refine XF.call (nx := 27) (st := []) hc (fun v I1 r I' hY hk => XW.callS (As := [.int y2, .int 0, .int 2]) (st := []) eX10_fate_24 okX10_in cs10_123 rfl hY (xnum rfl rfl rfl rfl rfl) hk) (fun v_24 I_24 hq => ?_)
      replace h := h v_24 I_24 hq
      obtain ⟨ht, hf⟩ := h
      refine XF.br (P := v_24 = 0) (fun c_27 => ?_) (fun c_27 => ?_)
      ·
        replace h := ht c_27
        refine XF.lift (pc2 := 31) (ls2 := [some (.ref 69), some (.int y1), some (.int y2)]) (st2 := [.int (-1)]) (I2 := I_24) ?_ (fun r I' hk => by
            refine XW.if_ne eX10_fate_27 (fun z => absurd c_27 z) (fun _ => ?_)
            refine XW.iconst (v := (-1)) eX10_fate_30 (by decide) ?_
            exact hk)
        exact ⟨(-1), I_24, XW.iret eX10_fate_31 rfl rfl rfl rfl rfl, h⟩
      ·
        replace h := hf c_27
        refine XF.lift (pc2 := 33) (ls2 := [some (.ref 69), some (.int y1), some (.int y2)]) (st2 := [.int y2]) (I2 := I_24) ?_ (fun r I' hk => by
            refine XW.if_ne eX10_fate_27 (fun _ => ?_) (fun z => absurd z c_27)
            refine XW.iload_n eX10_fate_32 rfl ?_
            exact hk)
        obtain ⟨ht, hf⟩ := h
        refine XF.br (P := y2 = 0) (fun c_33 => ?_) (fun c_33 => ?_)
        ·
          replace h := ht c_33
          obtain ⟨q_41, h⟩ := h
          refine XF.lift (pc2 := 65) (ls2 := [some (.ref 69), some (.int y1), some (.int y2)]) (st2 := [.int (I_24 96 y1.toNatClampNeg)]) (I2 := I_24) ?_ (fun r I' hk => by
              refine XW.if_ne eX10_fate_33 (fun z => absurd c_33 z) (fun _ => ?_)
              refine XW.aload_n eX10_fate_36 rfl ?_
              refine XW.getR (b := 96) eX10_fate_37 f10_99_10 rfl (so_69 hs) (sr_69_37 hs) ?_
              refine XW.iload_n eX10_fate_40 rfl ?_
              refine XW.iaload eX10_fate_41 (sa_96 hs) q_41 ?_
              refine XW.goto eX10_fate_42 ?_
              exact hk)
          exact ⟨(I_24 96 y1.toNatClampNeg), I_24, XW.iret eX10_fate_65 rfl rfl rfl rfl rfl, h⟩
        ·
          replace h := hf c_33
          refine XF.lift (pc2 := 47) (ls2 := [some (.ref 69), some (.int y1), some (.int y2)]) (st2 := [.int 1, .int y2]) (I2 := I_24) ?_ (fun r I' hk => by
              refine XW.if_ne eX10_fate_33 (fun _ => ?_) (fun z => absurd z c_33)
              refine XW.iload_n eX10_fate_45 rfl ?_
              refine XW.iconst (v := 1) eX10_fate_46 (by decide) ?_
              exact hk)
          obtain ⟨ht, hf⟩ := h
          refine XF.br (P := y2 = 1) (fun c_47 => ?_) (fun c_47 => ?_)
          ·
            replace h := ht c_47
            obtain ⟨q_55, h⟩ := h
            refine XF.lift (pc2 := 65) (ls2 := [some (.ref 69), some (.int y1), some (.int y2)]) (st2 := [.int (I_24 97 y1.toNatClampNeg)]) (I2 := I_24) ?_ (fun r I' hk => by
                refine XW.icmp_ne eX10_fate_47 (fun z => absurd c_47 z) (fun _ => ?_)
                refine XW.aload_n eX10_fate_50 rfl ?_
                refine XW.getR (b := 97) eX10_fate_51 f10_102_10 rfl (so_69 hs) (sr_69_38 hs) ?_
                refine XW.iload_n eX10_fate_54 rfl ?_
                refine XW.iaload eX10_fate_55 (sa_97 hs) q_55 ?_
                refine XW.goto eX10_fate_56 ?_
                exact hk)
            exact ⟨(I_24 97 y1.toNatClampNeg), I_24, XW.iret eX10_fate_65 rfl rfl rfl rfl rfl, h⟩
          ·
            replace h := hf c_47
            obtain ⟨q_64, h⟩ := h
            refine XF.lift (pc2 := 65) (ls2 := [some (.ref 69), some (.int y1), some (.int y2)]) (st2 := [.int (I_24 98 y1.toNatClampNeg)]) (I2 := I_24) ?_ (fun r I' hk => by
                refine XW.icmp_ne eX10_fate_47 (fun _ => ?_) (fun z => absurd z c_47)
                refine XW.aload_n eX10_fate_59 rfl ?_
                refine XW.getR (b := 98) eX10_fate_60 f10_105_10 rfl (so_69 hs) (sr_69_39 hs) ?_
                refine XW.iload_n eX10_fate_63 rfl ?_
                refine XW.iaload eX10_fate_64 (sa_98 hs) q_64 ?_
                exact hk)
            exact ⟨(I_24 98 y1.toNatClampNeg), I_24, XW.iret eX10_fate_65 rfl rfl rfl rfl rfl, h⟩
set_option maxRecDepth 100000 in
set_option maxHeartbeats 4000000 in
theorem VX10_length {l : Launch} {C : xC} {G : xG} (hs : SH G)  (I : xI) (y1 y2 : Int32) {Q : Int32 → xI → Prop} (h :
    (((I 69 34) = 0 → Q (-1) I) ∧ (¬ ((I 69 34) = 0) → (∃ Qc : Int32 → xI → Prop, XF fI l C mX10_isLine 0 (xent mX10_isLine [.ref 69, .int y1]) [] G I Qc ∧ ∀ (v_9 : Int32) (I_9 : xI), Qc v_9 I_9 → ((v_9 = 0 → Q (-1) I_9) ∧ (¬ (v_9 = 0) → (∃ Qc : Int32 → xI → Prop, XF fI l C mX10_in 0 (xent mX10_in [.int y2, .int 0, .int 399]) [] G I_9 Qc ∧ ∀ (v_20 : Int32) (I_20 : xI), Qc v_20 I_20 → ((v_20 = 0 → Q (-1) I_20) ∧ (¬ (v_20 = 0) → vp_in ((400 * y1) + y2) 1600 ∧ Q (I_20 95 ((400 * y1) + y2).toNatClampNeg) I_20))))))))) : XF fI l C mX10_length 0 (xent mX10_length [.ref 69, .int y1, .int y2]) [] G I Q := by
  show XF fI l C mX10_length 0 [some (.ref 69), some (.int y1), some (.int y2)] [] G I Q
  refine XF.lift (pc2 := 4) (ls2 := [some (.ref 69), some (.int y1), some (.int y2)]) (st2 := [.int (I 69 34)]) (I2 := I) ?_ (fun r I' hk => by
      refine XW.aload_n eX10_length_0 rfl ?_
      refine XW.getI eX10_length_1 f10_206_10 rfl (so_69 hs) ?_
      exact hk)
  obtain ⟨ht, hf⟩ := h
  refine XF.br (P := (I 69 34) = 0) (fun c_4 => ?_) (fun c_4 => ?_)
  ·
    replace h := ht c_4
    refine XF.lift (pc2 := 42) (ls2 := [some (.ref 69), some (.int y1), some (.int y2)]) (st2 := [.int (-1)]) (I2 := I) ?_ (fun r I' hk => by
        refine XW.if_eq eX10_length_4 (fun _ => ?_) (fun z => absurd c_4 z)
        refine XW.iconst (v := (-1)) eX10_length_41 (by decide) ?_
        exact hk)
    exact ⟨(-1), I, XW.iret eX10_length_42 rfl rfl rfl rfl rfl, h⟩
  ·
    replace h := hf c_4
    refine XF.lift (pc2 := 9) (ls2 := [some (.ref 69), some (.int y1), some (.int y2)]) (st2 := [.int y1, .ref 69]) (I2 := I) ?_ (fun r I' hk => by
        refine XW.if_eq eX10_length_4 (fun z => absurd z c_4) (fun _ => ?_)
        refine XW.aload_n eX10_length_7 rfl ?_
        refine XW.iload_n eX10_length_8 rfl ?_
        exact hk)
    obtain ⟨Qc, hc, h⟩ := h
    refine XF.call (nx := 12) (st := []) hc (fun v I1 r I' hY hk => XW.callV (As := [.int y1]) (st := []) eX10_length_9 okX10_isLine cv10_131 rfl (so_69 hs) hY (xnum rfl rfl rfl rfl rfl) hk) (fun v_9 I_9 hq => ?_)
    replace h := h v_9 I_9 hq
    obtain ⟨ht, hf⟩ := h
    refine XF.br (P := v_9 = 0) (fun c_12 => ?_) (fun c_12 => ?_)
    ·
      replace h := ht c_12
      refine XF.lift (pc2 := 42) (ls2 := [some (.ref 69), some (.int y1), some (.int y2)]) (st2 := [.int (-1)]) (I2 := I_9) ?_ (fun r I' hk => by
          refine XW.if_eq eX10_length_12 (fun _ => ?_) (fun z => absurd c_12 z)
          refine XW.iconst (v := (-1)) eX10_length_41 (by decide) ?_
          exact hk)
      exact ⟨(-1), I_9, XW.iret eX10_length_42 rfl rfl rfl rfl rfl, h⟩
    ·
      replace h := hf c_12
      refine XF.lift (pc2 := 20) (ls2 := [some (.ref 69), some (.int y1), some (.int y2)]) (st2 := [.int 399, .int 0, .int y2]) (I2 := I_9) ?_ (fun r I' hk => by
          refine XW.if_eq eX10_length_12 (fun z => absurd z c_12) (fun _ => ?_)
          refine XW.iload_n eX10_length_15 rfl ?_
          refine XW.iconst (v := 0) eX10_length_16 (by decide) ?_
          refine XW.sipush (v := 399) eX10_length_17 (by decide) ?_
          exact hk)
      obtain ⟨Qc, hc, h⟩ := h
      refine XF.call (nx := 23) (st := []) hc (fun v I1 r I' hY hk => XW.callS (As := [.int y2, .int 0, .int 399]) (st := []) eX10_length_20 okX10_in cs10_123 rfl hY (xnum rfl rfl rfl rfl rfl) hk) (fun v_20 I_20 hq => ?_)
      replace h := h v_20 I_20 hq
      obtain ⟨ht, hf⟩ := h
      refine XF.br (P := v_20 = 0) (fun c_23 => ?_) (fun c_23 => ?_)
      ·
        replace h := ht c_23
        refine XF.lift (pc2 := 42) (ls2 := [some (.ref 69), some (.int y1), some (.int y2)]) (st2 := [.int (-1)]) (I2 := I_20) ?_ (fun r I' hk => by
            refine XW.if_eq eX10_length_23 (fun _ => ?_) (fun z => absurd c_23 z)
            refine XW.iconst (v := (-1)) eX10_length_41 (by decide) ?_
            exact hk)
        exact ⟨(-1), I_20, XW.iret eX10_length_42 rfl rfl rfl rfl rfl, h⟩
      ·
        replace h := hf c_23
        obtain ⟨q_37, h⟩ := h
        refine XF.lift (pc2 := 42) (ls2 := [some (.ref 69), some (.int y1), some (.int y2)]) (st2 := [.int (I_20 95 ((400 * y1) + y2).toNatClampNeg)]) (I2 := I_20) ?_ (fun r I' hk => by
            refine XW.if_eq eX10_length_23 (fun z => absurd z c_23) (fun _ => ?_)
            refine XW.aload_n eX10_length_26 rfl ?_
            refine XW.getR (b := 95) eX10_length_27 f10_96_10 rfl (so_69 hs) (sr_69_33 hs) ?_
            refine XW.sipush (v := 400) eX10_length_30 (by decide) ?_
            refine XW.iload_n eX10_length_33 rfl ?_
            refine XW.imul eX10_length_34 ?_
            refine XW.iload_n eX10_length_35 rfl ?_
            refine XW.iadd eX10_length_36 ?_
            refine XW.iaload eX10_length_37 (sa_95 hs) q_37 ?_
            refine XW.goto eX10_length_38 ?_
            exact hk)
        exact ⟨(I_20 95 ((400 * y1) + y2).toNatClampNeg), I_20, XW.iret eX10_length_42 rfl rfl rfl rfl rfl, h⟩
set_option maxRecDepth 100000 in
set_option maxHeartbeats 4000000 in
theorem VX10_ticks {l : Launch} {C : xC} {G : xG} (hs : SH G)  (I : xI) {Q : Int32 → xI → Prop} (h :
    (((I 69 34) = 0 → Q (-1) I) ∧ (¬ ((I 69 34) = 0) → Q (I 69 36) I))) : XF fI l C mX10_ticks 0 (xent mX10_ticks [.ref 69]) [] G I Q := by
  show XF fI l C mX10_ticks 0 [some (.ref 69)] [] G I Q
  refine XF.lift (pc2 := 4) (ls2 := [some (.ref 69)]) (st2 := [.int (I 69 34)]) (I2 := I) ?_ (fun r I' hk => by
      refine XW.aload_n eX10_ticks_0 rfl ?_
      refine XW.getI eX10_ticks_1 f10_206_10 rfl (so_69 hs) ?_
      exact hk)
  obtain ⟨ht, hf⟩ := h
  refine XF.br (P := (I 69 34) = 0) (fun c_4 => ?_) (fun c_4 => ?_)
  ·
    replace h := ht c_4
    refine XF.lift (pc2 := 15) (ls2 := [some (.ref 69)]) (st2 := [.int (-1)]) (I2 := I) ?_ (fun r I' hk => by
        refine XW.if_eq eX10_ticks_4 (fun _ => ?_) (fun z => absurd c_4 z)
        refine XW.iconst (v := (-1)) eX10_ticks_14 (by decide) ?_
        exact hk)
    exact ⟨(-1), I, XW.iret eX10_ticks_15 rfl rfl rfl rfl rfl, h⟩
  ·
    replace h := hf c_4
    refine XF.lift (pc2 := 15) (ls2 := [some (.ref 69)]) (st2 := [.int (I 69 36)]) (I2 := I) ?_ (fun r I' hk => by
        refine XW.if_eq eX10_ticks_4 (fun z => absurd z c_4) (fun _ => ?_)
        refine XW.aload_n eX10_ticks_7 rfl ?_
        refine XW.getI eX10_ticks_8 f10_212_10 rfl (so_69 hs) ?_
        refine XW.goto eX10_ticks_11 ?_
        exact hk)
    exact ⟨(I 69 36), I, XW.iret eX10_ticks_15 rfl rfl rfl rfl rfl, h⟩
set_option maxRecDepth 100000 in
set_option maxHeartbeats 4000000 in
theorem VX10_witness {l : Launch} {C : xC} {G : xG} (hs : SH G)  (I : xI) {Q : Int32 → xI → Prop} (h :
    Q (I 69 44) I) : XF fI l C mX10_witness 0 (xent mX10_witness [.ref 69]) [] G I Q := by
  show XF fI l C mX10_witness 0 [some (.ref 69)] [] G I Q
  refine XF.lift (pc2 := 4) (ls2 := [some (.ref 69)]) (st2 := [.int (I 69 44)]) (I2 := I) ?_ (fun r I' hk => by
      refine XW.aload_n eX10_witness_0 rfl ?_
      refine XW.getI eX10_witness_1 f10_120_10 rfl (so_69 hs) ?_
      exact hk)
  exact ⟨(I 69 44), I, XW.iret eX10_witness_4 rfl rfl rfl rfl rfl, h⟩
