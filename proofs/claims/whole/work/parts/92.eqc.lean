/-! sheet alike -/
section EQs2
variable {l : Launch} {C : xC} {G G1 : xG} {I I' : xI}
theorem YX7_init {a n : Nat} (ha : gO G a 7) (hn : n ≤ 160) (y2 : Int32) : XW l C mX7_init 0 (xent mX7_init [.ref a, .int y2, .int (nI n)]) [] G I none (wR (aA G 100 n) a 1 (gN G)) (wN (wI I a 0 y2) (gN G)) := by
  show XW l C mX7_init 0 [some (.ref a), some (.int y2), some (.int (nI n))] [] G I _ _ _
  have ha2 := ha.1
  refine XW.aload_n eX7_init_0 rfl ?_
  refine XW.objInit eX7_init_1 oi7_3 (by omega) (Nat.le_of_ble_eq_true rfl) (Nat.le_of_ble_eq_true rfl) ?_
  refine XW.aload_n eX7_init_4 rfl ?_
  refine XW.iload_n eX7_init_5 rfl ?_
  refine XW.putI eX7_init_6 f7_9_7 (xP_of rfl (by decide)) rfl ⟨rfl, rfl⟩ ha ?_
  refine XW.aload_n eX7_init_9 rfl ?_
  refine XW.iload_n eX7_init_10 rfl ?_
  refine XW.newI (N := n) eX7_init_11 (nI_pos (by omega)) (nI_clamp (by omega)) (by omega) ⟨Nat.le_refl _, Nat.le_refl _⟩ ?_
  refine XW.putR eX7_init_13 f7_15_7 (xP_of rfl (by decide)) rfl ((GX_aA 100 n).gO ha) ?_
  exact XW.vret eX7_init_16 rfl rfl rfl rfl
theorem wN_at (I : xI) (a : Nat) : wN I a a = fun _ => 0 := by simp [wN]
set_option maxHeartbeats 4000000 in
theorem EQ_sheet (h : REL G I) (y1 y2 y3 : Int32) : EQ l C mX9_sheet mX10_sheet [.int y1, .int y2, .int y3] G I := by
  have hrel := h
  obtain ⟨hG, D, hL, hR, hT, hN, hV, hQ⟩ := h
  have h95 := hG.1
  obtain ⟨v, I0, hw, rfl, rfl⟩ := ZsheetNo (l := l) (C := C) hG I y1
  obtain ⟨v, I1, hw2, rfl, rfl⟩ := Zlane (l := l) (C := C) hG I0 y2
  by_cases hf : (0 ≤ y1 ∧ y1 ≤ 3) ∧ (0 ≤ y2 ∧ y2 ≤ 2) ∧ y3 ≤ 160 ∧ 0 ≤ y3
  · obtain ⟨a1, a2, a3, a4⟩ := hf
    obtain ⟨s, hs, rfl⟩ := row_of a1.1 a1.2
    have ks : (nI s).toNatClampNeg = s := nI_clamp (by omega)
    obtain ⟨n, -, hn, rfl⟩ := in_of (lo := 0) (hi := 160) (by decide) (by exact ⟨a4, a3⟩) (by omega)
    have gx1 : GX G (aA (aO G 7 2) 100 n) := (GX_aO 7 2).trans (GX_aA 100 n)
    have gx2 : GX G (wR (aA (aO G 7 2) 100 n) (gN G) 1 (gN (aO G 7 2))) := GX_new gx1 (Nat.le_refl _)
    have gx3 : GX G (wR (wR (aA (aO G 7 2) 100 n) (gN G) 1 (gN (aO G 7 2))) 7 s (gN G)) := gx2.trans (GX_wR7 _ _)
    have o1 : gO (aO G 7 2) (gN G) 7 := ⟨by omega, by rw [aO_N]; omega, aO_T _ _ _⟩
    refine ⟨nI n, wR (wR (aA (aO G 7 2) 100 n) (gN G) 1 (gN (aO G 7 2))) 7 s (gN G), wN (wI (wN I1 (gN G)) (gN G) 0 y2) (gN (aO G 7 2)), _, ?_, XW.to' (YX10_sheet (gx3.SH hG) _ (nI s) y2 (nI n)) (by unfold sX10_sheet; rw [if_pos a1, if_pos a2, if_pos a3, if_pos a4]) rfl rfl, ?_, by rw [wR_N, wR_N, aA_N, aO_N]; omega, by rw [wR_S, wR_S, aA_S, aO_S]; omega, by rw [wR_N, wR_N, aA_N, aO_N]; omega, by rw [wR_S, wR_S, aA_S, aO_S]; omega⟩
    · show XW l C mX9_sheet 0 [some (.ref 2), some (.int (nI s)), some (.int y2), some (.int (nI n))] [] G I1 _ _ _
      refine XW.iload_n eX9_sheet_0 rfl ?_
      refine XW.callS (As := [.int (nI s)]) (st := []) eX9_sheet_1 okX9_isSheetNumber cs9_115 rfl hw (xnumG rfl rfl rfl rfl rfl (Nat.le_refl _) (Nat.le_refl _) (by rw [wR_N, wR_N, aA_N, aO_N]; omega) (by rw [wR_S, wR_S, aA_S, aO_S]; omega)) ?_
      refine XW.if_eqB eX9_sheet_4 (fun c => absurd a1 c) (fun _ => ?_)
      refine XW.iload_n eX9_sheet_7 rfl ?_
      refine XW.callS (As := [.int y2]) (st := []) eX9_sheet_8 okX9_isLane cs9_119 rfl hw2 (xnumG rfl rfl rfl rfl rfl (Nat.le_refl _) (Nat.le_refl _) (by rw [wR_N, wR_N, aA_N, aO_N]; omega) (by rw [wR_S, wR_S, aA_S, aO_S]; omega)) ?_
      refine XW.if_eqB eX9_sheet_11 (fun c => absurd a2 c) (fun _ => ?_)
      refine XW.iload_n eX9_sheet_14 rfl ?_
      refine XW.sipush (v := 160) eX9_sheet_15 (by decide) ?_
      refine XW.icmp_le eX9_sheet_18 (fun _ => ?_) (fun c => absurd a3 c)
      refine XW.iload_n eX9_sheet_23 rfl ?_
      refine XW.if_ge eX9_sheet_24 (fun _ => ?_) (fun c => absurd a4 c)
      refine XW.aload_n eX9_sheet_30 rfl ?_
      refine XW.getR (b := 7) eX9_sheet_31 f9_24_9 rfl (so_2 hG) (sr_2_2 hG) ?_
      refine XW.iload_n eX9_sheet_34 rfl ?_
      refine XW.new eX9_sheet_35 nw9_22 ⟨by rw [wR_N, wR_N, aA_N, aO_N]; omega, by rw [wR_S, wR_S, aA_S, aO_S]; omega⟩ ?_
      refine XW.dup eX9_sheet_38 rfl ?_
      refine XW.iload_n eX9_sheet_39 rfl ?_
      refine XW.iload_n eX9_sheet_40 rfl ?_
      refine XW.callI (As := [.int y2, .int (nI n)]) (st := [.ref (gN G), .int (nI s), .ref 7]) eX9_sheet_41 okX7_init ci9_122 rfl (by omega) (YX7_init o1 hn y2) (xnumG rfl rfl rfl rfl rfl (by rw [wR_N, aA_N]; omega) (by rw [wR_S, aA_S]; omega) (Nat.le_refl _) (Nat.le_refl _)) ?_
      refine XW.aastore (c := 7) eX9_sheet_44 (gx2.gA (sa_7 hG)) rfl (by decide) (vin_3 a1) ⟨by omega, by rw [wR_N, aA_N, aO_N]; omega, by rw [wR_T, aA_Tn _ _ _ (by rw [aO_N]; omega)]; exact aO_T _ _ _⟩ rfl (Or.inl rfl) ?_
      rw [ks]
      refine XW.iload_n eX9_sheet_45 rfl ?_
      exact XW.iret eX9_sheet_46 rfl rfl rfl rfl rfl
    · unfold tX10_sheet
      rw [if_pos a1, if_pos a2, if_pos a3, if_pos a4]
      unfold uX10_sheet
      rw [ks, aO_N]
      generalize hK : wN (wI (wN I1 (gN G)) (gN G) 0 y2) (gN G + 1) = K
      have ek : ∀ a, a < gN G → K a = I1 a := fun a ha => by rw [← hK, wN_ne _ (by omega), wI_ne _ _ _ (by omega), wN_ne _ (by omega)]
      have e1 : K (gN G) 0 = y2 := by rw [← hK, wN_ne _ (by omega), wI_same, upd_same]
      have e2 : K (gN G + 1) = fun _ => 0 := by rw [← hK, wN_at]
      have r7 : gR (wR (wR (aA (aO G 7 2) 100 n) (gN G) 1 (gN G + 1)) 7 s (gN G)) 7 s = gN G := wR_at _ _ _ _
      have rn : gR (wR (wR (aA (aO G 7 2) 100 n) (gN G) 1 (gN G + 1)) 7 s (gN G)) (gN G) 1 = gN G + 1 := by rw [wR_ne _ _ _ (by omega), wR_at]
      refine REL_sheet hrel gx3 hs (by rw [wR_ne _ _ _ (by decide), wR_ne _ _ _ (by omega), aA_Rn _ _ _ (by rw [aO_N]; omega), aO_Rn _ _ _ (by omega)]) (fun t ht => by rw [wR_k _ _ ht, wR_ne _ _ _ (by omega), aA_Rn _ _ _ (by rw [aO_N]; omega), aO_Rn _ _ _ (by omega)]) (fun _ => ?_) (fun a ha q1 q2 q3 => by rw [wA_ne _ _ q3, wI_ne _ _ _ q2, wI_ne _ _ _ q1, ek a ha]) (fun t _ ht => by rw [wA_ne _ _ (by decide), wI_ne _ _ _ (by decide), wI_same, upd_ne _ _ ht, ek 69 (by omega)]) (fun t _ ht => by rw [wA_ne _ _ (by decide), wI_same, upd_ne _ _ ht, wI_ne _ _ _ (by decide), ek 70 (by omega)]) (fun t _ ht i hi => by rw [wA_same]; unfold zr; rw [if_neg (by omega), ek 71 (by omega)]) ?_
      · rw [r7, rn]; omega
      · refine ⟨n, hn, by rw [wA_ne _ _ (by decide), wI_same, upd_same], Or.inr ?_⟩
        rw [r7, rn]
        refine ⟨h95, ⟨by omega, by rw [wR_N, wR_N, aA_N, aO_N]; omega, by rw [wR_T, wR_T, aA_Tn _ _ _ (by rw [aO_N]; omega)]; exact aO_T _ _ _⟩, by omega, ⟨by omega, by rw [wR_N, wR_N, aA_N, aO_N]; omega, by rw [wR_T, wR_T]; exact aA_T _ _ _, by rw [wR_L, wR_L]; exact aA_L _ _ _⟩, ?_, ?_, fun i hi => ?_⟩
        · rw [wA_ne _ _ (by omega), wI_ne _ _ _ (by omega), wI_ne _ _ _ (by omega), e1, wA_ne _ _ (by decide), wI_ne _ _ _ (by decide), wI_same, upd_same]
        · rw [wA_ne _ _ (by decide), wI_ne _ _ _ (by decide), wI_same, upd_same]
          exact a2
        · rw [wA_ne _ _ (by omega), wI_ne _ _ _ (by omega), wI_ne _ _ _ (by omega), e2, wA_same]
          unfold zr
          rw [if_pos (by omega)]
  · have ht : tX10_sheet I1 y1 y2 y3 = I1 := by
      unfold tX10_sheet
      split
      · split
        · split
          · split
            · exact absurd ⟨by assumption, by assumption, by assumption, by assumption⟩ hf
            · rfl
          · rfl
        · rfl
      · rfl
    refine ⟨sX10_sheet y1 y2 y3, G, I1, I1, ?_, XW.to' (YX10_sheet hG I1 y1 y2 y3) rfl rfl ht, hrel, Nat.le_refl _, Nat.le_refl _, by omega, by omega⟩
    show XW l C mX9_sheet 0 [some (.ref 2), some (.int y1), some (.int y2), some (.int y3)] [] G I1 _ G I1
    refine XW.iload_n eX9_sheet_0 rfl ?_
    refine XW.callS (As := [.int y1]) (st := []) eX9_sheet_1 okX9_isSheetNumber cs9_115 rfl hw (xnum rfl rfl rfl rfl rfl) ?_
    refine XW.if_eqB eX9_sheet_4 (fun a1 => ?_) (fun a1 => ?_)
    · refine XW.iconst (v := (-1)) eX9_sheet_21 (by decide) ?_
      exact XW.iret eX9_sheet_22 rfl rfl (by unfold sX10_sheet; rw [if_neg a1]) rfl rfl
    refine XW.iload_n eX9_sheet_7 rfl ?_
    refine XW.callS (As := [.int y2]) (st := []) eX9_sheet_8 okX9_isLane cs9_119 rfl hw2 (xnum rfl rfl rfl rfl rfl) ?_
    refine XW.if_eqB eX9_sheet_11 (fun a2 => ?_) (fun a2 => ?_)
    · refine XW.iconst (v := (-1)) eX9_sheet_21 (by decide) ?_
      exact XW.iret eX9_sheet_22 rfl rfl (by unfold sX10_sheet; rw [if_pos a1, if_neg a2]) rfl rfl
    refine XW.iload_n eX9_sheet_14 rfl ?_
    refine XW.sipush (v := 160) eX9_sheet_15 (by decide) ?_
    refine XW.icmp_le eX9_sheet_18 (fun a3 => ?_) (fun a3 => ?_)
    · refine XW.iload_n eX9_sheet_23 rfl ?_
      refine XW.if_ge eX9_sheet_24 (fun a4 => absurd ⟨a1, a2, a3, a4⟩ hf) (fun a4 => ?_)
      refine XW.bipush (v := (-14)) eX9_sheet_27 (by decide) ?_
      exact XW.iret eX9_sheet_29 rfl rfl (by unfold sX10_sheet; rw [if_pos a1, if_pos a2, if_pos a3, if_neg a4]) rfl rfl
    · refine XW.iconst (v := (-1)) eX9_sheet_21 (by decide) ?_
      exact XW.iret eX9_sheet_22 rfl rfl (by unfold sX10_sheet; rw [if_pos a1, if_pos a2, if_neg a3]) rfl rfl
end EQs2
