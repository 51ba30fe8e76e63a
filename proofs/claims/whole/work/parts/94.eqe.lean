/-! line alike, whole -/
section EQl2
variable {l : Launch} {C : xC} {G G1 G' : xG} {I I' : xI} {r : Option Value}
theorem EQ_mk {kx km : xM} {As : List Value} {v : Int32} {I1 : xI} (hc : XW l C kx 0 (xent kx (.ref 2 :: As)) [] G I (some (.int v)) G1 I1) (hm : XF fI l C km 0 (xent km (.ref 69 :: As)) [] G1 I1 (fun w I2 => w = v ∧ REL G1 I2)) (h1 : gN G ≤ gN G1) (h2 : gS G ≤ gS G1) (h3 : gN G1 ≤ gN G + 2) (h4 : gS G1 ≤ gS G + 165) : EQ l C kx km As G I := by
  obtain ⟨w, I2, hw, rfl, hr⟩ := hm
  exact ⟨w, G1, I1, I2, hc, hw, hr, h1, h2, h3, h4⟩
theorem Lline0 (hG : SH G) {k : Nat} (hk : k ≤ 2) (y2 : Int32) (h12 : 0 ≤ y2 ∧ y2 ≤ 12) (hN : gN G ≤ gN G') (hS : gS G ≤ gS G') (kk : XW l C mX9_line 31 [some (.ref 2), some (.int (nI k)), some (.int y2), some (.int (nI (if k = 0 then 0 else 1)))] [] G I r G' I') : XW l C mX9_line 0 (xent mX9_line [.ref 2, .int (nI k), .int y2]) [] G I r G' I' := by
  have h02 : 0 ≤ nI k ∧ nI k ≤ 2 := ⟨nI_pos' (by omega), nI_le (b := 2) hk (by omega)⟩
  obtain ⟨v, I0, hw, rfl, rfl⟩ := Zwithin (l := l) (C := C) hG I (nI k) 0 2
  obtain ⟨v, I1, hw2, rfl, rfl⟩ := Zwithin (l := l) (C := C) hG I0 y2 0 12
  show XW l C mX9_line 0 [some (.ref 2), some (.int (nI k)), some (.int y2), none] [] G I1 _ _ _
  refine XW.iload_n eX9_line_0 rfl ?_
  refine XW.iconst (v := 0) eX9_line_1 (by decide) ?_
  refine XW.iconst (v := 2) eX9_line_2 (by decide) ?_
  refine XW.callS (As := [.int (nI k), .int 0, .int 2]) (st := []) eX9_line_3 okX9_isWithin cs9_53 rfl hw (xnumG rfl rfl rfl rfl rfl (Nat.le_refl _) (Nat.le_refl _) hN hS) ?_
  refine XW.if_eqB eX9_line_6 (fun c => absurd h02 c) (fun _ => ?_)
  refine XW.iload_n eX9_line_9 rfl ?_
  refine XW.iconst (v := 0) eX9_line_10 (by decide) ?_
  refine XW.bipush (v := 12) eX9_line_11 (by decide) ?_
  refine XW.callS (As := [.int y2, .int 0, .int 12]) (st := []) eX9_line_13 okX9_isWithin cs9_53 rfl hw2 (xnumG rfl rfl rfl rfl rfl (Nat.le_refl _) (Nat.le_refl _) hN hS) ?_
  refine XW.if_neB eX9_line_16 (fun _ => ?_) (fun c => absurd h12 c)
  refine XW.iload_n eX9_line_21 rfl ?_
  refine XW.if_ne eX9_line_22 (fun c => ?_) (fun c => ?_)
  · have : k ≠ 0 := fun e => c (by rw [e, nI_0])
    rw [if_neg this] at kk
    refine XW.iconst (v := 1) eX9_line_29 (by decide) ?_
    exact XW.istore_n eX9_line_30 (Nat.le_of_ble_eq_true rfl) rfl kk
  · have : k = 0 := (nI_eq (by omega) (by omega)).mp (c.trans nI_0.symm)
    rw [if_pos this] at kk
    refine XW.iconst (v := 0) eX9_line_25 (by decide) ?_
    refine XW.goto eX9_line_26 ?_
    exact XW.istore_n eX9_line_30 (Nat.le_of_ble_eq_true rfl) rfl kk
theorem Lline1 (hG : SH G) {D : aE} (hL : RLn G I D) {y1 y2 : Int32} {b : Nat} (hb : b ≤ 1) (hN : gN G ≤ gN G') (hS : gS G ≤ gS G') (k1 : psum D (D 0 0) + b ≤ D 0 1 → XW l C mX9_line 53 [some (.ref 2), some (.int y1), some (.int y2), some (.int (nI b))] [] G I r G' I') (k2 : ¬ psum D (D 0 0) + b ≤ D 0 1 → r = some (.int (-2)) ∧ G' = G ∧ I' = I) : XW l C mX9_line 31 [some (.ref 2), some (.int y1), some (.int y2), some (.int (nI b))] [] G I r G' I' := by
  obtain ⟨a1, a2, a3, a4, a5, a6, a7, a8⟩ := id hL
  have hp48 := psum_48 (D := D) (D 0 0) (fun j hj => (a4 j hj).2.2.2.2.1)
  obtain ⟨v, I0, hw, rfl, rfl⟩ := ZpartsD (l := l) (C := C) hG hL
  refine XW.aload_n eX9_line_31 rfl ?_
  refine XW.getR (b := 3) eX9_line_32 f9_10_9 rfl (so_2 hG) (sr_2_0 hG) ?_
  refine XW.callV (As := []) (st := []) eX9_line_35 okX6_partsTogether cv9_57 rfl (so_3 hG) hw (xnumG rfl rfl rfl rfl rfl (Nat.le_refl _) (Nat.le_refl _) hN hS) ?_
  refine XW.iload_n eX9_line_38 rfl ?_
  refine XW.iadd eX9_line_39 ?_
  rw [nI_add]
  refine XW.aload_n eX9_line_40 rfl ?_
  refine XW.getR (b := 3) eX9_line_41 f9_10_9 rfl (so_2 hG) (sr_2_0 hG) ?_
  refine XW.getI eX9_line_44 f9_61_6 rfl (so_3 hG) ?_
  rw [a3.2.1]
  refine XW.icmp_le eX9_line_47 (fun c => k1 ((nI_leI (by omega) (by omega)).mp c)) (fun c => ?_)
  obtain ⟨e1, e2, e3⟩ := k2 (fun q => c (nI_le q (by omega)))
  refine XW.bipush (v := (-2)) eX9_line_50 (by decide) ?_
  exact XW.iret eX9_line_52 rfl rfl e1 e2 e3
theorem ml_eq {K : xI} {n : Nat} {y1 y2 : Int32} (hn : K 69 1 = nI n) (h4 : n < 4) : wI (wI (wI (wI (wI (wI (wI (wI K 70 (K 69 1).toNatClampNeg y1) 71 (K 69 1).toNatClampNeg y2) 72 (K 69 1).toNatClampNeg 1) 73 (K 69 1).toNatClampNeg 1) 74 (K 69 1).toNatClampNeg 2) 75 (K 69 1).toNatClampNeg 1) 76 (K 69 1).toNatClampNeg 1) 69 1 ((K 69 1) + 1) = fun x => if x = 69 then upd (K 69) 1 (nI (n + 1)) else if x = 70 then upd (K 70) n y1 else if x = 71 then upd (K 71) n y2 else if x = 72 then upd (K 72) n 1 else if x = 73 then upd (K 73) n 1 else if x = 74 then upd (K 74) n 2 else if x = 75 then upd (K 75) n 1 else if x = 76 then upd (K 76) n 1 else K x := by
  rw [hn, nI_clamp (by omega), nI_1]
  funext x
  unfold wI
  by_cases h1 : x = 69
  · subst h1; simp
  by_cases h2 : x = 70
  · subst h2; simp
  by_cases h3 : x = 71
  · subst h3; simp
  by_cases h4 : x = 72
  · subst h4; simp
  by_cases h5 : x = 73
  · subst h5; simp
  by_cases h6 : x = 74
  · subst h6; simp
  by_cases h7 : x = 75
  · subst h7; simp
  by_cases h8 : x = 76
  · subst h8; simp
  simp [h1, h2, h3, h4, h5, h6, h7, h8]
set_option maxHeartbeats 4000000 in
theorem EQ_line (h : REL G I) (y1 y2 : Int32) : EQ l C mX9_line mX10_line [.int y1, .int y2] G I := by
  have hrel := h
  obtain ⟨hG, D, hL, hR, hT, hN, hV, hQ⟩ := h
  have h95 := hG.1
  obtain ⟨a1, a2, a3, a4, a5, a6, a7, a8⟩ := id hL
  have hp48 := psum_48 (D := D) (D 0 0) (fun j hj => (a4 j hj).2.2.2.2.1)
  by_cases c1 : 0 ≤ y1 ∧ y1 ≤ 2
  rotate_left
  · obtain ⟨v, I0, hw, rfl, rfl⟩ := Zwithin (l := l) (C := C) hG I y1 0 2
    refine EQ_mk (v := -1) (G1 := G) (I1 := I0) ?_ (VX10_line hG I0 y1 y2 ⟨_, XF.of (YX10_in I0 y1 0 2), ?_⟩) (Nat.le_refl _) (Nat.le_refl _) (by omega) (by omega)
    · show XW l C mX9_line 0 [some (.ref 2), some (.int y1), some (.int y2), none] [] G I0 _ _ _
      refine XW.iload_n eX9_line_0 rfl ?_
      refine XW.iconst (v := 0) eX9_line_1 (by decide) ?_
      refine XW.iconst (v := 2) eX9_line_2 (by decide) ?_
      refine XW.callS (As := [.int y1, .int 0, .int 2]) (st := []) eX9_line_3 okX9_isWithin cs9_53 rfl hw (xnum rfl rfl rfl rfl rfl) ?_
      refine XW.if_eqB eX9_line_6 (fun _ => ?_) (fun c => absurd c c1)
      refine XW.iconst (v := (-1)) eX9_line_19 (by decide) ?_
      exact XW.iret eX9_line_20 rfl rfl rfl rfl rfl
    · rintro v I' ⟨rfl, rfl⟩
      exact bI_split (fun _ => ⟨rfl, hrel⟩) (fun z => absurd z c1)
  obtain ⟨k, -, hk, rfl⟩ := in_of (lo := 0) (hi := 2) (by decide) (by exact c1) (by omega)
  by_cases c2 : 0 ≤ y2 ∧ y2 ≤ 12
  rotate_left
  · obtain ⟨v, I0, hw, rfl, rfl⟩ := Zwithin (l := l) (C := C) hG I (nI k) 0 2
    obtain ⟨v, I1, hw2, rfl, rfl⟩ := Zwithin (l := l) (C := C) hG I0 y2 0 12
    refine EQ_mk (v := -1) (G1 := G) (I1 := I1) ?_ (VX10_line hG I1 (nI k) y2 ⟨_, XF.of (YX10_in I1 (nI k) 0 2), ?_⟩) (Nat.le_refl _) (Nat.le_refl _) (by omega) (by omega)
    · show XW l C mX9_line 0 [some (.ref 2), some (.int (nI k)), some (.int y2), none] [] G I1 _ _ _
      refine XW.iload_n eX9_line_0 rfl ?_
      refine XW.iconst (v := 0) eX9_line_1 (by decide) ?_
      refine XW.iconst (v := 2) eX9_line_2 (by decide) ?_
      refine XW.callS (As := [.int (nI k), .int 0, .int 2]) (st := []) eX9_line_3 okX9_isWithin cs9_53 rfl hw (xnum rfl rfl rfl rfl rfl) ?_
      refine XW.if_eqB eX9_line_6 (fun c => absurd c1 c) (fun _ => ?_)
      refine XW.iload_n eX9_line_9 rfl ?_
      refine XW.iconst (v := 0) eX9_line_10 (by decide) ?_
      refine XW.bipush (v := 12) eX9_line_11 (by decide) ?_
      refine XW.callS (As := [.int y2, .int 0, .int 12]) (st := []) eX9_line_13 okX9_isWithin cs9_53 rfl hw2 (xnum rfl rfl rfl rfl rfl) ?_
      refine XW.if_neB eX9_line_16 (fun c => absurd c c2) (fun _ => ?_)
      refine XW.iconst (v := (-1)) eX9_line_19 (by decide) ?_
      exact XW.iret eX9_line_20 rfl rfl rfl rfl rfl
    · rintro v I' ⟨rfl, rfl⟩
      refine bI_split (fun z => absurd c1 z) (fun _ => ⟨_, XF.of (YX10_in I' y2 0 12), ?_⟩)
      rintro v I' ⟨rfl, rfl⟩
      exact bI_split (fun _ => ⟨rfl, hrel⟩) (fun z => absurd z c2)
  obtain ⟨m, -, hm, rfl⟩ := in_of (lo := 0) (hi := 12) (by decide) (by exact c2) (by omega)
  have hb1 : (if k = 0 then 0 else 1) ≤ 1 := by split <;> omega
  -- the reference from behind its checks
  have mid : ∀ (G1 : xG) (K : xI) (Q : Int32 → xI → Prop), SH G1 → K 69 = I 69 → (∀ a, 70 ≤ a → a ≤ 76 → K a = I a) → (psum D (D 0 0) + (if k = 0 then 0 else 1) ≤ D 0 1 → ((D 0 0 = 4 → Q (-3) K) ∧ (D 0 0 ≠ 4 → Q (nI (D 0 0)) (fun x => if x = 69 then upd (K 69) 1 (nI (D 0 0 + 1)) else if x = 70 then upd (K 70) (D 0 0) (nI k) else if x = 71 then upd (K 71) (D 0 0) (nI m) else if x = 72 then upd (K 72) (D 0 0) 1 else if x = 73 then upd (K 73) (D 0 0) 1 else if x = 74 then upd (K 74) (D 0 0) 2 else if x = 75 then upd (K 75) (D 0 0) 1 else if x = 76 then upd (K 76) (D 0 0) 1 else K x)))) → (¬ psum D (D 0 0) + (if k = 0 then 0 else 1) ≤ D 0 1 → Q (-2) K) → XF fI l C mX10_line 0 (xent mX10_line [.ref 69, .int (nI k), .int (nI m)]) [] G1 K Q := by
    intro G1 K Q hG1 k61 kM q1 q2
    have hK1 : K 69 1 = nI (D 0 0) := by rw [k61]; exact a2.1
    have hK0 : K 69 0 = nI (D 0 1) := by rw [k61]; exact a2.2.1
    have tail : psum D (D 0 0) + (if k = 0 then 0 else 1) ≤ D 0 1 → (((K 69 1) = 4 → Q (-3) K) ∧ (¬ ((K 69 1) = 4) → vp_in (K 69 1) 4 ∧ Q (((K 69 1) + 1) - 1) (wI (wI (wI (wI (wI (wI (wI (wI K 70 (K 69 1).toNatClampNeg (nI k)) 71 (K 69 1).toNatClampNeg (nI m)) 72 (K 69 1).toNatClampNeg 1) 73 (K 69 1).toNatClampNeg 1) 74 (K 69 1).toNatClampNeg 2) 75 (K 69 1).toNatClampNeg 1) 76 (K 69 1).toNatClampNeg 1) 69 1 ((K 69 1) + 1)))) := by
      intro hp
      refine pk_eq (D 0 0) 4 (q1 hp).1 (fun hne => ?_) hK1 rfl
      rw [ml_eq hK1 (by omega), hK1, nI_1, nI_pred]
      exact ⟨vp_in_nI (by omega) (by decide), (q1 hp).2 hne⟩
    refine VX10_line hG1 K (nI k) (nI m) ⟨_, XF.of (YX10_in K (nI k) 0 2), ?_⟩
    rintro v I' ⟨rfl, rfl⟩
    refine bI_split (fun z => absurd c1 z) (fun _ => ⟨_, XF.of (YX10_in I' (nI m) 0 12), ?_⟩)
    rintro v I'' ⟨rfl, rfl⟩
    refine bI_split (fun z => absurd c2 z) (fun _ => ?_)
    refine pk_le k 0 (fun hle => ?_) (fun hlt => ?_)
    · have : k = 0 := by omega
      exact tail (by rw [if_pos this]; exact a8)
    · refine ⟨_, XF.of (YX10_allParts hG1 I'' hK1 a1.2.1), ?_⟩
      rintro v I3 ⟨rfl, rfl⟩
      have e : mParts I3 (D 0 0) = nI (psum D (D 0 0)) := mparts_eq (fun j hj => ⟨(a4 j hj).1, (a4 j hj).2.2.2.2.1⟩) (fun j hj => ⟨by rw [kM 70 (by decide) (by decide)]; exact (a5 j hj).1, by rw [kM 73 (by decide) (by decide)]; exact (a5 j hj).2.2.2.1⟩)
      rw [e, nI_1, hK0]
      have hne : ¬ k = 0 := by omega
      rw [if_neg hne] at q2 tail
      exact pk_le (psum D (D 0 0) + 1) (D 0 1) tail (fun hlt => q2 (by omega))
  by_cases c3 : psum D (D 0 0) + (if k = 0 then 0 else 1) ≤ D 0 1
  rotate_left
  · refine EQ_mk (v := -2) (G1 := G) (I1 := I) (Lline0 hG hk (nI m) c2 (Nat.le_refl _) (Nat.le_refl _) (Lline1 hG hL hb1 (Nat.le_refl _) (Nat.le_refl _) (fun q => absurd q c3) (fun _ => ⟨rfl, rfl, rfl⟩))) (mid G I _ hG rfl (fun _ _ _ => rfl) (fun q => absurd q c3) (fun _ => ⟨rfl, hrel⟩)) (Nat.le_refl _) (Nat.le_refl _) (by omega) (by omega)
  by_cases c4 : D 0 0 = 4
  · refine EQ_mk (v := -3) (G1 := G) (I1 := I) (Lline0 hG hk (nI m) c2 (Nat.le_refl _) (Nat.le_refl _) (Lline1 hG hL hb1 (Nat.le_refl _) (Nat.le_refl _) (fun _ => ?_) (fun q => absurd c3 q))) (mid G I _ hG rfl (fun _ _ _ => rfl) (fun _ => ⟨fun _ => ⟨rfl, hrel⟩, fun q => absurd c4 q⟩) (fun q => absurd c3 q)) (Nat.le_refl _) (Nat.le_refl _) (by omega) (by omega)
    refine XW.aload_n eX9_line_53 rfl ?_
    refine XW.getR (b := 3) eX9_line_54 f9_10_9 rfl (so_2 hG) (sr_2_0 hG) ?_
    refine XW.getI eX9_line_57 f9_66_6 rfl (so_3 hG) ?_
    rw [a3.1, c4]
    refine XW.iconst (v := 4) eX9_line_60 (by decide) ?_
    refine XW.icmp_lt eX9_line_61 (fun c => absurd c (by decide)) (fun _ => ?_)
    refine XW.bipush (v := (-3)) eX9_line_64 (by decide) ?_
    exact XW.iret eX9_line_66 rfl rfl rfl rfl rfl
  · have hn4 : D 0 0 < 4 := by omega
    obtain ⟨I1, w1, w2, w3, w4, w5, w6⟩ := ZnewLine (l := l) (C := C) (I := I) h95 hk (nI m)
    have gx : GX G (aO G (kc k) (kn k)) := GX_aO _ _
    have gx2 : GX G (wR (aO G (kc k) (kn k)) 4 (D 0 0) (gN G)) := gx.trans (GX_wR4 _ _)
    have hkn : kn k ≤ 6 := by unfold kn; split; omega; split <;> omega
    have o1 : gO (aO G (kc k) (kn k)) (gN G) (kc k) := ⟨by omega, by rw [aO_N]; omega, aO_T _ _ _⟩
    have e31 : I1 3 1 = nI (D 0 0) := by rw [w2 3 (by omega)]; exact a3.1
    have hadd : XW l C mX6_addLine 0 (xent mX6_addLine [.ref 3, .ref (gN G)]) [] (aO G (kc k) (kn k)) I1 (some (.int (nI (D 0 0)))) (wR (aO G (kc k) (kn k)) 4 (D 0 0) (gN G)) (wI I1 3 1 (nI (D 0 0 + 1))) := by
      rcases (show k = 0 ∨ k = 1 ∨ k = 2 by omega) with rfl | rfl | rfl
      · exact ZaddLine (c := 2) (gx.SH hG) o1 rfl (Or.inl rfl) e31 hn4
      · exact ZaddLine (c := 8) (gx.SH hG) o1 rfl (Or.inr (by decide)) e31 hn4
      · exact ZaddLine (c := 1) (gx.SH hG) o1 rfl (Or.inr (by decide)) e31 hn4
    have bN : gN G ≤ gN (wR (aO G (kc k) (kn k)) 4 (D 0 0) (gN G)) := by rw [wR_N, aO_N]; omega
    have bS : gS G ≤ gS (wR (aO G (kc k) (kn k)) 4 (D 0 0) (gN G)) := by rw [wR_S, aO_S]; omega
    refine EQ_mk (v := nI (D 0 0)) (G1 := wR (aO G (kc k) (kn k)) 4 (D 0 0) (gN G)) (I1 := wI I1 3 1 (nI (D 0 0 + 1))) (Lline0 hG hk (nI m) c2 bN bS (Lline1 hG hL hb1 bN bS (fun _ => ?_) (fun q => absurd c3 q))) (mid _ _ _ (gx2.SH hG) (by rw [wI_ne _ _ _ (by decide), w2 69 (by omega)]) (fun a z1 z2 => by rw [wI_ne _ _ _ (by omega), w2 a (by omega)]) (fun _ => ⟨fun q => absurd q c4, fun _ => ⟨rfl, ?_⟩⟩) (fun q => absurd c3 q)) bN bS (by rw [wR_N, aO_N]; omega) (by rw [wR_S, aO_S]; omega)
    · refine XW.aload_n eX9_line_53 rfl ?_
      refine XW.getR (b := 3) eX9_line_54 f9_10_9 rfl (so_2 hG) (sr_2_0 hG) ?_
      refine XW.getI eX9_line_57 f9_66_6 rfl (so_3 hG) ?_
      rw [a3.1]
      refine XW.iconst (v := 4) eX9_line_60 (by decide) ?_
      refine XW.icmp_lt eX9_line_61 (fun _ => ?_) (fun c => absurd (nI_lt (b := 4) hn4 (by omega)) c)
      refine XW.aload_n eX9_line_67 rfl ?_
      refine XW.getR (b := 3) eX9_line_68 f9_10_9 rfl (so_2 hG) (sr_2_0 hG) ?_
      refine XW.iload_n eX9_line_71 rfl ?_
      refine XW.iload_n eX9_line_72 rfl ?_
      refine XW.callS (As := [.int (nI k), .int (nI m)]) (st := [.ref 3]) eX9_line_73 okX9_newLine cs9_69 rfl w1 (xnumG rfl rfl rfl rfl rfl (by rw [aO_N]; omega) (by rw [aO_S]; omega) (Nat.le_refl _) (Nat.le_refl _)) ?_
      refine XW.callV (As := [.ref (gN G)]) (st := []) eX9_line_76 okX6_addLine cv9_73 rfl (gx.gO (so_3 hG)) hadd (xnumG rfl rfl rfl rfl rfl (Nat.le_refl _) (Nat.le_refl _) (Nat.le_refl _) (Nat.le_refl _)) ?_
      exact XW.iret eX9_line_79 rfl rfl rfl rfl rfl
    · generalize hK : wI I1 3 1 (nI (D 0 0 + 1)) = K
      have ek : ∀ x, x ≠ 3 → x ≠ gN G → K x = I x := fun x z1 z2 => by rw [← hK, wI_ne _ _ _ z1, w2 x z2]
      have ekn : K (gN G) = I1 (gN G) := by rw [← hK, wI_ne _ _ _ (by omega)]
      have ek3 : K 3 = upd (I 3) 1 (nI (D 0 0 + 1)) := by rw [← hK, wI_same, w2 3 (by omega)]
      have big : ∀ (A B : Nat → Int32) (x : Nat), (x = 3 ∨ 76 < x ∨ x < 69) → (if x = 69 then A else if x = 70 then upd (K 70) (D 0 0) (nI k) else if x = 71 then upd (K 71) (D 0 0) (nI m) else if x = 72 then upd (K 72) (D 0 0) 1 else if x = 73 then upd (K 73) (D 0 0) 1 else if x = 74 then upd (K 74) (D 0 0) 2 else if x = 75 then upd (K 75) (D 0 0) 1 else if x = 76 then upd (K 76) (D 0 0) 1 else B) = B := fun A B x hx => by
        rw [if_neg (by omega), if_neg (by omega), if_neg (by omega), if_neg (by omega), if_neg (by omega), if_neg (by omega), if_neg (by omega), if_neg (by omega)]
      refine REL_addline hrel hL hR hk hm hn4 c3 ?_ ?_ ?_ ?_ ?_ ?_ ?_ ?_ ?_ (fun x z1 z2 z3 => ?_) ?_ ?_ (fun q => ?_) (fun q => ?_)
      · show K 3 = _; exact ek3
      · show upd (K 69) _ _ = _; rw [ek 69 (by decide) (by omega)]
      · show upd (K 70) _ _ = _; rw [ek 70 (by decide) (by omega)]
      · show upd (K 71) _ _ = _; rw [ek 71 (by decide) (by omega)]
      · show upd (K 72) _ _ = _; rw [ek 72 (by decide) (by omega)]
      · show upd (K 73) _ _ = _; rw [ek 73 (by decide) (by omega)]
      · show upd (K 74) _ _ = _; rw [ek 74 (by decide) (by omega)]
      · show upd (K 75) _ _ = _; rw [ek 75 (by decide) (by omega)]
      · show upd (K 76) _ _ = _; rw [ek 76 (by decide) (by omega)]
      · exact (big _ _ x (by omega)).trans (ek x z2 (by omega))
      · rw [big _ _ _ (by omega), ekn]; exact w3
      · rw [big _ _ _ (by omega), ekn]; exact w4
      · rw [big _ _ _ (by omega), ekn]; exact w5 q
      · rw [big _ _ _ (by omega), ekn]; exact w6 q
end EQl2
