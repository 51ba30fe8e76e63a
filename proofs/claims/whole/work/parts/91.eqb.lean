/-! new cells: what stands, stands; drop, sheet alike -/
section GXs
variable {l : Launch} {C : xC} {G G1 : xG} {I I' : xI}
def GX (G G1 : xG) : Prop := gN G ≤ gN G1 ∧ ∀ a, a < gN G → gT G1 a = gT G a ∧ gL G1 a = gL G a ∧ (a ≠ 4 → a ≠ 7 → gR G1 a = gR G a)
theorem GX.rfl' : GX G G := ⟨Nat.le_refl _, fun _ _ => ⟨rfl, rfl, fun _ _ => rfl⟩⟩
theorem wR_N (G : xG) (a k b : Nat) : gN (wR G a k b) = gN G := rfl
theorem wR_S (G : xG) (a k b : Nat) : gS (wR G a k b) = gS G := rfl
theorem wR_T (G : xG) (a k b x : Nat) : gT (wR G a k b) x = gT G x := rfl
theorem wR_L (G : xG) (a k b x : Nat) : gL (wR G a k b) x = gL G x := rfl
theorem wR_ne (G : xG) {a x : Nat} (k b : Nat) (h : x ≠ a) : gR (wR G a k b) x = gR G x := by funext j; simp [gR, wR, h]
theorem wR_at (G : xG) (a k b : Nat) : gR (wR G a k b) a k = b := by simp [gR, wR]
theorem wR_k (G : xG) {a k j : Nat} (b : Nat) (h : j ≠ k) : gR (wR G a k b) a j = gR G a j := by simp [gR, wR, h]
theorem GX.SH (hx : GX G G1) (h : SH G) : SH G1 := ⟨Nat.le_trans h.1 hx.1, fun a ha => by
  obtain ⟨x1, x2, x3⟩ := hx.2 a (Nat.lt_of_lt_of_le ha h.1)
  obtain ⟨y1, y2, y3⟩ := h.2 a ha
  exact ⟨x1.trans y1, x2.trans y2, fun z1 z2 k => by rw [x3 z1 z2]; exact y3 z1 z2 k⟩⟩
theorem GX.gO (hx : GX G G1) {a c : Nat} (h : gO G a c) : gO G1 a c := ⟨h.1, Nat.lt_of_lt_of_le h.2.1 hx.1, (hx.2 a h.2.1).1.trans h.2.2⟩
theorem GX.gA (hx : GX G G1) {a t n : Nat} (h : gA G a t n) : gA G1 a t n := ⟨h.1, Nat.lt_of_lt_of_le h.2.1 hx.1, (hx.2 a h.2.1).1.trans h.2.2.1, (hx.2 a h.2.1).2.1.trans h.2.2.2⟩
theorem LN_N {a : Nat} (h : LN G a) : a < gN G := by rcases h with h | h | h <;> exact h.2.1
theorem GX.LN (hx : GX G G1) {a : Nat} (h : LN G a) : LN G1 a := by
  rcases h with h | h | h
  · exact Or.inl (hx.gO h)
  · exact Or.inr (Or.inl (hx.gO h))
  · exact Or.inr (Or.inr (hx.gO h))
theorem RLn_G {D : aE} (hx : GX G G1) (h4 : ∀ j, j < D 0 0 → gR G1 4 j = gR G 4 j) (h : RLn G I D) : RLn G1 I D := by
  obtain ⟨a1, a2, a3, a4, a5, a6, a7, a8⟩ := h
  refine ⟨a1, a2, a3, a4, a5, fun j hj => ?_, fun i j hi hj e => a7 i j hi hj (by rw [← h4 i hi, ← h4 j hj]; exact e), a8⟩
  obtain ⟨b1, b2, b3⟩ := a6 j hj
  rw [h4 j hj, (hx.2 _ (LN_N b1)).1]
  exact ⟨hx.LN b1, b2, b3⟩
theorem RT1_G {s : Nat} (hG : SH G) (hx : GX G G1) (h7 : gR G1 7 s = gR G 7 s) (h : RT1 G I s) : RT1 G1 I s := by
  obtain ⟨z, z1, z2, z3⟩ := h
  refine ⟨z, z1, z2, ?_⟩
  rw [h7]
  rcases z3 with z3 | ⟨b1, b2, b3, b4, b5⟩
  · exact Or.inl z3
  · have e : gR G1 (gR G 7 s) = gR G (gR G 7 s) := (hx.2 _ b2.2.1).2.2 (by omega) (by omega)
    rw [e]
    exact Or.inr ⟨b1, hx.gO b2, b3, hx.gA b4, b5⟩
theorem RT1_cell {s : Nat} (h : RT1 G I s) (hn : gR G 7 s ≠ 0) : gR G 7 s < gN G ∧ gR G (gR G 7 s) 1 < gN G ∧ 95 ≤ gR G 7 s ∧ 95 ≤ gR G (gR G 7 s) 1 := by
  obtain ⟨z, -, -, c3, c4, c5, c6, -⟩ := RT1_some h hn
  exact ⟨c4.2.1, c6.2.1, c3, c5⟩
/-- numbers in cells that are not yet made don't matter -/
theorem RLn_low {D : aE} (h : RLn G I D) (hG : SH G) (he : ∀ a, a < gN G → I' a = I a) : RLn G I' D := by
  have h95 := hG.1
  exact RLn_ext h (he 3 (by omega)) (fun a _ hl => he a (LN_N hl)) (fun i _ => by rw [he 61 (by omega)]) (fun a _ _ => he a (by omega))
theorem RT1_low {s : Nat} (h : RT1 G I s) (hG : SH G) (he : ∀ a, a < gN G → I' a = I a) : RT1 G I' s := by
  have h95 := hG.1
  obtain ⟨z, z1, z2, z3⟩ := h
  refine ⟨z, z1, by rw [he 70 (by omega)]; exact z2, ?_⟩
  rcases z3 with z3 | ⟨b1, b2, b3, b4, b5, b6, b7⟩
  · exact Or.inl (by rw [he 69 (by omega)]; exact z3)
  · rw [he 69 (by omega), he 71 (by omega), he _ b2.2.1, he _ b4.2.1]
    exact Or.inr ⟨b1, b2, b3, b4, b5, b6, b7⟩
theorem GX_wR7 (s b : Nat) : GX G (wR G 7 s b) := ⟨Nat.le_refl _, fun a _ => ⟨rfl, rfl, fun _ h => wR_ne G s b h⟩⟩
theorem GX_wR4 (s b : Nat) : GX G (wR G 4 s b) := ⟨Nat.le_refl _, fun a _ => ⟨rfl, rfl, fun h _ => wR_ne G s b h⟩⟩
theorem GX.trans {G2 : xG} (h : GX G G1) (h2 : GX G1 G2) : GX G G2 := ⟨Nat.le_trans h.1 h2.1, fun a ha => by
  obtain ⟨x1, x2, x3⟩ := h.2 a ha
  obtain ⟨y1, y2, y3⟩ := h2.2 a (Nat.lt_of_lt_of_le ha h.1)
  exact ⟨y1.trans x1, y2.trans x2, fun z1 z2 => (y3 z1 z2).trans (x3 z1 z2)⟩⟩
theorem GX_aO (c n : Nat) : GX G (aO G c n) := ⟨by rw [aO_N]; omega, fun a ha => ⟨aO_Tn G c n (by omega), rfl, fun _ _ => aO_Rn G c n (by omega)⟩⟩
theorem GX_aA (c n : Nat) : GX G (aA G c n) := ⟨by rw [aA_N]; omega, fun a ha => ⟨aA_Tn G c n (by omega), aA_Ln G c n (by omega), fun _ _ => aA_Rn G c n (by omega)⟩⟩
theorem GX_new {x k b : Nat} (hx : GX G G1) (h : gN G ≤ x) : GX G (wR G1 x k b) := ⟨hx.1, fun a ha => ⟨(hx.2 a ha).1, (hx.2 a ha).2.1, fun z1 z2 => by rw [wR_ne _ _ _ (by omega)]; exact (hx.2 a ha).2.2 z1 z2⟩⟩
/-- one sheet is set anew -/
theorem REL_sheet (h : REL G I) (hx : GX G G1) {s : Nat} (hs : s < 4) (h4 : gR G1 4 = gR G 4) (h7 : ∀ t, t ≠ s → gR G1 7 t = gR G 7 t) (hn : gR G1 7 s ≠ 0 → gN G ≤ gR G1 (gR G1 7 s) 1) (he : ∀ a, a < gN G → a ≠ 69 → a ≠ 70 → a ≠ 71 → I' a = I a) (h69 : ∀ t, t < 4 → t ≠ s → I' 69 t = I 69 t) (h70 : ∀ t, t < 4 → t ≠ s → I' 70 t = I 70 t) (h71 : ∀ t, t < 4 → t ≠ s → ∀ i, i < 160 → I' 71 (160 * t + i) = I 71 (160 * t + i)) (h1 : RT1 G1 I' s) : REL G1 I' := by
  obtain ⟨hG, D, hL, hR, hT, hN, hV, hQ⟩ := h
  have h95 := hG.1
  have lo : ∀ a, a < 95 → a ≠ 69 → a ≠ 70 → a ≠ 71 → I' a = I a := fun a ha => he a (by omega)
  refine ⟨hx.SH hG, D, RLn_G hx (fun j _ => by rw [h4]) (RLn_ext hL (lo 3 (by decide) (by decide) (by decide) (by decide)) (fun a q1 q2 => he a (LN_N q2) (by omega) (by omega) (by omega)) (fun i _ => by rw [lo 61 (by decide) (by decide) (by decide) (by decide)]) (fun a q1 q2 => lo a (by omega) (by omega) (by omega) (by omega))), RRw_ext hR (fun a ha => lo a (by omega) (by omega) (by omega) (by omega)), ⟨fun t ht => ?_, fun t u ht hu htu e1 e2 => ?_⟩, RN_ext hN (by rw [lo 2 (by decide) (by decide) (by decide) (by decide)]) (fun a ha => lo a (by omega) (by omega) (by omega) (by omega)) (fun i _ => by rw [lo 61 (by decide) (by decide) (by decide) (by decide)]) (fun a q1 q2 => lo a (by omega) (by omega) (by omega) (by omega)), by rw [lo 2 (by decide) (by decide) (by decide) (by decide), lo 61 (by decide) (by decide) (by decide) (by decide)]; exact hV, RQ0_ext hQ (fun a ha => lo a (by omega) (by omega) (by omega) (by omega))⟩
  · by_cases e : t = s
    · subst e; exact h1
    · have hb := RT1_G hG hx (h7 t e) (hT.1 t ht)
      have r := hT.1 t ht
      obtain ⟨z, z1, z2, z3⟩ := hb
      refine ⟨z, z1, by rw [h70 t ht e]; exact z2, ?_⟩
      rw [h7 t e] at z3 ⊢
      rw [h69 t ht e]
      rcases z3 with z3 | ⟨b1, b2, b3, b4, b5, b6, b7⟩
      · exact Or.inl z3
      · have c := RT1_cell r (by omega)
        have ee : gR G1 (gR G 7 t) = gR G (gR G 7 t) := (hx.2 _ c.1).2.2 (by omega) (by omega)
        rw [ee] at b3 b4 b7 ⊢
        refine Or.inr ⟨b1, b2, b3, b4, by rw [he _ c.1 (by omega) (by omega) (by omega)]; exact b5, b6, fun i hi => ?_⟩
        rw [he _ c.2.1 (by omega) (by omega) (by omega), h71 t ht e i (by omega)]
        exact b7 i hi
  · by_cases e : t = s
    · subst e
      have n2 : gR G 7 u ≠ 0 := by rw [← h7 u (fun q => htu q.symm)]; exact e2
      have c := RT1_cell (hT.1 u hu) n2
      rw [h7 u (fun q => htu q.symm), (hx.2 _ c.1).2.2 (by omega) (by omega)]
      have := hn e1
      omega
    · have n1 : gR G 7 t ≠ 0 := by rw [← h7 t e]; exact e1
      have c1 := RT1_cell (hT.1 t ht) n1
      by_cases e' : u = s
      · subst e'
        rw [h7 t e, (hx.2 _ c1.1).2.2 (by omega) (by omega)]
        have := hn e2
        omega
      · have n2 : gR G 7 u ≠ 0 := by rw [← h7 u e']; exact e2
        have c2 := RT1_cell (hT.1 u hu) n2
        rw [h7 t e, h7 u e', (hx.2 _ c1.1).2.2 (by omega) (by omega), (hx.2 _ c2.1).2.2 (by omega) (by omega)]
        exact hT.2 t u ht hu htu n1 n2
theorem XW.to' {M : xM} {pc : Nat} {ls : List (Option Value)} {st : List Value} {v w : Int32} {G2 G3 : xG} {I2 I3 : xI} (h : XW l C M pc ls st G I (some (.int v)) G2 I2) (h1 : v = w) (h2 : G2 = G3) (h3 : I2 = I3) : XW l C M pc ls st G I (some (.int w)) G3 I3 := by subst h1; subst h2; subst h3; exact h
set_option maxHeartbeats 4000000 in
theorem EQ_drop (h : REL G I) (y1 : Int32) : EQ l C mX9_drop mX10_drop [.int y1] G I := by
  have hrel := h
  obtain ⟨hG, D, hL, hR, hT, hN, hV, hQ⟩ := h
  have h95 := hG.1
  obtain ⟨v, I0, hw, rfl, rfl⟩ := ZsheetNo (l := l) (C := C) hG I y1
  by_cases a1 : 0 ≤ y1 ∧ y1 ≤ 3
  · obtain ⟨s, hs, rfl⟩ := row_of a1.1 a1.2
    have ks : (nI s).toNatClampNeg = s := nI_clamp (by omega)
    by_cases hn : gR G 7 s = 0
    · have a3 : ¬ 0 ≤ I0 69 s := by rw [RT1_no (hT.1 s hs) hn]; decide
      refine ⟨-11, G, I0, I0, ?_, XW.to' (YX10_drop hG I0 (nI s)) (by unfold sX10_drop; rw [if_pos a1, ks, if_neg a3]) rfl (by unfold tX10_drop; rw [if_pos a1, ks, if_neg a3]), hrel, Nat.le_refl _, Nat.le_refl _, by omega, by omega⟩
      show XW l C mX9_drop 0 [some (.ref 2), some (.int (nI s)), none] [] G I0 _ G I0
      refine XW.iload_n eX9_drop_0 rfl ?_
      refine XW.callS (As := [.int (nI s)]) (st := []) eX9_drop_1 okX9_isSheetNumber cs9_115 rfl hw (xnum rfl rfl rfl rfl rfl) ?_
      refine XW.if_neB eX9_drop_4 (fun _ => ?_) (fun c => absurd a1 c)
      refine XW.aload_n eX9_drop_9 rfl ?_
      refine XW.getR (b := 7) eX9_drop_10 f9_24_9 rfl (so_2 hG) (sr_2_2 hG) ?_
      refine XW.iload_n eX9_drop_13 rfl ?_
      refine XW.aaload (b := 0) eX9_drop_14 (sa_7 hG) ⟨by decide, rfl⟩ (vin_3 a1) (by rw [ks]; exact hn) ?_
      refine XW.astore_n (ls' := [some (.ref 2), some (.int (nI s)), some (.ref 0)]) eX9_drop_15 (Nat.le_of_ble_eq_true rfl) rfl ?_
      refine XW.aload_n eX9_drop_16 rfl ?_
      refine XW.ifnonnull eX9_drop_17 (fun c => absurd rfl c) (fun _ => ?_)
      refine XW.bipush (v := (-11)) eX9_drop_20 (by decide) ?_
      exact XW.iret eX9_drop_22 rfl rfl rfl rfl rfl
    · obtain ⟨z, c1, c2, c3, c4, c5, c6, c7, c8, c9⟩ := RT1_some (hT.1 s hs) hn
      refine ⟨nI z, wR G 7 s 0, I0, wI I0 69 s (-1), ?_, XW.to' (YX10_drop ((GX_wR7 s 0).SH hG) I0 (nI s)) (by unfold sX10_drop; rw [if_pos a1, ks, if_pos c8.1, wI_ne _ _ _ (by decide), c2]) rfl (by unfold tX10_drop; rw [if_pos a1, ks, if_pos c8.1]), ?_, Nat.le_refl _, Nat.le_refl _, by rw [wR_N]; omega, by rw [wR_S]; omega⟩
      · show XW l C mX9_drop 0 [some (.ref 2), some (.int (nI s)), none] [] G I0 _ (wR G 7 s 0) I0
        refine XW.iload_n eX9_drop_0 rfl ?_
        refine XW.callS (As := [.int (nI s)]) (st := []) eX9_drop_1 okX9_isSheetNumber cs9_115 rfl hw (xnumG rfl rfl rfl rfl rfl (Nat.le_refl _) (Nat.le_refl _) (Nat.le_refl _) (Nat.le_refl _)) ?_
        refine XW.if_neB eX9_drop_4 (fun _ => ?_) (fun c => absurd a1 c)
        refine XW.aload_n eX9_drop_9 rfl ?_
        refine XW.getR (b := 7) eX9_drop_10 f9_24_9 rfl (so_2 hG) (sr_2_2 hG) ?_
        refine XW.iload_n eX9_drop_13 rfl ?_
        refine XW.aaload (b := gR G 7 s) eX9_drop_14 (sa_7 hG) ⟨by decide, rfl⟩ (vin_3 a1) (by rw [ks]) ?_
        refine XW.astore_n (ls' := [some (.ref 2), some (.int (nI s)), some (.ref (gR G 7 s))]) eX9_drop_15 (Nat.le_of_ble_eq_true rfl) rfl ?_
        refine XW.aload_n eX9_drop_16 rfl ?_
        refine XW.ifnonnull eX9_drop_17 (fun _ => ?_) (fun c => absurd c hn)
        refine XW.aload_n eX9_drop_23 rfl ?_
        refine XW.getR (b := 7) eX9_drop_24 f9_24_9 rfl (so_2 hG) (sr_2_2 hG) ?_
        refine XW.iload_n eX9_drop_27 rfl ?_
        refine XW.anull eX9_drop_28 ?_
        refine XW.aastore0 eX9_drop_29 (sa_7 hG) rfl (by decide) (vin_3 a1) ?_
        rw [ks]
        refine XW.aload_n eX9_drop_30 rfl ?_
        refine XW.getR (b := gR G (gR G 7 s) 1) eX9_drop_31 f9_125_7 rfl ((GX_wR7 s 0).gO c4) (by rw [wR_ne _ _ _ (by omega)]) ?_
        refine XW.alen (v := nI z) eX9_drop_34 ((GX_wR7 s 0).gA c6) ⟨by decide, rfl⟩ rfl ?_
        exact XW.iret eX9_drop_35 rfl rfl rfl rfl rfl
      · refine REL_sheet hrel (GX_wR7 s 0) hs (wR_ne _ _ _ (by decide)) (fun t ht => wR_k _ _ ht) (fun q => absurd (wR_at _ _ _ _) q) (fun a ha q1 _ _ => wI_ne _ _ _ q1) (fun t _ ht => by rw [wI_same, upd_ne _ _ ht]) (fun t _ _ => by rw [wI_ne _ _ _ (by decide)]) (fun t _ _ i _ => by rw [wI_ne _ _ _ (by decide)]) ?_
        refine ⟨z, c1, by rw [wI_ne _ _ _ (by decide)]; exact c2, Or.inl ⟨wR_at _ _ _ _, by rw [wI_same, upd_same]⟩⟩
  · refine ⟨-1, G, I0, I0, ?_, XW.to' (YX10_drop hG I0 y1) (by unfold sX10_drop; rw [if_neg a1]) rfl (by unfold tX10_drop; rw [if_neg a1]), hrel, Nat.le_refl _, Nat.le_refl _, by omega, by omega⟩
    show XW l C mX9_drop 0 [some (.ref 2), some (.int y1), none] [] G I0 _ G I0
    refine XW.iload_n eX9_drop_0 rfl ?_
    refine XW.callS (As := [.int y1]) (st := []) eX9_drop_1 okX9_isSheetNumber cs9_115 rfl hw (xnum rfl rfl rfl rfl rfl) ?_
    refine XW.if_neB eX9_drop_4 (fun c => absurd c a1) (fun _ => ?_)
    refine XW.iconst (v := (-1)) eX9_drop_7 (by decide) ?_
    exact XW.iret eX9_drop_8 rfl rfl rfl rfl rfl
end GXs
