/-! the calls answer alike: sheets -/
section EQb
variable {l : Launch} {C : xC} {G : xG} {I : xI}
theorem Zhas (hG : SH G) {u z : Nat} (hu : TSh G u) (I : xI) (hi : I u 3 = nI z) (hz : z ≤ 160) (y1 y2 : Int32) : XF fI l C mX7_hasItems 0 (xent mX7_hasItems [.ref u, .int y1, .int y2]) [] G I (fun r I' => r = bI (0 ≤ y1 ∧ 0 ≤ y2 ∧ y1.toInt + y2.toInt ≤ z) ∧ I' = I) := by
  refine VX7_hasItems hG hu I y1 y2 ⟨fun h1 => ⟨(if_neg (fun q => Int32.not_le.mpr h1 q.1)).symm, rfl⟩, fun h1 => ⟨fun h2 => ⟨(if_neg (fun q => Int32.not_le.mpr h2 q.2.1)).symm, rfl⟩, fun h2 => ?_⟩⟩
  have e0 : (0 : Int32).toInt = 0 := by decide
  have k1 : 0 ≤ y1.toInt := by have := Int32.le_iff_toInt_le.mp (Int32.not_lt.mp h1); omega
  have k2 : 0 ≤ y2.toInt := by have := Int32.le_iff_toInt_le.mp (Int32.not_lt.mp h2); omega
  have k3 := Int32.toInt_lt y2
  rw [hi]
  have e : (nI z - y2).toInt = (z : Int) - y2.toInt := by
    rw [Int32.toInt_sub, nI_toInt (by omega)]
    exact Int.bmod_eq_of_le (by omega) (by omega)
  refine ⟨fun h3 => ⟨(if_neg (fun q => ?_)).symm, rfl⟩, fun h3 => ⟨(if_pos ⟨Int32.not_lt.mp h1, Int32.not_lt.mp h2, ?_⟩).symm, rfl⟩⟩
  · have := Int32.lt_iff_toInt_lt.mp h3
    omega
  · have := Int32.le_iff_toInt_le.mp (Int32.not_lt.mp h3)
    omega
theorem RT_hz (h : RT I) : mHZ I := fun s hs => by
  obtain ⟨z, z1, z2, -⟩ := h s hs
  exact ⟨z, z1, z2⟩
theorem RRw_hm {D : aE} (h : RRw I D) : mHM I := fun r hr => ⟨_, (h r hr).1, (h r hr).2.1⟩
theorem RT1_no {s : Nat} (h : RT1 I s) (hn : I (61 + 2 * s) 2 = 0) : I 77 s = (-1) := by
  obtain ⟨z, z1, z2, z3⟩ := h
  rcases z3 with z3 | z3
  · exact z3.2
  · exact absurd (hn.symm.trans z3.1) (by decide)
theorem RT1_some {s : Nat} (h : RT1 I s) (hn : ¬ I (61 + 2 * s) 2 = 0) : ∃ z, z ≤ 160 ∧ I 78 s = nI z ∧ I (61 + 2 * s) 2 = 1 ∧ I (61 + 2 * s) 3 = nI z ∧ I (61 + 2 * s) 0 = I 77 s ∧ (0 ≤ I 77 s ∧ I 77 s ≤ 2) ∧ ∀ i, i < z → I (61 + 2 * s + 1) i = I 79 (160 * s + i) := by
  obtain ⟨z, z1, z2, z3⟩ := h
  rcases z3 with z3 | z3
  · exact absurd z3.1 hn
  · exact ⟨z, z1, z2, z3⟩
/-- one sheet is set anew -/
theorem REL_sheet (h : REL G I) {s : Nat} (hs : s < 4) {I' : xI} (he : ∀ a, a ≠ 61 + 2 * s → a ≠ 61 + 2 * s + 1 → (a < 77 ∨ 80 < a) → I' a = I a) (h77 : ∀ t, t < 4 → t ≠ s → I' 77 t = I 77 t) (h78 : ∀ t, t < 4 → t ≠ s → I' 78 t = I 78 t) (h79 : ∀ t, t < 4 → t ≠ s → ∀ i, i < 160 → I' 79 (160 * t + i) = I 79 (160 * t + i)) (h1 : RT1 I' s) : REL G I' := by
  obtain ⟨hG, D, hL, hR, hT, hN, hV, hQ⟩ := h
  have lo : ∀ a, (a < 61 ∨ (68 < a ∧ a < 77) ∨ 80 < a) → I' a = I a := fun a ha => he a (by omega) (by omega) (by omega)
  refine ⟨hG, D, RLn_ext hL (lo 3 (by omega)) (fun a q1 _ => lo a (by omega)) (fun i _ => by rw [lo 69 (by omega)]) (fun a q1 q2 => lo a (by omega)), RRw_ext hR (fun a ha => lo a (by omega)), fun t ht => ?_, RN_ext hN (by rw [lo 2 (by omega)]) (fun a ha => lo a (by omega)) (fun i _ => by rw [lo 69 (by omega)]) (fun a q1 q2 => lo a (by omega)), by rw [lo 2 (by omega), lo 69 (by omega)]; exact hV, RQ0_ext hQ (fun a ha => lo a (by omega))⟩
  by_cases e : t = s
  · subst e; exact h1
  · exact RT1_ext (hT t ht) (h77 t ht e) (h78 t ht e) (h79 t ht e) (he _ (by omega) (by omega) (by omega)) (he _ (by omega) (by omega) (by omega))
theorem REL_items (h : REL G I) {s : Nat} (hs : s < 4) (hn : ¬ I (61 + 2 * s) 2 = 0) {I' : xI} (he : ∀ a, a ≠ 61 + 2 * s + 1 → a ≠ 79 → a ≠ 80 → I' a = I a) (h1 : ∀ z, I 78 s = nI z → z ≤ 160 → ∀ i, i < z → I' (61 + 2 * s + 1) i = I' 79 (160 * s + i)) (h2 : ∀ t, t < 4 → t ≠ s → ∀ i, i < 160 → I' 79 (160 * t + i) = I 79 (160 * t + i)) : REL G I' := by
  have hT : RT I := by obtain ⟨-, -, -, -, hT, -⟩ := h; exact hT
  obtain ⟨z, c1, c2, c3, c4, c7, c8, c9⟩ := RT1_some (hT s hs) hn
  have e77 := he 77 (by omega) (by decide) (by decide)
  have e78 := he 78 (by omega) (by decide) (by decide)
  have eu := he (61 + 2 * s) (by omega) (by omega) (by omega)
  refine REL_sheet h hs (fun a q1 q2 q3 => he a q2 (by omega) (by omega)) (fun t _ _ => by rw [e77]) (fun t _ _ => by rw [e78]) h2 ⟨z, c1, by rw [e78]; exact c2, Or.inr ?_⟩
  rw [eu, e77]
  exact ⟨c3, c4, c7, c8, h1 z c2 c1⟩
theorem EQ_of {kx km : xM} {As : List Value} {s : xI → Int32} {t : xI → xI} {P : xI → Prop} (hm : ∀ I1, P I1 → XW l C km 0 (xent km (.ref 69 :: As)) [] G I1 (some (.int (s I1))) G (t I1)) (hc : XF fI l C kx 0 (xent kx (.ref 2 :: As)) [] G I (fun v I1 => P I1 ∧ s I1 = v ∧ REL G (t I1))) : EQ l C kx km As G I :=
  EQ_XF hc (fun v I1 h => ⟨_, _, hm I1 h.1, h.2.1, h.2.2⟩)
theorem item_iff {z : Nat} (hz : z ≤ 160) (y : Int32) : (0 ≤ y ∧ (0 : Int32) ≤ 1 ∧ y.toInt + (1 : Int32).toInt ≤ z) ↔ (0 ≤ y ∧ y ≤ nI z - 1) := by
  have e1 : (1 : Int32).toInt = 1 := by decide
  have e : (nI z - 1).toInt = (z : Int) - 1 := by
    rw [Int32.toInt_sub, nI_toInt (by omega), e1]
    exact Int.bmod_eq_of_le (by omega) (by omega)
  constructor
  · rintro ⟨a1, a2, a3⟩
    refine ⟨a1, Int32.le_iff_toInt_le.mpr ?_⟩
    omega
  · rintro ⟨a1, a2⟩
    refine ⟨a1, by decide, ?_⟩
    have := Int32.le_iff_toInt_le.mp a2
    omega
theorem REL_put (h : REL G I) {s j : Nat} (hs : s < 4) (hj : j < 160) (hn : ¬ I (61 + 2 * s) 2 = 0) (v : Int32) : REL G (wI (wI I (61 + 2 * s + 1) j v) 79 (160 * s + j) v) := by
  have hT : RT I := by obtain ⟨-, -, -, -, hT, -⟩ := h; exact hT
  obtain ⟨z, c1, c2, c3, c4, c7, c8, c9⟩ := RT1_some (hT s hs) hn
  refine REL_items h hs hn (fun a q1 q2 q3 => by rw [wI_ne _ _ _ q2, wI_ne _ _ _ q1]) (fun z' z1 z2 i hi => ?_) (fun t ht hts i hi => ?_)
  · have : z' = z := (nI_eq (by omega) (by omega)).mp (z1.symm.trans c2)
    subst this
    rw [wI_ne _ _ _ (by omega), wI_same, wI_same, wI_ne _ _ _ (by omega)]
    by_cases e : i = j
    · subst e
      rw [upd_same, upd_same]
    · rw [upd_ne _ _ e, upd_ne _ _ (by omega)]
      exact c9 i hi
  · rw [wI_same, upd_ne _ _ (by omega), wI_ne _ _ _ (by omega)]
set_option maxHeartbeats 4000000 in
theorem EQ_item (h : REL G I) (y1 y2 y3 y4 : Int32) : EQ l C mX9_item mX10_item [.int y1, .int y2, .int y3, .int y4] G I := by
  have hrel := h
  obtain ⟨hG, D, hL, hR, hT, hN, hV, hQ⟩ := h
  have hz := RT_hz hT
  refine EQ_of (P := mHZ) (s := fun I1 => sX10_item I1 y1 y2 y3 y4) (t := fun I1 => tX10_item I1 y1 y2 y3 y4) (fun I1 h => YX10_item hG I1 h y1 y2 y3 y4) ?_
  refine VX9_item hG I y1 y2 y3 y4 ⟨_, ZsheetNo hG I y1, ?_⟩
  rintro v I1 ⟨rfl, rfl⟩
  refine bI_split (fun a1 => ⟨hz, by unfold sX10_item; rw [if_neg a1], by unfold tX10_item; rw [if_neg a1]; exact hrel⟩) (fun a1 => ⟨_, Zlane hG I1 y2, ?_⟩)
  rintro v I2 ⟨rfl, rfl⟩
  refine bI_split (fun a2 => ⟨hz, by unfold sX10_item; rw [if_pos a1, if_neg a2], by unfold tX10_item; rw [if_pos a1, if_neg a2]; exact hrel⟩) (fun a2 => ⟨vin_3 a1, ?_⟩)
  obtain ⟨s, hs, rfl⟩ := row_of a1.1 a1.2
  have ks : (nI s).toNatClampNeg = s := nI_clamp (by omega)
  rw [ks]
  refine ⟨fun hn => ?_, fun hn => ?_⟩
  · have a3 : ¬ 0 ≤ I2 77 s := by rw [RT1_no (hT s hs) hn]; decide
    exact ⟨hz, by unfold sX10_item; rw [if_pos a1, if_pos a2, ks, if_neg a3], by unfold tX10_item; rw [if_pos a1, if_pos a2, ks, if_neg a3]; exact hrel⟩
  obtain ⟨z, c1, c2, c3, c4, c7, c8, c9⟩ := RT1_some (hT s hs) hn
  rw [c7]
  refine ⟨fun a4 => ?_, fun a4 => ⟨hz, by unfold sX10_item; rw [if_pos a1, if_pos a2, ks, if_pos c8.1, if_neg a4], by unfold tX10_item; rw [if_pos a1, if_pos a2, ks, if_pos c8.1, if_neg a4]; exact hrel⟩⟩
  refine ⟨_, Zhas hG (TS61 hG hs) I2 c4 c1 y3 1, ?_⟩
  rintro v I3 ⟨rfl, rfl⟩
  refine bI_split (fun a5 => ?_) (fun a5 => ?_)
  · have a6 : ¬ (0 ≤ y3 ∧ y3 ≤ I3 78 s - 1) := by rw [c2]; exact fun q => a5 ((item_iff c1 y3).mpr q)
    exact ⟨hz, by unfold sX10_item; rw [if_pos a1, if_pos a2, ks, if_pos c8.1, if_pos a4, if_neg a6], by unfold tX10_item; rw [if_pos a1, if_pos a2, ks, if_pos c8.1, if_pos a4, if_neg a6]; exact hrel⟩
  · have a6 : 0 ≤ y3 ∧ y3 ≤ nI z - 1 := (item_iff c1 y3).mp a5
    obtain ⟨j, hj, rfl⟩ := vp_in_of (vin_l (n := z) rfl (Nat.le_refl _) (by omega) a6) (by omega)
    have kj : (nI j).toNatClampNeg = j := nI_clamp (by omega)
    have ki : (160 * nI s + nI j).toNatClampNeg = 160 * s + j := by
      rw [show (160 : Int32) = nI 160 from rfl, pk_mul, nI_add, nI_clamp (by omega)]
    have fin : ∀ w : Int32, (if y2 = 0 then y4.toInt8.toInt32 else if y2 = 1 then y4.toInt16.toInt32 else y4) = w → mHZ (wI I3 (61 + 2 * s + 1) j w) ∧ sX10_item (wI I3 (61 + 2 * s + 1) j w) (nI s) y2 (nI j) y4 = 1 ∧ REL G (tX10_item (wI I3 (61 + 2 * s + 1) j w) (nI s) y2 (nI j) y4) := by
      intro w hw
      have e69 : wI I3 (61 + 2 * s + 1) j w 77 = I3 77 := wI_ne _ _ _ (by omega)
      have e70 : wI I3 (61 + 2 * s + 1) j w 78 = I3 78 := wI_ne _ _ _ (by omega)
      have a7 : 0 ≤ nI j ∧ nI j ≤ I3 78 s - 1 := by rw [c2]; exact a6
      refine ⟨fun t ht => by rw [e70]; exact hz t ht, ?_, ?_⟩
      · unfold sX10_item
        rw [if_pos a1, if_pos a2, ks, e69, e70, if_pos c8.1, if_pos a4, if_pos a7]
      · unfold tX10_item
        rw [if_pos a1, if_pos a2, ks, e69, e70, if_pos c8.1, if_pos a4, if_pos a7, ki]
        have : (if y2 = 0 then wI (wI I3 (61 + 2 * s + 1) j w) 79 (160 * s + j) y4.toInt8.toInt32 else if y2 = 1 then wI (wI I3 (61 + 2 * s + 1) j w) 79 (160 * s + j) y4.toInt16.toInt32 else wI (wI I3 (61 + 2 * s + 1) j w) 79 (160 * s + j) y4) = wI (wI I3 (61 + 2 * s + 1) j w) 79 (160 * s + j) w := by
          rw [← hw]
          split
          · rfl
          · split <;> rfl
        rw [this]
        exact REL_put hrel hs (by omega) hn w
    refine ⟨_, VX7_put hG (TS61 hG hs) I3 (nI j) y4 (Q := fun _ I' => I' = wI I3 (61 + 2 * s + 1) j (if y2 = 0 then y4.toInt8.toInt32 else if y2 = 1 then y4.toInt16.toInt32 else y4)) ?_, ?_⟩
    · rw [c7, a4, kj]
      refine ⟨fun q => ⟨vp_in_nI (by omega) (by omega), by rw [if_pos q]⟩, fun q => ⟨fun q2 => ⟨vp_in_nI (by omega) (by omega), by rw [if_neg q, if_pos q2]⟩, fun q2 => ⟨vp_in_nI (by omega) (by omega), by rw [if_neg q, if_neg q2]⟩⟩⟩
    · rintro _ I4 rfl
      exact fin _ rfl
end EQb
