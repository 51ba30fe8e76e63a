/-! the calls answer alike: copy, letters -/
section EQc
variable {l : Launch} {C : xC} {G : xG} {I : xI}
theorem iwP_iff {s z : Nat} (hz : z ≤ 160) (h : I 78 s = nI z) {y : Int32} (hy : y.toNatClampNeg = s) (i n : Int32) (hn : 0 ≤ n) : (0 ≤ i ∧ 0 ≤ n ∧ i.toInt + n.toInt ≤ z) ↔ iwP I y i n := by
  unfold iwP
  rw [hy, h, nI_toInt (by omega)]
  exact ⟨fun q => ⟨q.1, q.2.2⟩, fun q => ⟨q.1, hn, q.2⟩⟩
theorem has_of {z : Nat} {i n : Int32} (hz : z ≤ 160) (h : 0 ≤ i ∧ 0 ≤ n ∧ i.toInt + n.toInt ≤ z) : ∃ a m, i = nI a ∧ n = nI m ∧ a + m ≤ z := by
  obtain ⟨a, ha, rfl⟩ := nI_of (Int32.not_lt.mpr h.1)
  obtain ⟨m, hm, rfl⟩ := nI_of (Int32.not_lt.mpr h.2.1)
  have := h.2.2
  rw [nI_toInt ha, nI_toInt hm] at this
  exact ⟨a, m, rfl, rfl, by omega⟩
set_option maxHeartbeats 4000000 in
theorem EQ_copy (h : REL G I) (y1 y2 y3 y4 y5 : Int32) : EQ l C mX9_copy mX10_copy [.int y1, .int y2, .int y3, .int y4, .int y5] G I := by
  have hrel := h
  obtain ⟨hG, D, hL, hR, hT, hN, hV, hQ⟩ := h
  have hz := RT_hz hT
  refine EQ_of (P := mHZ) (s := fun I1 => sX10_copy I1 y1 y2 y3 y4 y5) (t := fun I1 => tX10_copy I1 y1 y2 y3 y4 y5) (fun I1 h => YX10_copy hG I1 h y1 y2 y3 y4 y5) ?_
  refine VX9_copy hG I y1 y2 y3 y4 y5 ⟨_, ZsheetNo hG I y1, ?_⟩
  rintro v I1 ⟨rfl, rfl⟩
  refine bI_split (fun a1 => ⟨hz, by unfold sX10_copy; rw [if_neg a1], by unfold tX10_copy; rw [if_neg a1]; exact hrel⟩) (fun a1 => ⟨_, ZsheetNo hG I1 y3, ?_⟩)
  rintro v I2 ⟨rfl, rfl⟩
  refine bI_split (fun a2 => ⟨hz, by unfold sX10_copy; rw [if_pos a1, if_neg a2], by unfold tX10_copy; rw [if_pos a1, if_neg a2]; exact hrel⟩) (fun a2 => ⟨vin_3 a1, vin_3 a2, ?_⟩)
  obtain ⟨s, hs, rfl⟩ := row_of a1.1 a1.2
  obtain ⟨d, hd, rfl⟩ := row_of a2.1 a2.2
  have ks : (nI s).toNatClampNeg = s := nI_clamp (by omega)
  have kd : (nI d).toNatClampNeg = d := nI_clamp (by omega)
  rw [ks, kd]
  refine ⟨fun hn => ?_, fun hn => ⟨fun hn2 => ?_, fun hn2 => ?_⟩⟩
  · have a3 : I2 77 s < 0 := by rw [RT1_no (hT s hs) hn]; decide
    exact ⟨hz, by unfold sX10_copy; simp only [if_pos a1, if_pos a2, ks, if_pos a3], by unfold tX10_copy; simp only [if_pos a1, if_pos a2, ks, if_pos a3]; exact hrel⟩
  · obtain ⟨z, c1, c2, c3, c4, c7, c8, c9⟩ := RT1_some (hT s hs) hn
    have a3 : ¬ I2 77 s < 0 := Int32.not_lt.mpr c8.1
    have a4 : ¬ 0 ≤ I2 77 d := by rw [RT1_no (hT d hd) hn2]; decide
    exact ⟨hz, by unfold sX10_copy; simp only [if_pos a1, if_pos a2, ks, kd, if_neg a3, if_neg a4], by unfold tX10_copy; simp only [if_pos a1, if_pos a2, ks, kd, if_neg a3, if_neg a4]; exact hrel⟩
  obtain ⟨z, c1, c2, c3, c4, c7, c8, c9⟩ := RT1_some (hT s hs) hn
  obtain ⟨z', d1, d2, d3, d4, d7, d8, d9⟩ := RT1_some (hT d hd) hn2
  have a3 : ¬ I2 77 s < 0 := Int32.not_lt.mpr c8.1
  rw [c7, d7]
  refine ⟨fun a5 => ?_, fun a5 => ⟨hz, by unfold sX10_copy; simp only [if_pos a1, if_pos a2, ks, kd, if_neg a3, if_pos d8.1, if_neg a5], by unfold tX10_copy; simp only [if_pos a1, if_pos a2, ks, kd, if_neg a3, if_pos d8.1, if_neg a5]; exact hrel⟩⟩
  refine ⟨_, Zhas hG (TS61 hG hs) I2 c4 c1 y2 y5, ?_⟩
  rintro v I3 ⟨rfl, rfl⟩
  refine bI_split (fun a6 => ?_) (fun a6 => ⟨_, Zhas hG (TS61 hG hd) I3 d4 d1 y4 y5, ?_⟩)
  · by_cases a7 : y5 < 0
    · exact ⟨hz, by unfold sX10_copy; simp only [if_pos a1, if_pos a2, ks, kd, if_neg a3, if_pos d8.1, if_pos a5, if_pos a7], by unfold tX10_copy; simp only [if_pos a1, if_pos a2, ks, kd, if_neg a3, if_pos d8.1, if_pos a5, if_pos a7]; exact hrel⟩
    · have a8 : ¬ iwP I3 (nI s) y2 y5 := fun q => a6 ((iwP_iff c1 c2 ks y2 y5 (Int32.not_lt.mp a7)).mpr q)
      exact ⟨hz, by unfold sX10_copy; simp only [if_pos a1, if_pos a2, ks, kd, if_neg a3, if_pos d8.1, if_pos a5, if_neg a7, if_neg a8], by unfold tX10_copy; simp only [if_pos a1, if_pos a2, ks, kd, if_neg a3, if_pos d8.1, if_pos a5, if_neg a7, if_neg a8]; exact hrel⟩
  rintro v I4 ⟨rfl, rfl⟩
  have a7 : ¬ y5 < 0 := Int32.not_lt.mpr a6.2.1
  have a8 : iwP I4 (nI s) y2 y5 := (iwP_iff c1 c2 ks y2 y5 a6.2.1).mp a6
  refine bI_split (fun a9 => ?_) (fun a9 => ?_)
  · have b1 : ¬ iwP I4 (nI d) y4 y5 := fun q => a9 ((iwP_iff d1 d2 kd y4 y5 a6.2.1).mpr q)
    exact ⟨hz, by unfold sX10_copy; simp only [if_pos a1, if_pos a2, ks, kd, if_neg a3, if_pos d8.1, if_pos a5, if_neg a7, if_pos a8, if_neg b1], by unfold tX10_copy; simp only [if_pos a1, if_pos a2, ks, kd, if_neg a3, if_pos d8.1, if_pos a5, if_neg a7, if_pos a8, if_neg b1]; exact hrel⟩
  have b1 : iwP I4 (nI d) y4 y5 := (iwP_iff d1 d2 kd y4 y5 a6.2.1).mp a9
  obtain ⟨a, n, rfl, rfl, han⟩ := has_of c1 a6
  obtain ⟨b, n', rfl, hnn, hbn⟩ := has_of d1 a9
  have hn1 : n' = n := by
    have : n' < 2 ^ 31 := by omega
    exact ((nI_eq (by omega) this).mp hnn).symm
  subst hn1
  have ka : (nI a).toNatClampNeg = a := nI_clamp (by omega)
  have kb : (nI b).toNatClampNeg = b := nI_clamp (by omega)
  have kn : (nI n').toNatClampNeg = n' := nI_clamp (by omega)
  rw [ka, kb, kn]
  refine ⟨⟨nI_pos (by omega), nI_pos (by omega), nI_pos (by omega), by omega, by omega⟩, ?_⟩
  generalize hK : wA I4 (61 + 2 * d + 1) (va_cpy (I4 (61 + 2 * s + 1)) (I4 (61 + 2 * d + 1)) a b n') = K
  have lo : ∀ x, 68 < x → K x = I4 x := fun x hx => by rw [← hK, wA_ne _ _ (by omega)]
  have l69 := lo 77 (by decide)
  have b2 : iwP K (nI s) (nI a) (nI n') := by unfold iwP at a8 ⊢; rw [lo 78 (by decide)]; exact a8
  have b3 : iwP K (nI d) (nI b) (nI n') := by unfold iwP at b1 ⊢; rw [lo 78 (by decide)]; exact b1
  refine ⟨fun t ht => by rw [lo 78 (by decide)]; exact hz t ht, ?_, ?_⟩
  · unfold sX10_copy
    simp only [if_pos a1, if_pos a2, ks, kd, l69, if_neg a3, if_pos d8.1, if_pos a5, if_neg a7, if_pos b2, if_pos b3]
  · unfold tX10_copy
    simp only [if_pos a1, if_pos a2, ks, kd, l69, if_neg a3, if_pos d8.1, if_pos a5, if_neg a7, if_pos b2, if_pos b3, ka, kb, kn]
    unfold uX10_copy
    rw [lo 79 (by decide)]
    refine REL_items hrel hd hn2 (fun x q1 q2 q3 => by rw [wA_ne _ _ q2, wA_ne _ _ q3, ← hK, wA_ne _ _ q1]) (fun w w1 w2 i hi => ?_) (fun t ht hts i hi => ?_)
    · have : w = z' := (nI_eq (by omega) (by omega)).mp (w1.symm.trans d2)
      subst this
      rw [wA_ne _ _ (by omega), wA_ne _ _ (by omega), ← hK, wA_same, wA_same]
      unfold va_cpy cpy
      by_cases e : b ≤ i ∧ i < b + n'
      · rw [if_pos e, if_pos (by omega), c9 _ (by omega)]
        congr 1
        omega
      · rw [if_neg e, if_neg (by omega)]
        exact d9 i hi
    · rw [wA_same]
      unfold cpy
      rw [if_neg (by omega)]
end EQc
