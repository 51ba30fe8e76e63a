/-! the calls answer alike: what is told -/
section EQa
variable {l : Launch} {C : xC} {G : xG} {I : xI}
theorem Zbound (hG : SH G) {a : Nat} (ha : gO G a 1) (y : Int32) : XF fI l C mX1_bound 0 (xent mX1_bound [.ref a, .int y]) [] G I (fun v I' => v = (if y = 3 then I a 3 else if y = 4 then I a 4 else if y = 5 then I a 5 else I a 3 + I a 5) ∧ I' = I) := by
  refine VX1_bound hG ha I y ⟨fun h => ⟨by rw [if_pos h], rfl⟩, fun h3 => ⟨fun h => ⟨by rw [if_neg h3, if_pos h], rfl⟩, fun h4 => ⟨fun h => ⟨by rw [if_neg h3, if_neg h4, if_pos h], rfl⟩, fun h5 => ⟨by rw [if_neg h3, if_neg h4, if_neg h5], rfl⟩⟩⟩⟩
set_option maxHeartbeats 4000000 in
theorem EQ_told (h : REL G I) (y1 y2 : Int32) : EQ l C mX9_told mX10_told [.int y1, .int y2] G I := by
  have hrel := h
  obtain ⟨hG, D, hL, hR, hT, hN, hV, hQ⟩ := h
  obtain ⟨a1, a2, a3, a4, a5, a6, a7, a8⟩ := id hL
  have e13 : I 3 1 = I 69 1 := by rw [a3.1, a2.1]
  have fin : ∀ v : Int32, sX10_told I y1 y2 = v → XF fI l C mX10_told 0 (xent mX10_told [.ref 69, .int y1, .int y2]) [] G I (fun w I2 => w = v ∧ REL G I2) := by
    intro v hv
    refine XF.mono (XF.of (YX10_told hG I a2.1 a1.1 a1.2.1 y1 y2)) ?_
    rintro w I' ⟨rfl, rfl⟩
    exact ⟨hv, hrel⟩
  refine EQ_XF (Q := fun v I1 => XF fI l C mX10_told 0 (xent mX10_told [.ref 69, .int y1, .int y2]) [] G I1 (fun w I2 => w = v ∧ REL G I2)) (VX9_told hG I y1 y2 ⟨_, ZlineAt hG I a3.1 a1.2.1 y1, ?_⟩) (fun _ _ h => h)
  rintro v I1 ⟨rfl, hv⟩
  rcases hv with ⟨v1, v2, rfl⟩ | ⟨v1, rfl⟩
  · have hline : 0 ≤ y1 ∧ y1 ≤ I1 69 1 - 1 := ⟨v1, by rw [← e13]; exact v2⟩
    obtain ⟨j, hj, rfl⟩ := line_of a3.1 a1.2.1 ⟨v1, v2⟩
    have kj : (nI j).toNatClampNeg = j := nI_clamp (by omega)
    rw [kj]
    obtain ⟨b1, b2, b3, b4, b5, b6, b7, b8⟩ := a6 j hj
    obtain ⟨m1, m2, m3, m4, m5, m6, m7⟩ := a5 j hj
    have hk := (a4 j hj).1
    have hknd : knd G (gR G 4 j) = nI (D 1 j) := by
      unfold knd
      by_cases h0 : D 1 j = 0
      · rw [if_pos (b3.mpr h0), h0]; rfl
      · rw [if_neg (fun z => h0 (b3.mp z))]
        by_cases h2 : D 1 j = 2
        · have := b4.mpr h2
          rw [if_neg (by omega), h2]; rfl
        · have h1 : D 1 j = 1 := by omega
          have h8 : gT G (gR G 4 j) = 8 := by
            rcases b1 with q | q | q
            · exact absurd (b3.mp (gO_tag q)) h0
            · exact gO_tag q
            · exact absurd (b4.mp (gO_tag q)) h2
          rw [if_pos h8, h1]; rfl
    have hkpt : kpt G I1 (gR G 4 j) = if D 1 j = 0 then 0 else nI (D 4 j) := by
      unfold kpt
      by_cases h0 : D 1 j = 0
      · rw [if_pos (b3.mpr h0), if_pos h0]
      · rw [if_neg (fun z => h0 (b3.mp z)), if_neg h0]; exact b7 h0
    have s : sX10_told I1 (nI j) y2 = (if y2 = 0 then nI (D 1 j) else if y2 = 1 then nI (D 2 j) else if y2 = 2 then (if D 1 j = 0 then 0 else nI (D 4 j)) else if y2 = 3 then (if D 1 j = 2 then nI (D 5 j) else 0) else if y2 = 4 then (if D 1 j = 2 then nI (D 6 j) else 0) else if y2 = 5 then (if D 1 j = 2 then nI (D 7 j) else 0) else if y2 = 6 then (if D 1 j = 2 then nI (D 5 j) + nI (D 7 j) else 0) else if y2 = 7 then nI (D 3 j) else (-1)) := by
      unfold sX10_told
      rw [if_pos hline, kj, m1, m2, m3, m4, m5, m6, m7]
      rcases (show D 1 j = 0 ∨ D 1 j = 1 ∨ D 1 j = 2 by omega) with h0 | h0 | h0
      · rw [h0, if_pos (show nI 0 ≤ 0 by decide), if_neg (show ¬ nI 0 = 2 by decide)]; rfl
      · rw [h0, if_neg (show ¬ nI 1 ≤ 0 by decide), if_neg (show ¬ nI 1 = 2 by decide)]; rfl
      · rw [h0, if_neg (show ¬ nI 2 ≤ 0 by decide), if_pos (show nI 2 = 2 by decide)]; rfl
    have bd : ∀ w : Int32, (y2 = w) → (∀ v : Int32, v = (if y2 = 3 then I1 (gR G 4 j) 3 else if y2 = 4 then I1 (gR G 4 j) 4 else if y2 = 5 then I1 (gR G 4 j) 5 else I1 (gR G 4 j) 3 + I1 (gR G 4 j) 5) → D 1 j = 2 → sX10_told I1 (nI j) y2 = v) → (¬ D 1 j = 2 → sX10_told I1 (nI j) y2 = 0) → LN G (gR G 4 j) ∧ ((gT G (gR G 4 j) = 1 → (∃ Qc : Int32 → xI → Prop, XF fI l C mX1_bound 0 (xent mX1_bound [.ref (gR G 4 j), .int y2]) [] G I1 Qc ∧ ∀ (v_95 : Int32) (I_95 : xI), Qc v_95 I_95 → XF fI l C mX10_told 0 (xent mX10_told [.ref 69, .int (nI j), .int y2]) [] G I_95 (fun w I2 => w = v_95 ∧ REL G I2))) ∧ (¬ (gT G (gR G 4 j) = 1) → XF fI l C mX10_told 0 (xent mX10_told [.ref 69, .int (nI j), .int y2]) [] G I1 (fun w I2 => w = 0 ∧ REL G I2))) := by
      intro w _ hy hn
      refine ⟨b1, fun hh => ⟨_, Zbound hG (b1.held hh) y2, ?_⟩, fun hh => fin 0 (hn (fun z => hh (b4.mpr z)))⟩
      rintro v I2 ⟨rfl, rfl⟩
      exact fin _ (hy _ rfl (b4.mp hh))
    have b8' : D 1 j = 2 → I1 (gR G 4 j) 3 = nI (D 5 j) ∧ I1 (gR G 4 j) 4 = nI (D 6 j) ∧ I1 (gR G 4 j) 5 = nI (D 7 j) := b8
    refine ⟨fun z => absurd z (by omega), fun _ => ⟨fun h0 => ⟨b1, fin _ (by rw [s, if_pos h0, hknd])⟩, fun h0 => ⟨fun h1 => ⟨b1, fin _ (by rw [s, if_neg h0, if_pos h1, b5])⟩, fun h1 => ⟨fun h2 => ⟨b1, fin _ (by rw [s, if_neg h0, if_neg h1, if_pos h2, hkpt])⟩, fun h2 => ⟨fun h3 => ?_, fun h3 => ⟨fun h4 => ?_, fun h4 => ⟨fun h5 => ?_, fun h5 => ⟨fun h6 => ?_, fun h6 => ⟨fun h7 => ⟨b1, fin _ (by rw [s, if_neg h0, if_neg h1, if_neg h2, if_neg h3, if_neg h4, if_neg h5, if_neg h6, if_pos h7, b6])⟩, fun h7 => fin _ (by rw [s, if_neg h0, if_neg h1, if_neg h2, if_neg h3, if_neg h4, if_neg h5, if_neg h6, if_neg h7])⟩⟩⟩⟩⟩⟩⟩⟩⟩
    · exact bd 3 h3 (fun v hv h => by rw [s, if_neg h0, if_neg h1, if_neg h2, if_pos h3, if_pos h, hv, if_pos h3, (b8' h).1]) (fun h => by rw [s, if_neg h0, if_neg h1, if_neg h2, if_pos h3, if_neg h])
    · exact bd 4 h4 (fun v hv h => by rw [s, if_neg h0, if_neg h1, if_neg h2, if_neg h3, if_pos h4, if_pos h, hv, if_neg h3, if_pos h4, (b8' h).2.1]) (fun h => by rw [s, if_neg h0, if_neg h1, if_neg h2, if_neg h3, if_pos h4, if_neg h])
    · exact bd 5 h5 (fun v hv h => by rw [s, if_neg h0, if_neg h1, if_neg h2, if_neg h3, if_neg h4, if_pos h5, if_pos h, hv, if_neg h3, if_neg h4, if_pos h5, (b8' h).2.2]) (fun h => by rw [s, if_neg h0, if_neg h1, if_neg h2, if_neg h3, if_neg h4, if_pos h5, if_neg h])
    · exact bd 6 h6 (fun v hv h => by rw [s, if_neg h0, if_neg h1, if_neg h2, if_neg h3, if_neg h4, if_neg h5, if_pos h6, if_pos h, hv, if_neg h3, if_neg h4, if_neg h5, (b8' h).1, (b8' h).2.2]) (fun h => by rw [s, if_neg h0, if_neg h1, if_neg h2, if_neg h3, if_neg h4, if_neg h5, if_pos h6, if_neg h])
  · refine ⟨fun _ => fin (-1) ?_, fun z => absurd rfl z⟩
    unfold sX10_told
    rw [if_neg (fun z => v1 (by rw [e13]; exact z))]
theorem EQ_witness (h : REL G I) : EQ l C mX9_witness mX10_witness [] G I := by
  have hrel := h
  obtain ⟨hG, D, hL, hR, hT, hN, hV, hQ⟩ := h
  exact EQ_XF (Q := fun v I1 => XF fI l C mX10_witness 0 (xent mX10_witness [.ref 69]) [] G I1 (fun w I2 => w = v ∧ REL G I2)) (VX9_witness hG I (VX10_witness hG I ⟨hV.symm, hrel⟩)) (fun _ _ h => h)
theorem ran_cases (hN : RN I) : (I 2 6 = 0 ∧ I 69 34 = 0) ∨ (¬ I 2 6 = 0 ∧ ¬ I 69 34 = 0) := by
  obtain ⟨c, c1, c2, c3 | ⟨c3, c4, -⟩⟩ := hN
  · exact Or.inl c3
  · exact Or.inr ⟨by rw [c3]; decide, by rw [c4]; decide⟩
theorem EQ_ticks (h : REL G I) : EQ l C mX9_ticks mX10_ticks [] G I := by
  have hrel := h
  obtain ⟨hG, D, hL, hR, hT, hN, hV, hQ⟩ := h
  refine EQ_XF (Q := fun v I1 => XF fI l C mX10_ticks 0 (xent mX10_ticks [.ref 69]) [] G I1 (fun w I2 => w = v ∧ REL G I2)) (VX9_ticks hG I ⟨fun h => ?_, fun h => ?_⟩) (fun _ _ h => h)
  · rcases ran_cases hN with q | q
    · exact VX10_ticks hG I ⟨fun _ => ⟨rfl, hrel⟩, fun z => absurd q.2 z⟩
    · exact absurd h q.1
  · rcases ran_cases hN with q | q
    · exact absurd q.1 h
    · obtain ⟨c, c1, c2, c3 | ⟨c3, c4, c5, c6, -⟩⟩ := hN
      · exact absurd c3.1 h
      · exact VX10_ticks hG I ⟨fun z => absurd z q.2, fun _ => ⟨c6.symm, hrel⟩⟩
theorem row_of {v : Int32} (h1 : 0 ≤ v) (h2 : v ≤ 3) : ∃ r, r < 4 ∧ v = nI r := by
  obtain ⟨r, -, r2, r3⟩ := in_of (lo := 0) (hi := 3) (by omega) ⟨h1, h2⟩ (by omega)
  exact ⟨r, by omega, r3⟩
set_option maxHeartbeats 4000000 in
theorem EQ_letter (h : REL G I) (y1 y2 y3 : Int32) : EQ l C mX9_letter mX10_letter [.int y1, .int y2, .int y3] G I := by
  have hrel := h
  obtain ⟨hG, D, hL, hR, hT, hN, hV, hQ⟩ := h
  refine EQ_XF (Q := fun v I1 => XF fI l C mX10_letter 0 (xent mX10_letter [.ref 69, .int y1, .int y2, .int y3]) [] G I1 (fun w I2 => w = v ∧ REL G I2)) (VX9_letter hG I y1 y2 y3 ⟨_, ZrowAt hG I y1, ?_⟩) (fun _ _ h => h)
  rintro v I1 ⟨rfl, hv⟩
  rcases hv with ⟨v1, v2, rfl⟩ | ⟨v1, rfl⟩
  · obtain ⟨r, hr, rfl⟩ := row_of v1 v2
    have kr : (nI r).toNatClampNeg = r := nI_clamp (by omega)
    rw [kr]
    obtain ⟨b1, b2, b3, b4, b5, b6⟩ := hR r hr
    have hrw := RW49 hG hr
    have mst : ∀ (Q : Int32 → xI → Prop), ((y2 = (-1) → vp_in (nI r) 4 ∧ Q (I1 81 r) I1) ∧ (¬ (y2 = (-1)) → vp_in (nI r) 4 ∧ (∃ Qc : Int32 → xI → Prop, XF fI l C mX10_in 0 (xent mX10_in [.int y2, .int 0, .int ((I1 81 r) - 1)]) [] G I1 Qc ∧ ∀ (v_31 : Int32) (I_31 : xI), Qc v_31 I_31 → ((v_31 = 0 → Q (-1) I_31) ∧ (¬ (v_31 = 0) → (∃ Qc : Int32 → xI → Prop, XF fI l C mX10_in 0 (xent mX10_in [.int y3, .int 0, .int 1]) [] G I_31 Qc ∧ ∀ (v_40 : Int32) (I_40 : xI), Qc v_40 I_40 → ((v_40 = 0 → Q (-1) I_40) ∧ (¬ (v_40 = 0) → ((y3 = 0 → vp_in ((80 * nI r) + y2) 320 ∧ Q (I_40 82 ((80 * nI r) + y2).toNatClampNeg) I_40) ∧ (¬ (y3 = 0) → vp_in ((80 * nI r) + y2) 320 ∧ Q (I_40 83 ((80 * nI r) + y2).toNatClampNeg) I_40)))))))))) → XF fI l C mX10_letter 0 (xent mX10_letter [.ref 69, .int (nI r), .int y2, .int y3]) [] G I1 Q := by
      intro Q hh
      refine VX10_letter hG I1 (nI r) y2 y3 ⟨_, XF.of (YX10_isRow I1 (nI r)), ?_⟩
      rintro v I' ⟨rfl, rfl⟩
      refine bI_split (fun z => absurd ⟨v1, v2⟩ z) (fun _ => ?_)
      rw [kr]
      exact hh
    have e2 : I1 (49 + 3 * r) 2 = I1 81 r := by rw [b3, b2]
    refine ⟨fun z => absurd z (by omega), fun _ => ⟨fun hm => ⟨hrw.1, mst _ ⟨fun _ => ⟨vp_in_nI hr (by decide), e2.symm, hrel⟩, fun z => absurd hm z⟩⟩, fun hm => ⟨hrw.1, _, Zwithin hG I1 y2 0 _, ?_⟩⟩⟩
    rintro v I2 ⟨rfl, rfl⟩
    refine bI_split (fun hb => ?_) (fun hin => ⟨_, Zwithin hG I2 y3 0 1, ?_⟩)
    · refine mst _ ⟨fun z => absurd z hm, fun _ => ⟨vp_in_nI hr (by decide), _, XF.of (YX10_in I2 y2 0 _), ?_⟩⟩
      rintro v I' ⟨rfl, rfl⟩
      exact bI_split (fun _ => ⟨rfl, hrel⟩) (fun z => absurd (by rw [e2]; exact z) hb)
    · rintro v I3 ⟨rfl, rfl⟩
      have hin' : 0 ≤ y2 ∧ y2 ≤ I3 81 r - 1 := by rw [← e2]; exact hin
      obtain ⟨k, hk, rfl⟩ := vp_in_of (vin_l b2 (Nat.le_refl _) (by omega) hin') (by omega)
      have kk : (nI k).toNatClampNeg = k := nI_clamp (by omega)
      obtain ⟨c1, c2, c3, c4, c5, c6⟩ := b4 k hk
      refine bI_split (fun hb => ?_) (fun hin2 => ?_)
      · refine mst _ ⟨fun z => absurd z hm, fun _ => ⟨vp_in_nI hr (by decide), _, XF.of (YX10_in I3 (nI k) 0 _), ?_⟩⟩
        rintro v I' ⟨rfl, rfl⟩
        refine bI_split (fun z => absurd hin' z) (fun _ => ⟨_, XF.of (YX10_in I' y3 0 1), ?_⟩)
        rintro v I'' ⟨rfl, rfl⟩
        exact bI_split (fun _ => ⟨rfl, hrel⟩) (fun z => absurd z hb)
      · have fin : ∀ v : Int32, (y3 = 0 → I3 82 (80 * r + k) = v) → (¬ y3 = 0 → I3 83 (80 * r + k) = v) → XF fI l C mX10_letter 0 (xent mX10_letter [.ref 69, .int (nI r), .int (nI k), .int y3]) [] G I3 (fun w I2 => w = v ∧ REL G I2) := by
          intro v h1 h2
          refine mst _ ⟨fun z => absurd z hm, fun _ => ⟨vp_in_nI hr (by decide), _, XF.of (YX10_in I3 (nI k) 0 _), ?_⟩⟩
          rintro v I' ⟨rfl, rfl⟩
          refine bI_split (fun z => absurd hin' z) (fun _ => ⟨_, XF.of (YX10_in I' y3 0 1), ?_⟩)
          rintro v I'' ⟨rfl, rfl⟩
          refine bI_split (fun z => absurd hin2 z) (fun _ => ?_)
          rw [ix80, nI_clamp (show 80 * r + k < 2 ^ 31 by omega)]
          exact ⟨fun z => ⟨vp_in_nI (by omega) (by decide), h1 z, hrel⟩, fun z => ⟨vp_in_nI (by omega) (by decide), h2 z, hrel⟩⟩
        rw [hrw.2.1, hrw.2.2.1, kk]
        refine ⟨fun h0 => ⟨80, hrw.2.2.2.1, vp_in_nI (by omega) (by decide), fin _ (fun _ => by rw [c3, c5]) (fun z => absurd h0 z)⟩, fun h0 => ⟨80, hrw.2.2.2.2, vp_in_nI (by omega) (by decide), fin _ (fun z => absurd z h0) (fun _ => by rw [c4, c6])⟩⟩
  · refine ⟨fun _ => ?_, fun z => absurd rfl z⟩
    refine VX10_letter hG I1 y1 y2 y3 ⟨_, XF.of (YX10_isRow I1 y1), ?_⟩
    rintro v I' ⟨rfl, rfl⟩
    exact bI_split (fun _ => ⟨rfl, hrel⟩) (fun z => absurd z v1)
end EQa
