/-! the calls answer alike: lines -/
section EQa
variable {l : Launch} {C : xC} {G : xG} {I : xI}
set_option maxHeartbeats 4000000 in
theorem EQ_mark (h : REL G I) (y1 y2 : Int32) : EQ l C mX9_mark mX10_mark [.int y1, .int y2] G I := by
  obtain ⟨hG, D, hL, hR, hT, hN, hV, hQ⟩ := h
  obtain ⟨a1, a2, a3, a4, a5, a6, a7, a8⟩ := id hL
  have e13 : I 3 1 = I 69 1 := by rw [a3.1, a2.1]
  refine EQ_XF (Q := fun v I1 => XF fI l C mX10_mark 0 (xent mX10_mark [.ref 69, .int y1, .int y2]) [] G I1 (fun w I2 => w = v ∧ REL G I2)) (VX9_mark hG I y1 y2 ⟨_, ZlineAt hG I a3.1 a1.2.1 y1, ?_⟩) (fun _ _ h => h)
  rintro v I1 ⟨rfl, hv⟩
  rcases hv with ⟨v1, v2, rfl⟩ | ⟨v1, rfl⟩
  · obtain ⟨j, hj, rfl⟩ := line_of a3.1 a1.2.1 ⟨v1, v2⟩
    rw [nI_clamp (show j < 2 ^ 31 by omega)]
    obtain ⟨b1, b2, b3, b4, b5, b6, b7, b8⟩ := a6 j hj
    refine ⟨fun z => absurd z (by omega), fun _ => ⟨_, Zwithin hG I1 y2 0 12, ?_⟩⟩
    rintro v I2 ⟨rfl, rfl⟩
    have mstart : ∀ (K : xI) (Q : Int32 → xI → Prop), K 69 1 = I2 69 1 → (∃ Qc : Int32 → xI → Prop, XF fI l C mX10_in 0 (xent mX10_in [.int y2, .int 0, .int 12]) [] G K Qc ∧ ∀ (v_12 : Int32) (I_12 : xI), Qc v_12 I_12 → ((v_12 = 0 → Q (-1) I_12) ∧ (¬ (v_12 = 0) → vp_in (nI j) 4 ∧ Q (I_12 71 (nI j).toNatClampNeg) (wI I_12 71 (nI j).toNatClampNeg y2)))) → XF fI l C mX10_mark 0 (xent mX10_mark [.ref 69, .int (nI j), .int y2]) [] G K Q := by
      intro K Q hK hh
      refine VX10_mark hG K (nI j) y2 ⟨_, XF.of (YX10_isLine hG K (nI j)), ?_⟩
      rintro v I' ⟨rfl, rfl⟩
      refine bI_split (fun z => absurd ⟨v1, by rw [hK, ← e13]; exact v2⟩ z) (fun _ => hh)
    refine bI_split (fun hb => ?_) (fun hin => ⟨b1, ?_⟩)
    · refine mstart I2 _ rfl ⟨_, XF.of (YX10_in I2 y2 0 12), ?_⟩
      rintro v I' ⟨rfl, rfl⟩
      exact bI_split (fun _ => ⟨rfl, hG, D, hL, hR, hT, hN, hV, hQ⟩) (fun z => absurd z hb)
    · obtain ⟨b, c1, c2, rfl⟩ := in_of (lo := 0) (hi := 12) (by omega) hin (by omega)
      refine mstart _ _ (by rw [wI_ne _ _ _ (by omega)]) ⟨_, XF.of (YX10_in _ (nI b) 0 12), ?_⟩
      rintro v I' ⟨rfl, rfl⟩
      refine bI_split (fun z => absurd hin z) (fun _ => ⟨vp_in_nI (by omega) (by decide), ?_, ?_⟩)
      · rw [nI_clamp (show j < 2 ^ 31 by omega), wI_ne _ _ _ (by omega)]
        rw [b5]
        exact (a5 j hj).2.1
      · rw [nI_clamp (show j < 2 ^ 31 by omega)]
        obtain ⟨r1, r2, r3, r4, r5⟩ := REL_line (kx := 0) (v := b) hG (by omega) hL hj hR hT hN hV hQ
        refine ⟨hG, uN D (0 + 2) j b, RLn_line (kx := 0) hG (by omega) hL hj (fun i hi => ?_) ?_, r1, r2, r3, r4, r5⟩
        · have := a4 i hi
          simp only [uN]
          by_cases hij : i = j
          · simp [hij] at this ⊢; omega
          · simp [hij]; exact this
        · rw [psum_congr (E := uN D (0 + 2) j b) (E' := D) (uN_a _ _ _ (by decide)) (uN_a _ _ _ (by decide))]
          exact a8
  · refine ⟨fun _ => ?_, fun z => absurd rfl z⟩
    refine VX10_mark hG I1 y1 y2 ⟨_, XF.of (YX10_isLine hG I1 y1), ?_⟩
    rintro v I' ⟨rfl, rfl⟩
    exact bI_split (fun _ => ⟨rfl, hG, D, hL, hR, hT, hN, hV, hQ⟩) (fun z => absurd (by rw [e13]; exact z) v1)
set_option maxHeartbeats 4000000 in
theorem EQ_pace (h : REL G I) (y1 y2 : Int32) : EQ l C mX9_pace mX10_pace [.int y1, .int y2] G I := by
  obtain ⟨hG, D, hL, hR, hT, hN, hV, hQ⟩ := h
  obtain ⟨a1, a2, a3, a4, a5, a6, a7, a8⟩ := id hL
  have e13 : I 3 1 = I 69 1 := by rw [a3.1, a2.1]
  refine EQ_XF (Q := fun v I1 => XF fI l C mX10_pace 0 (xent mX10_pace [.ref 69, .int y1, .int y2]) [] G I1 (fun w I2 => w = v ∧ REL G I2)) (VX9_pace hG I y1 y2 ⟨_, ZlineAt hG I a3.1 a1.2.1 y1, ?_⟩) (fun _ _ h => h)
  rintro v I1 ⟨rfl, hv⟩
  rcases hv with ⟨v1, v2, rfl⟩ | ⟨v1, rfl⟩
  · obtain ⟨j, hj, rfl⟩ := line_of a3.1 a1.2.1 ⟨v1, v2⟩
    rw [nI_clamp (show j < 2 ^ 31 by omega)]
    obtain ⟨b1, b2, b3, b4, b5, b6, b7, b8⟩ := a6 j hj
    refine ⟨fun z => absurd z (by omega), fun _ => ⟨_, Zwithin hG I1 y2 1 5, ?_⟩⟩
    rintro v I2 ⟨rfl, rfl⟩
    have mstart : ∀ (K : xI) (Q : Int32 → xI → Prop), K 69 1 = I2 69 1 → (∃ Qc : Int32 → xI → Prop, XF fI l C mX10_in 0 (xent mX10_in [.int y2, .int 1, .int 5]) [] G K Qc ∧ ∀ (v_12 : Int32) (I_12 : xI), Qc v_12 I_12 → ((v_12 = 0 → Q (-1) I_12) ∧ (¬ (v_12 = 0) → vp_in (nI j) 4 ∧ Q (I_12 72 (nI j).toNatClampNeg) (wI I_12 72 (nI j).toNatClampNeg y2)))) → XF fI l C mX10_pace 0 (xent mX10_pace [.ref 69, .int (nI j), .int y2]) [] G K Q := by
      intro K Q hK hh
      refine VX10_pace hG K (nI j) y2 ⟨_, XF.of (YX10_isLine hG K (nI j)), ?_⟩
      rintro v I' ⟨rfl, rfl⟩
      refine bI_split (fun z => absurd ⟨v1, by rw [hK, ← e13]; exact v2⟩ z) (fun _ => hh)
    refine bI_split (fun hb => ?_) (fun hin => ⟨b1, ?_⟩)
    · refine mstart I2 _ rfl ⟨_, XF.of (YX10_in I2 y2 1 5), ?_⟩
      rintro v I' ⟨rfl, rfl⟩
      exact bI_split (fun _ => ⟨rfl, hG, D, hL, hR, hT, hN, hV, hQ⟩) (fun z => absurd z hb)
    · obtain ⟨b, c1, c2, rfl⟩ := in_of (lo := 1) (hi := 5) (by omega) hin (by omega)
      refine mstart _ _ (by rw [wI_ne _ _ _ (by omega)]) ⟨_, XF.of (YX10_in _ (nI b) 1 5), ?_⟩
      rintro v I' ⟨rfl, rfl⟩
      refine bI_split (fun z => absurd hin z) (fun _ => ⟨vp_in_nI (by omega) (by decide), ?_, ?_⟩)
      · rw [nI_clamp (show j < 2 ^ 31 by omega), wI_ne _ _ _ (by omega)]
        rw [b6]
        exact (a5 j hj).2.2.1
      · rw [nI_clamp (show j < 2 ^ 31 by omega)]
        obtain ⟨r1, r2, r3, r4, r5⟩ := REL_line (kx := 1) (v := b) hG (by omega) hL hj hR hT hN hV hQ
        refine ⟨hG, uN D (1 + 2) j b, RLn_line (kx := 1) hG (by omega) hL hj (fun i hi => ?_) ?_, r1, r2, r3, r4, r5⟩
        · have := a4 i hi
          simp only [uN]
          by_cases hij : i = j
          · simp [hij] at this ⊢; omega
          · simp [hij]; exact this
        · rw [psum_congr (E := uN D (1 + 2) j b) (E' := D) (uN_a _ _ _ (by decide)) (uN_a _ _ _ (by decide))]
          exact a8
  · refine ⟨fun _ => ?_, fun z => absurd rfl z⟩
    refine VX10_pace hG I1 y1 y2 ⟨_, XF.of (YX10_isLine hG I1 y1), ?_⟩
    rintro v I' ⟨rfl, rfl⟩
    exact bI_split (fun _ => ⟨rfl, hG, D, hL, hR, hT, hN, hV, hQ⟩) (fun z => absurd (by rw [e13]; exact z) v1)
set_option maxHeartbeats 4000000 in
theorem EQ_share (h : REL G I) (y1 : Int32) : EQ l C mX9_share mX10_share [.int y1] G I := by
  obtain ⟨hG, D, hL, hR, hT, hN, hV, hQ⟩ := h
  obtain ⟨a1, a2, a3, a4, a5, a6, a7, a8⟩ := id hL
  refine EQ_XF (Q := fun v I1 => XF fI l C mX10_share 0 (xent mX10_share [.ref 69, .int y1]) [] G I1 (fun w I2 => w = v ∧ REL G I2)) (VX9_share hG I y1 ⟨_, Zwithin hG I y1 1 160, ?_⟩) (fun _ _ h => h)
  rintro v I1 ⟨rfl, rfl⟩
  refine bI_split (fun hb => ?_) (fun hin => ?_)
  · refine VX10_share hG I1 y1 ⟨_, XF.of (YX10_in I1 y1 1 160), ?_⟩
    rintro v I' ⟨rfl, rfl⟩
    exact bI_split (fun _ => ⟨rfl, hG, D, hL, hR, hT, hN, hV, hQ⟩) (fun z => absurd z hb)
  · obtain ⟨b, b1, b2, rfl⟩ := in_of (lo := 1) (hi := 160) (by omega) hin (by omega)
    refine VX10_share hG _ (nI b) ⟨_, XF.of (YX10_in _ (nI b) 1 160), ?_⟩
    rintro v I' ⟨rfl, rfl⟩
    refine bI_split (fun z => absurd hin z) (fun _ => ?_)
    rw [wI_ne _ _ _ (show (69 : Nat) ≠ 3 by decide)]
    have ne : ∀ a, a ≠ 69 → a ≠ 3 → (wI (wI I1 3 3 (nI b)) 69 9 (nI b)) a = I1 a := fun a z1 z2 => by rw [wI_ne _ _ _ z1, wI_ne _ _ _ z2]
    have n61 : ∀ i, i ≠ 9 → (wI (wI I1 3 3 (nI b)) 69 9 (nI b)) 69 i = I1 69 i := fun i hi => by rw [wI_same, upd_ne _ _ hi, wI_ne _ _ _ (by decide)]
    refine ⟨by rw [a2.2.2, a3.2.2], hG, uN D 0 2 b, ?_, RRw_D (RRw_ext hR (fun a ha => ne a (by omega) (by omega))) (uN_k _ _ _ (by decide)) (fun x hx => uN_a _ _ _ (by omega)), RT_ext hT (fun a ha => ne a (by omega) (by omega)), RN_ext hN (by rw [ne 2 (by decide) (by decide)]) (fun a ha => ne a (by omega) (by omega)) (fun i hi => n61 i (by omega)) (fun a h1 h2 => ne a (by omega) (by omega)), by rw [ne 2 (by decide) (by decide), n61 44 (by decide)]; exact hV, RQ0_ext hQ (fun a ha => ne a (by omega) (by omega))⟩
    have e : ∀ x, x ≠ 0 → uN D 0 2 b x = D x := fun x hx => uN_a _ _ _ hx
    have e0 : ∀ i, i ≠ 2 → uN D 0 2 b 0 i = D 0 i := fun i hi => uN_k _ _ _ hi
    unfold RLn
    rw [e0 0 (by decide), e0 1 (by decide), uN_at, e 1 (by decide), e 2 (by decide), e 3 (by decide), e 4 (by decide), e 5 (by decide), e 6 (by decide), e 7 (by decide), psum_congr (E := uN D 0 2 b) (E' := D) (e 1 (by decide)) (e 4 (by decide)), n61 1 (by decide), n61 0 (by decide), ne 70 (by decide) (by decide), ne 71 (by decide) (by decide), ne 72 (by decide) (by decide), ne 73 (by decide) (by decide), ne 74 (by decide) (by decide), ne 75 (by decide) (by decide), ne 76 (by decide) (by decide)]
    refine ⟨⟨a1.1, a1.2.1, a1.2.2.1, a1.2.2.2.1, b1, b2⟩, ⟨a2.1, a2.2.1, by rw [wI_same, upd_same]⟩, ?_, a4, a5, fun j hj => ?_, a7, a8⟩
    · rw [wI_ne _ _ _ (by decide), wI_same, upd_ne _ _ (by decide), upd_ne _ _ (by decide), upd_same]; exact ⟨a3.1, a3.2.1, rfl⟩
    · have := a6 j hj
      rw [ne _ (by omega) (by omega)]
      exact this
end EQa
