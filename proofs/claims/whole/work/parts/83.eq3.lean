/-! the calls answer alike: part, hold, told -/
theorem psum_eq {D D' : aE} : ∀ n, (∀ i, i < n → sPart D' i = sPart D i) → psum D' n = psum D n := by
  intro n
  induction n with
  | zero => intro _; rfl
  | succ n ih => intro h; unfold psum; rw [ih (fun i hi => h i (by omega)), h n (by omega)]
theorem psum_set {D : aE} {j v : Nat} : ∀ n, j < n → D 1 j ≠ 0 → psum (uN D 4 j v) n + D 4 j = psum D n + v := by
  intro n
  induction n with
  | zero => intro h; omega
  | succ n ih =>
    intro hj h1
    have hs : ∀ i, i ≠ j → sPart (uN D 4 j v) i = sPart D i := by
      intro i hi
      unfold sPart
      rw [uN_a D _ _ (show (1 : Nat) ≠ 4 by decide), uN_k _ _ _ hi]
    unfold psum
    by_cases hjn : j = n
    · subst hjn
      have e1 : sPart (uN D 4 j v) j = v := by
        unfold sPart
        rw [uN_a D _ _ (show (1 : Nat) ≠ 4 by decide), if_neg h1, uN_at]
      have e2 : sPart D j = D 4 j := if_neg h1
      rw [e1, e2, psum_eq j (fun i hi => hs i (by omega))]
      omega
    · have := ih (by omega) h1
      rw [hs n (by omega)]
      omega
theorem wI_comm66 {A B : Nat} (h : A ≠ B) (I : xI) (k m : Nat) (v w : Int32) : wI (wI I A k v) B m w = wI (wI I B m w) A k v := by
  rw [wI_as, wI_as, wI_as, wI_as, wA_ne _ _ (Ne.symm h), wA_ne _ _ h, wA_comm _ h]
section EQa
variable {l : Launch} {C : xC} {G : xG} {I : xI}
set_option maxHeartbeats 4000000 in
theorem EQ_part (h : REL G I) (y1 y2 : Int32) : EQ l C mX9_part mX10_part [.int y1, .int y2] G I := by
  obtain ⟨hG, D, hL, hR, hT, hN, hV, hQ⟩ := h
  obtain ⟨a1, a2, a3, a4, a5, a6, a7, a8⟩ := id hL
  have e13 : I 3 1 = I 69 1 := by rw [a3.1, a2.1]
  have hp48 := psum_48 (D := D) (D 0 0) (fun j hj => (a4 j hj).2.2.2.2.1)
  refine EQ_XF (Q := fun v I1 => XF fI l C mX10_part 0 (xent mX10_part [.ref 69, .int y1, .int y2]) [] G I1 (fun w I2 => w = v ∧ REL G I2)) (VX9_part hG I y1 y2 ⟨_, ZlineAt hG I a3.1 a1.2.1 y1, ?_⟩) (fun _ _ h => h)
  rintro v I1 ⟨rfl, hv⟩
  rcases hv with ⟨v1, v2, rfl⟩ | ⟨v1, rfl⟩
  · obtain ⟨j, hj, rfl⟩ := line_of a3.1 a1.2.1 ⟨v1, v2⟩
    have kj : (nI j).toNatClampNeg = j := nI_clamp (by omega)
    rw [kj]
    obtain ⟨b1, b2, b3, b4, b5, b6, b7, b8⟩ := a6 j hj
    refine ⟨fun z => absurd z (by omega), fun _ => ⟨_, Zwithin hG I1 y2 0 12, ?_⟩⟩
    rintro v I2 ⟨rfl, rfl⟩
    have mstart : ∀ (K : xI) (Q : Int32 → xI → Prop), K 69 1 = I2 69 1 → (∃ Qc : Int32 → xI → Prop, XF fI l C mX10_in 0 (xent mX10_in [.int y2, .int 0, .int 12]) [] G K Qc ∧ ∀ (v_12 : Int32) (I_12 : xI), Qc v_12 I_12 → ((v_12 = 0 → Q (-1) I_12) ∧ (¬ (v_12 = 0) → vp_in (nI j) 4 ∧ (((I_12 70 (nI j).toNatClampNeg) = 0 → Q (-12) I_12) ∧ (¬ ((I_12 70 (nI j).toNatClampNeg) = 0) → (∃ Qc : Int32 → xI → Prop, XF fI l C mX10_allParts 0 (xent mX10_allParts [.ref 69]) [] G I_12 Qc ∧ ∀ (v_33 : Int32) (I_33 : xI), Qc v_33 I_33 → ((((v_33 - (I_33 73 (nI j).toNatClampNeg)) + y2) ≤ (I_33 69 0) → Q (I_33 73 (nI j).toNatClampNeg) (wI I_33 73 (nI j).toNatClampNeg y2)) ∧ (¬ (((v_33 - (I_33 73 (nI j).toNatClampNeg)) + y2) ≤ (I_33 69 0)) → Q (-2) I_33)))))))) → XF fI l C mX10_part 0 (xent mX10_part [.ref 69, .int (nI j), .int y2]) [] G K Q := by
      intro K Q hK hh
      refine VX10_part hG K (nI j) y2 ⟨_, XF.of (YX10_isLine hG K (nI j)), ?_⟩
      rintro v I' ⟨rfl, rfl⟩
      refine bI_split (fun z => absurd ⟨v1, by rw [hK, ← e13]; exact v2⟩ z) (fun _ => hh)
    refine bI_split (fun hb => ?_) (fun hin => ⟨b1, ?_, ?_⟩)
    · refine mstart I2 _ rfl ⟨_, XF.of (YX10_in I2 y2 0 12), ?_⟩
      rintro v I' ⟨rfl, rfl⟩
      exact bI_split (fun _ => ⟨rfl, hG, D, hL, hR, hT, hN, hV, hQ⟩) (fun z => absurd z hb)
    · intro hsure
      have hk0 : D 1 j ≠ 0 := fun z => hsure (b3.mpr z)
      obtain ⟨b, c1, c2, rfl⟩ := in_of (lo := 0) (hi := 12) (by omega) hin (by omega)
      refine ⟨_, ZpartsD hG hL, ?_⟩
      rintro v I3 ⟨rfl, rfl⟩
      have hset := psum_set (v := b) (D 0 0) hj hk0
      have hset0 := psum_set (v := 0) (D 0 0) hj hk0
      have h4 := (a4 j hj).2.2.2.2.1
      have hk1 := (a4 j hj).1
      have k62 : ¬ nI (D 1 j) = 0 := nI_ne0 (by omega) (by omega)
      rw [b7 hk0, a3.2.1, pk_sub (by omega), nI_add]
      refine pk_le _ _ (fun hle => ?_) (fun hgt => ?_) rfl rfl (by omega) (by omega)
      · have n65 : ∀ a, a ≠ gR G 4 j → (wI I3 (gR G 4 j) 2 (nI b)) a = I3 a := fun a ha => wI_ne _ _ _ ha
        refine mstart _ _ (by rw [n65 69 (by omega)]) ⟨_, XF.of (YX10_in _ (nI b) 0 12), ?_⟩
        rintro v I' ⟨rfl, rfl⟩
        refine bI_split (fun z => absurd hin z) (fun _ => ⟨vp_in_nI (by omega) (by decide), ?_⟩)
        rw [kj, n65 70 (by omega), (a5 j hj).1]
        refine ⟨fun z => absurd z k62, fun _ => ⟨fun v I' => v = nI (psum D (D 0 0)) ∧ I' = wI I3 (gR G 4 j) 2 (nI b), ?_, ?_⟩⟩
        · refine XF.mono (XF.of (YX10_allParts hG _ (by rw [n65 69 (by omega)]; exact a2.1) a1.2.1)) ?_
          rintro v I' ⟨rfl, rfl⟩
          exact ⟨mparts_eq (fun j hj => ⟨(a4 j hj).1, (a4 j hj).2.2.2.2.1⟩) (fun i hi => by rw [n65 70 (by omega), n65 73 (by omega)]; exact ⟨(a5 i hi).1, (a5 i hi).2.2.2.1⟩), rfl⟩
        · rintro v I' ⟨rfl, rfl⟩
          rw [n65 73 (by omega), n65 69 (by omega), (a5 j hj).2.2.2.1, a2.2.1, pk_sub (by omega), nI_add]
          refine ⟨fun _ => ⟨rfl, ?_⟩, fun z => absurd (nI_le hle (by omega)) z⟩
          obtain ⟨r1, r2, r3, r4, r5⟩ := REL_line (kx := 2) (v := b) hG (by omega) hL hj hR hT hN hV hQ
          refine ⟨hG, uN D (2 + 2) j b, RLn_line (kx := 2) hG (by omega) hL hj (fun i hi => ?_) ?_, r1, r2, r3, r4, r5⟩
          · have := a4 i hi
            simp only [uN]
            by_cases hij : i = j
            · simp [hij] at this ⊢; omega
            · simp [hij]; exact this
          · show psum (uN D 4 j b) (D 0 0) ≤ D 0 1
            omega
      · refine mstart I3 _ rfl ⟨_, XF.of (YX10_in _ (nI b) 0 12), ?_⟩
        rintro v I' ⟨rfl, rfl⟩
        refine bI_split (fun z => absurd hin z) (fun _ => ⟨vp_in_nI (by omega) (by decide), ?_⟩)
        rw [kj, (a5 j hj).1]
        refine ⟨fun z => absurd z k62, fun _ => ⟨_, ZallParts hG hL, ?_⟩⟩
        rintro v I' ⟨rfl, rfl⟩
        rw [(a5 j hj).2.2.2.1, a2.2.1, pk_sub (by omega), nI_add]
        exact ⟨fun z => absurd ((nI_leI (by omega) (by omega)).mp z) (by omega), fun _ => ⟨rfl, hG, D, hL, hR, hT, hN, hV, hQ⟩⟩
    · intro hpl
      have hk0 : D 1 j = 0 := b3.mp (Classical.byContradiction hpl)
      refine mstart I2 _ rfl ⟨_, XF.of (YX10_in _ y2 0 12), ?_⟩
      rintro v I' ⟨rfl, rfl⟩
      refine bI_split (fun z => absurd hin z) (fun _ => ⟨vp_in_nI (by omega) (by decide), ?_⟩)
      rw [kj, (a5 j hj).1, hk0]
      exact ⟨fun _ => ⟨rfl, hG, D, hL, hR, hT, hN, hV, hQ⟩, fun z => absurd rfl z⟩
  · refine ⟨fun _ => ?_, fun z => absurd rfl z⟩
    refine VX10_part hG I1 y1 y2 ⟨_, XF.of (YX10_isLine hG I1 y1), ?_⟩
    rintro v I' ⟨rfl, rfl⟩
    exact bI_split (fun _ => ⟨rfl, hG, D, hL, hR, hT, hN, hV, hQ⟩) (fun z => absurd (by rw [e13]; exact z) v1)
set_option maxHeartbeats 4000000 in
theorem EQ_hold (h : REL G I) (y1 y2 y3 y4 : Int32) : EQ l C mX9_hold mX10_hold [.int y1, .int y2, .int y3, .int y4] G I := by
  obtain ⟨hG, D, hL, hR, hT, hN, hV, hQ⟩ := h
  obtain ⟨a1, a2, a3, a4, a5, a6, a7, a8⟩ := id hL
  have e13 : I 3 1 = I 69 1 := by rw [a3.1, a2.1]
  -- the reference says BAD where one bound does not hold
  have bad : ¬ ((0 ≤ y1 ∧ y1 ≤ I 69 1 - 1) ∧ (1 ≤ y2 ∧ y2 ≤ 12) ∧ (0 ≤ y3 ∧ y3 ≤ y2 - 1) ∧ (0 ≤ y4 ∧ y4 ≤ 5)) → XF fI l C mX10_hold 0 (xent mX10_hold [.ref 69, .int y1, .int y2, .int y3, .int y4]) [] G I (fun w I2 => w = (-1) ∧ REL G I2) := by
    intro hb
    have ok : ∀ v : Int32, v = (-1) → v = (-1) ∧ REL G I := fun v hv => ⟨hv, hG, D, hL, hR, hT, hN, hV, hQ⟩
    refine VX10_hold hG I y1 y2 y3 y4 ⟨_, XF.of (YX10_isLine hG I y1), ?_⟩
    rintro v I1 ⟨rfl, rfl⟩
    refine bI_split (fun _ => ok _ rfl) (fun p1 => ⟨_, XF.of (YX10_in I1 y2 1 12), ?_⟩)
    rintro v I2 ⟨rfl, rfl⟩
    refine bI_split (fun _ => ok _ rfl) (fun p2 => ⟨_, XF.of (YX10_in I2 y3 0 11), ?_⟩)
    rintro v I3 ⟨rfl, rfl⟩
    refine bI_split (fun _ => ok _ rfl) (fun p3 => ⟨fun _ => ok _ rfl, fun p5 => ⟨_, XF.of (YX10_in I3 y4 0 5), ?_⟩⟩)
    rintro v I4 ⟨rfl, rfl⟩
    refine bI_split (fun _ => ok _ rfl) (fun p4 => ?_)
    exfalso
    apply hb
    obtain ⟨b, c1, c2, rfl⟩ := in_of (lo := 1) (hi := 12) (by omega) p2 (by omega)
    obtain ⟨d, c3, c4, rfl⟩ := in_of (lo := 0) (hi := 11) (by omega) p3 (by omega)
    have hdb : d < b := Nat.lt_of_not_le (fun z => p5 (nI_le z (by omega)))
    refine ⟨p1, p2, ⟨p3.1, ?_⟩, p4⟩
    rw [show (1 : Int32) = nI 1 from rfl, pk_sub (by omega)]
    exact nI_le (by omega) (by omega)
  refine EQ_XF (Q := fun v I1 => XF fI l C mX10_hold 0 (xent mX10_hold [.ref 69, .int y1, .int y2, .int y3, .int y4]) [] G I1 (fun w I2 => w = v ∧ REL G I2)) (VX9_hold hG I y1 y2 y3 y4 ⟨_, ZlineAt hG I a3.1 a1.2.1 y1, ?_⟩) (fun _ _ h => h)
  rintro v I1 ⟨rfl, hv⟩
  rcases hv with ⟨v1, v2, rfl⟩ | ⟨v1, rfl⟩
  · obtain ⟨j, hj, rfl⟩ := line_of a3.1 a1.2.1 ⟨v1, v2⟩
    have kj : (nI j).toNatClampNeg = j := nI_clamp (by omega)
    rw [kj]
    obtain ⟨b1, b2, b3, b4, b5, b6, b7, b8⟩ := a6 j hj
    refine ⟨fun z => absurd z (by omega), fun _ => ⟨_, Zwithin hG I1 y2 1 12, ?_⟩⟩
    rintro v I2 ⟨rfl, rfl⟩
    refine bI_split (fun z => bad (fun q => z q.2.1)) (fun p2 => ⟨_, Zwithin hG I2 y3 0 (y2 - 1), ?_⟩)
    rintro v I3 ⟨rfl, rfl⟩
    refine bI_split (fun z => bad (fun q => z q.2.2.1)) (fun p3 => ⟨_, Zwithin hG I3 y4 0 5, ?_⟩)
    rintro v I4 ⟨rfl, rfl⟩
    refine bI_split (fun z => bad (fun q => z q.2.2.2)) (fun p4 => ⟨b1, ?_⟩)
    obtain ⟨b, c1, c2, rfl⟩ := in_of (lo := 1) (hi := 12) (by omega) p2 (by omega)
    rw [show (1 : Int32) = nI 1 from rfl, pk_sub (by omega)] at p3
    obtain ⟨d, c3, c4, rfl⟩ := in_of (lo := 0) (hi := b - 1) (by omega) p3 (by omega)
    obtain ⟨f, c5, c6, rfl⟩ := in_of (lo := 0) (hi := 5) (by omega) p4 (by omega)
    have m2 : ∀ (K : xI) (Q : Int32 → xI → Prop), K 69 1 = I4 69 1 → (vp_in (nI j) 4 ∧ (((K 70 j) = 2 → Q 1 (wI (wI (wI K 74 j (nI b)) 75 j (nI d)) 76 j (nI f))) ∧ (¬ ((K 70 j) = 2) → Q (-12) K))) → XF fI l C mX10_hold 0 (xent mX10_hold [.ref 69, .int (nI j), .int (nI b), .int (nI d), .int (nI f)]) [] G K Q := by
      intro K Q hK hh
      refine VX10_hold hG K (nI j) (nI b) (nI d) (nI f) ⟨_, XF.of (YX10_isLine hG K (nI j)), ?_⟩
      rintro v K1 ⟨rfl, rfl⟩
      refine bI_split (fun z => absurd ⟨v1, by rw [hK, ← e13]; exact v2⟩ z) (fun _ => ⟨_, XF.of (YX10_in K1 (nI b) 1 12), ?_⟩)
      rintro v K2 ⟨rfl, rfl⟩
      refine bI_split (fun z => absurd p2 z) (fun _ => ⟨_, XF.of (YX10_in K2 (nI d) 0 11), ?_⟩)
      rintro v K3 ⟨rfl, rfl⟩
      refine bI_split (fun z => absurd ⟨nI_pos' (by omega), show nI d ≤ nI 11 from nI_le (by omega) (by omega)⟩ z) (fun _ => ⟨fun z => absurd ((nI_leI (by omega) (by omega)).mp z) (by omega), fun _ => ⟨_, XF.of (YX10_in K3 (nI f) 0 5), ?_⟩⟩)
      rintro v K4 ⟨rfl, rfl⟩
      refine bI_split (fun z => absurd p4 z) (fun _ => ?_)
      rw [kj]
      exact hh
    have hk1 := (a4 j hj).1
    refine ⟨fun hh => ?_, fun hh => ?_⟩
    · have hk2 := b4.mp hh
      have nA : ∀ a, a ≠ gR G 4 j → (wI (wI (wI I4 (gR G 4 j) 3 (nI b)) (gR G 4 j) 4 (nI d)) (gR G 4 j) 5 (nI f)) a = I4 a := fun a ha => by rw [wI_ne _ _ _ ha, wI_ne _ _ _ ha, wI_ne _ _ _ ha]
      refine m2 _ _ (by rw [nA 69 (by omega)]) ⟨vp_in_nI (by omega) (by decide), ?_⟩
      rw [nA 70 (by omega), (a5 j hj).1, hk2]
      refine ⟨fun _ => ⟨rfl, ?_⟩, fun z => absurd rfl z⟩
      -- one number after another
      have r3 : ∀ i, i < D 0 0 → uN D 5 j b 1 i ≤ 2 ∧ uN D 5 j b 2 i ≤ 12 ∧ 1 ≤ uN D 5 j b 3 i ∧ uN D 5 j b 3 i ≤ 5 ∧ uN D 5 j b 4 i ≤ 12 ∧ uN D 5 j b 5 i ≤ 12 ∧ uN D 5 j b 6 i ≤ 12 ∧ uN D 5 j b 7 i ≤ 5 := by
        intro i hi
        have := a4 i hi
        simp only [uN]
        by_cases hij : i = j
        · simp [hij] at this ⊢; omega
        · simp [hij]; exact this
      have hL1 := RLn_line (kx := 3) (v := b) hG (by omega) hL hj r3 (by rw [psum_congr (E := uN D (3 + 2) j b) (E' := D) (uN_a _ _ _ (by decide)) (uN_a _ _ _ (by decide))]; exact a8)
      obtain ⟨s1, s2, s3, s4, s5⟩ := REL_line (kx := 3) (v := b) hG (by omega) hL hj hR hT hN hV hQ
      have hj1 : j < uN D (3 + 2) j b 0 0 := by rw [uN_a _ _ _ (by decide)]; exact hj
      have r4 : ∀ i, i < uN D (3 + 2) j b 0 0 → uN (uN D (3 + 2) j b) (4 + 2) j d 1 i ≤ 2 ∧ uN (uN D (3 + 2) j b) (4 + 2) j d 2 i ≤ 12 ∧ 1 ≤ uN (uN D (3 + 2) j b) (4 + 2) j d 3 i ∧ uN (uN D (3 + 2) j b) (4 + 2) j d 3 i ≤ 5 ∧ uN (uN D (3 + 2) j b) (4 + 2) j d 4 i ≤ 12 ∧ uN (uN D (3 + 2) j b) (4 + 2) j d 5 i ≤ 12 ∧ uN (uN D (3 + 2) j b) (4 + 2) j d 6 i ≤ 12 ∧ uN (uN D (3 + 2) j b) (4 + 2) j d 7 i ≤ 5 := by
        intro i hi
        rw [uN_a _ _ _ (by decide)] at hi
        have := a4 i hi
        simp only [uN]
        by_cases hij : i = j
        · simp [hij] at this ⊢; omega
        · simp [hij]; exact this
      have hL2 := RLn_line (kx := 4) (v := d) hG (by omega) hL1 hj1 r4 (by rw [psum_congr (E := uN (uN D (3 + 2) j b) (4 + 2) j d) (E' := D) (by rw [uN_a _ _ _ (by decide), uN_a _ _ _ (by decide)]) (by rw [uN_a _ _ _ (by decide), uN_a _ _ _ (by decide)])]; exact a8)
      obtain ⟨t1, t2, t3, t4, t5⟩ := REL_line (kx := 4) (v := d) hG (by omega) hL1 hj1 s1 s2 s3 s4 s5
      have hj2 : j < uN (uN D (3 + 2) j b) (4 + 2) j d 0 0 := by rw [uN_a _ _ _ (by decide)]; exact hj1
      have r5 : ∀ i, i < uN (uN D (3 + 2) j b) (4 + 2) j d 0 0 → uN (uN (uN D (3 + 2) j b) (4 + 2) j d) (5 + 2) j f 1 i ≤ 2 ∧ uN (uN (uN D (3 + 2) j b) (4 + 2) j d) (5 + 2) j f 2 i ≤ 12 ∧ 1 ≤ uN (uN (uN D (3 + 2) j b) (4 + 2) j d) (5 + 2) j f 3 i ∧ uN (uN (uN D (3 + 2) j b) (4 + 2) j d) (5 + 2) j f 3 i ≤ 5 ∧ uN (uN (uN D (3 + 2) j b) (4 + 2) j d) (5 + 2) j f 4 i ≤ 12 ∧ uN (uN (uN D (3 + 2) j b) (4 + 2) j d) (5 + 2) j f 5 i ≤ 12 ∧ uN (uN (uN D (3 + 2) j b) (4 + 2) j d) (5 + 2) j f 6 i ≤ 12 ∧ uN (uN (uN D (3 + 2) j b) (4 + 2) j d) (5 + 2) j f 7 i ≤ 5 := by
        intro i hi
        rw [uN_a _ _ _ (by decide), uN_a _ _ _ (by decide)] at hi
        have := a4 i hi
        simp only [uN]
        by_cases hij : i = j
        · simp [hij] at this ⊢; omega
        · simp [hij]; exact this
      have hL3 := RLn_line (kx := 5) (v := f) hG (by omega) hL2 hj2 r5 (by rw [psum_congr (E := uN (uN (uN D (3 + 2) j b) (4 + 2) j d) (5 + 2) j f) (E' := D) (by rw [uN_a _ _ _ (by decide), uN_a _ _ _ (by decide), uN_a _ _ _ (by decide)]) (by rw [uN_a _ _ _ (by decide), uN_a _ _ _ (by decide), uN_a _ _ _ (by decide)])]; exact a8)
      obtain ⟨u1, u2, u3, u4, u5⟩ := REL_line (kx := 5) (v := f) hG (by omega) hL2 hj2 t1 t2 t3 t4 t5
      have hA : gR G 4 j = 5 ∨ 103 ≤ gR G 4 j := b2
      have he : wI (wI (wI (wI (wI (wI I4 (gR G 4 j) 3 (nI b)) (gR G 4 j) 4 (nI d)) (gR G 4 j) 5 (nI f)) 74 j (nI b)) 75 j (nI d)) 76 j (nI f) = wI (wI (wI (wI (wI (wI I4 (gR G 4 j) 3 (nI b)) (71 + 3) j (nI b)) (gR G 4 j) 4 (nI d)) (71 + 4) j (nI d)) (gR G 4 j) 5 (nI f)) (71 + 5) j (nI f) := by
        generalize gR G 4 j = A at *
        have e66 : A ≠ 74 := by omega
        have e67 : A ≠ 75 := by omega
        have e68 : A ≠ 76 := by omega
        rw [show 71 + 3 = 74 from rfl, show 71 + 4 = 75 from rfl, show 71 + 5 = 76 from rfl]
        rw [wI_comm66 e66 _ 5 j, wI_comm66 e66 _ 4 j, wI_comm66 e67 _ 5 j]
      rw [he]
      exact ⟨hG, _, hL3, u1, u2, u3, u4, u5⟩
    · refine m2 I4 _ rfl ⟨vp_in_nI (by omega) (by decide), ?_⟩
      rw [(a5 j hj).1]
      refine ⟨fun z => ?_, fun _ => ⟨rfl, hG, D, hL, hR, hT, hN, hV, hQ⟩⟩
      exact absurd (b4.mpr ((nI_eq (by omega) (by omega)).mp z)) hh
  · refine ⟨fun _ => bad (fun q => v1 (by rw [e13]; exact q.1)), fun z => absurd rfl z⟩
end EQa
