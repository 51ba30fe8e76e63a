/-! the calls answer alike: rows, what a run told -/
section EQa
variable {l : Launch} {C : xC} {G : xG} {I : xI}
theorem RRw_set {I' : xI} {D D' : aE} {r : Nat} (hr : r < 4) (h : RRw I D) (h0 : D' 0 0 = D 0 0) (hD : ∀ i, i ≠ r → D' 20 i = D 20 i ∧ D' 21 i = D 21 i ∧ D' (30 + i) = D (30 + i) ∧ D' (40 + i) = D (40 + i)) (hc : ∀ i, i < 4 → i ≠ r → I' 81 i = I 81 i ∧ I' 84 i = I 84 i ∧ I' (49 + 3 * i) = I (49 + 3 * i) ∧ I' (49 + 3 * i + 1) = I (49 + 3 * i + 1) ∧ I' (49 + 3 * i + 2) = I (49 + 3 * i + 2) ∧ ∀ k, k < 80 → I' 82 (80 * i + k) = I 82 (80 * i + k) ∧ I' 83 (80 * i + k) = I 83 (80 * i + k))
    (hn : D' 20 r ≤ 80 ∧ I' 81 r = nI (D' 20 r) ∧ I' (49 + 3 * r) 2 = nI (D' 20 r) ∧ (∀ k, k < D' 20 r → D' (40 + r) k < D 0 0 ∧ D' (30 + r) k < 40 ∧ I' 82 (80 * r + k) = nI (D' (30 + r) k) ∧ I' 83 (80 * r + k) = nI (D' (40 + r) k) ∧ I' (49 + 3 * r + 1) k = nI (D' (30 + r) k) ∧ I' (49 + 3 * r + 2) k = nI (D' (40 + r) k)) ∧ (∀ i k, i ≤ k → k < D' 20 r → D' (30 + r) i ≤ D' (30 + r) k) ∧ (D' 21 r ≤ 1 ∧ I' 84 r = nI (D' 21 r) ∧ I' (49 + 3 * r) 3 = nI (D' 21 r))) : RRw I' D' := by
  intro i hi
  by_cases hir : i = r
  · subst hir
    rw [h0]
    exact hn
  · obtain ⟨d1, d2, d3, d4⟩ := hD i hir
    obtain ⟨c1, c2, c3, c4, c5, c6⟩ := hc i hi hir
    obtain ⟨b1, b2, b3, b4, b5, b6⟩ := h i hi
    rw [d1, d2, d3, d4, c1, c2, c3, c4, c5, h0]
    exact ⟨b1, b2, b3, fun k hk => by rw [(c6 k (by omega)).1, (c6 k (by omega)).2]; exact b4 k hk, b5, b6⟩
set_option maxHeartbeats 4000000 in
theorem EQ_clear (h : REL G I) (y1 : Int32) : EQ l C mX9_clear mX10_clear [.int y1] G I := by
  have hrel := h
  obtain ⟨hG, D, hL, hR, hT, hN, hV, hQ⟩ := h
  refine EQ_XF (Q := fun v I1 => XF fI l C mX10_clear 0 (xent mX10_clear [.ref 69, .int y1]) [] G I1 (fun w I2 => w = v ∧ REL G I2)) (VX9_clear hG I y1 ⟨_, ZrowAt hG I y1, ?_⟩) (fun _ _ h => h)
  rintro v I1 ⟨rfl, hv⟩
  rcases hv with ⟨v1, v2, rfl⟩ | ⟨v1, rfl⟩
  · obtain ⟨r, hr, rfl⟩ := row_of v1 v2
    have kr : (nI r).toNatClampNeg = r := nI_clamp (by omega)
    rw [kr]
    obtain ⟨b1, b2, b3, b4, b5, b6⟩ := hR r hr
    refine ⟨fun z => absurd z (by omega), fun _ => ⟨(RW49 hG hr).1, ?_⟩⟩
    refine VX10_clear hG _ (nI r) ⟨_, XF.of (YX10_isRow _ (nI r)), ?_⟩
    rintro v I' ⟨rfl, rfl⟩
    refine bI_split (fun z => absurd ⟨v1, v2⟩ z) (fun _ => ⟨vp_in_nI hr (by decide), ?_⟩)
    rw [kr]
    generalize hK : wI (wI (wI (wI I1 (49 + 3 * r) 2 0) (49 + 3 * r) 3 0) 81 r 0) 84 r 0 = K
    have ne : ∀ a, a ≠ 49 + 3 * r → a ≠ 81 → a ≠ 84 → K a = I1 a := fun a z1 z2 z3 => by rw [← hK, wI_ne _ _ _ z3, wI_ne _ _ _ z2, wI_ne _ _ _ z1, wI_ne _ _ _ z1]
    have nw : K (49 + 3 * r) = upd (upd (I1 (49 + 3 * r)) 2 0) 3 0 := by rw [← hK, wI_ne _ _ _ (by omega), wI_ne _ _ _ (by omega), wI_same, wI_same]
    have n73 : K 81 = upd (I1 81) r 0 := by rw [← hK, wI_ne _ _ _ (by decide), wI_same, wI_ne _ _ _ (by omega), wI_ne _ _ _ (by omega)]
    have n76 : K 84 = upd (I1 84) r 0 := by rw [← hK, wI_same, wI_ne _ _ _ (by decide), wI_ne _ _ _ (by omega), wI_ne _ _ _ (by omega)]
    refine ⟨by rw [wI_ne _ _ _ (by omega), wI_ne _ _ _ (by omega), b2, b3], hG, uN (uN D 20 r 0) 21 r 0, ?_, ?_, RT_ext hT (fun a ha => ne a (by omega) (by omega) (by omega)), RN_ext hN (by rw [ne 2 (by omega) (by decide) (by decide)]) (fun a ha => ne a (by omega) (by omega) (by omega)) (fun i hi => by rw [ne 69 (by omega) (by decide) (by decide)]) (fun a h1 h2 => ne a (by omega) (by omega) (by omega)), by rw [ne 2 (by omega) (by decide) (by decide), ne 69 (by omega) (by decide) (by decide)]; exact hV, RQ0_ext hQ (fun a ha => ne a (by omega) (by omega) (by omega))⟩
    · have e : ∀ x, x < 20 → uN (uN D 20 r 0) 21 r 0 x = D x := fun x hx => by rw [uN_a _ _ _ (by omega), uN_a _ _ _ (by omega)]
      have := RLn_ext (D := D) hL (ne 3 (by omega) (by decide) (by decide)) (fun a z1 _ => ne a (by omega) (by omega) (by omega)) (fun i _ => by rw [ne 69 (by omega) (by decide) (by decide)]) (fun a z1 z2 => ne a (by omega) (by omega) (by omega))
      unfold RLn at this ⊢
      rw [e 0 (by omega), e 1 (by omega), e 2 (by omega), e 3 (by omega), e 4 (by omega), e 5 (by omega), e 6 (by omega), e 7 (by omega), psum_congr (E := uN (uN D 20 r 0) 21 r 0) (E' := D) (e 1 (by omega)) (e 4 (by omega))]
      exact this
    · refine RRw_set hr hR (by rw [uN_a _ _ _ (by decide), uN_a _ _ _ (by decide)]) (fun i hi => ⟨by rw [uN_a _ _ _ (by decide), uN_k _ _ _ hi], by rw [uN_k _ _ _ hi, uN_a _ _ _ (by decide)], by rw [uN_a _ _ _ (by omega), uN_a _ _ _ (by omega)], by rw [uN_a _ _ _ (by omega), uN_a _ _ _ (by omega)]⟩) (fun i hi hir => ⟨by rw [n73, upd_ne _ _ hir], by rw [n76, upd_ne _ _ hir], ne _ (by omega) (by omega) (by omega), ne _ (by omega) (by omega) (by omega), ne _ (by omega) (by omega) (by omega), fun k _ => ⟨by rw [ne 82 (by omega) (by decide) (by decide)], by rw [ne 83 (by omega) (by decide) (by decide)]⟩⟩) ?_
      rw [show uN (uN D 20 r 0) 21 r 0 20 r = 0 from by rw [uN_a _ _ _ (by decide), uN_at], uN_at, n73, n76, nw]
      exact ⟨by omega, by rw [upd_same]; rfl, by rw [upd_ne _ _ (by decide), upd_same]; rfl, fun k hk => absurd hk (by omega), fun i k _ hk => absurd hk (by omega), by omega, by rw [upd_same]; rfl, by rw [upd_same]; rfl⟩
  · refine ⟨fun _ => ?_, fun z => absurd rfl z⟩
    refine VX10_clear hG I1 y1 ⟨_, XF.of (YX10_isRow I1 y1), ?_⟩
    rintro v I' ⟨rfl, rfl⟩
    exact bI_split (fun _ => ⟨rfl, hrel⟩) (fun z => absurd z v1)
theorem Lpass9 (hG : SH G) {K : xI} {v : Nat} {x1 x2 : Int32} (h : ∀ i, i < 4 → I (49 + 3 * i) 3 = K 84 i) : ∀ (k i : Nat), i ≤ 4 → 4 < i + k → XF fI l C mX9_pass 23 [some (.ref 2), some (.int x1), some (.int x2), some (.ref v), some (.int (cntP K i)), some (.int (nI i))] [] G I (fun r I' => r = cntP K 4 ∧ I' = I) := by
  intro k
  induction k with
  | zero => intro i h1 h2; exact absurd h2 (by omega)
  | succ k ih =>
    intro i h1 h2
    refine VX9_pass_23 hG I x1 x2 _ (nI i) (pk_le 4 i (fun hle => ?_) (fun hlt => ?_) rfl rfl)
    · have : i = 4 := by omega
      subst this
      exact ⟨rfl, rfl⟩
    · rw [nI_clamp (show i < 2 ^ 31 by omega), h i hlt]
      refine ⟨vp_in_nI hlt (by decide), fun hz => ?_, fun hz => ?_⟩
      · refine XF.to (ih (i + 1) (by omega) (by omega)) ?_ rfl rfl
        rw [show cntP K (i + 1) = cntP K i + (if K 84 i = 0 then 0 else 1) from rfl, if_pos hz, Int32.add_zero, nI_1]
      · refine XF.to (ih (i + 1) (by omega) (by omega)) ?_ rfl rfl
        rw [show cntP K (i + 1) = cntP K i + (if K 84 i = 0 then 0 else 1) from rfl, if_neg hz, nI_1]
set_option maxHeartbeats 4000000 in
theorem EQ_pass (h : REL G I) (y1 y2 : Int32) (hy : y2 = 0 ∨ y2 = 1) : EQ l C mX9_pass mX10_pass [.int y1, .int y2] G I := by
  have hrel := h
  obtain ⟨hG, D, hL, hR, hT, hN, hV, hQ⟩ := h
  refine EQ_XF (Q := fun v I1 => XF fI l C mX10_pass 0 (xent mX10_pass [.ref 69, .int y1, .int y2]) [] G I1 (fun w I2 => w = v ∧ REL G I2)) (VX9_pass hG I y1 y2 ⟨_, ZrowAt hG I y1, ?_⟩) (fun _ _ h => h)
  rintro v I1 ⟨rfl, hv⟩
  rcases hv with ⟨v1, v2, rfl⟩ | ⟨v1, rfl⟩
  · obtain ⟨r, hr, rfl⟩ := row_of v1 v2
    have kr : (nI r).toNatClampNeg = r := nI_clamp (by omega)
    rw [kr]
    obtain ⟨b1, b2, b3, b4, b5, b6⟩ := hR r hr
    obtain ⟨b, hb1, rfl⟩ : ∃ b, b ≤ 1 ∧ y2 = nI b := by
      rcases hy with rfl | rfl
      · exact ⟨0, by omega, rfl⟩
      · exact ⟨1, by omega, rfl⟩
    refine ⟨fun z => absurd z (by omega), fun _ => ⟨(RW49 hG hr).1, hy, ?_⟩⟩
    have hcell : ∀ i, i < 4 → (wI I1 (49 + 3 * r) 3 (nI b)) (49 + 3 * i) 3 = (wI (wI I1 (49 + 3 * r) 3 (nI b)) 84 r (nI b)) 84 i := by
      intro i hi
      rw [wI_same, wI_ne _ _ _ (show (84 : Nat) ≠ 49 + 3 * r by omega)]
      by_cases hir : i = r
      · subst hir; rw [wI_same, upd_same, upd_same]
      · rw [wI_ne _ _ _ (by omega), upd_ne _ _ hir]
        have := (hR i hi).2.2.2.2.2
        rw [this.2.1, this.2.2]
    refine XF.mono (Lpass9 hG (K := wI (wI I1 (49 + 3 * r) 3 (nI b)) 84 r (nI b)) hcell 5 0 (by omega) (by omega)) ?_
    rintro v I2 ⟨rfl, rfl⟩
    refine XF.mono (XF.of (YX10_pass hG _ (nI r) (nI b) hy)) ?_
    rintro w I' ⟨rfl, rfl⟩
    refine ⟨by unfold sX10_pass; rw [if_pos ⟨v1, v2⟩, kr], ?_⟩
    unfold tX10_pass
    rw [if_pos ⟨v1, v2⟩, kr]
    generalize hK : wI (wI I1 (49 + 3 * r) 3 (nI b)) 84 r (nI b) = K
    have ne : ∀ a, a ≠ 49 + 3 * r → a ≠ 84 → K a = I1 a := fun a z1 z3 => by rw [← hK, wI_ne _ _ _ z3, wI_ne _ _ _ z1]
    have nw : K (49 + 3 * r) = upd (I1 (49 + 3 * r)) 3 (nI b) := by rw [← hK, wI_ne _ _ _ (by omega), wI_same]
    have n76 : K 84 = upd (I1 84) r (nI b) := by rw [← hK, wI_same, wI_ne _ _ _ (by omega)]
    refine ⟨hG, uN D 21 r b, ?_, ?_, RT_ext hT (fun a ha => ne a (by omega) (by omega)), RN_ext hN (by rw [ne 2 (by omega) (by decide)]) (fun a ha => ne a (by omega) (by omega)) (fun i hi => by rw [ne 69 (by omega) (by decide)]) (fun a h1 h2 => ne a (by omega) (by omega)), by rw [ne 2 (by omega) (by decide), ne 69 (by omega) (by decide)]; exact hV, RQ0_ext hQ (fun a ha => ne a (by omega) (by omega))⟩
    · have e : ∀ x, x < 20 → uN D 21 r b x = D x := fun x hx => by rw [uN_a _ _ _ (by omega)]
      have := RLn_ext (D := D) hL (ne 3 (by omega) (by decide)) (fun a z1 _ => ne a (by omega) (by omega)) (fun i _ => by rw [ne 69 (by omega) (by decide)]) (fun a z1 z2 => ne a (by omega) (by omega))
      unfold RLn at this ⊢
      rw [e 0 (by omega), e 1 (by omega), e 2 (by omega), e 3 (by omega), e 4 (by omega), e 5 (by omega), e 6 (by omega), e 7 (by omega), psum_congr (E := uN D 21 r b) (E' := D) (e 1 (by omega)) (e 4 (by omega))]
      exact this
    · refine RRw_set hr hR (by rw [uN_a _ _ _ (by decide)]) (fun i hi => ⟨by rw [uN_a _ _ _ (by decide)], by rw [uN_k _ _ _ hi], by rw [uN_a _ _ _ (by omega)], by rw [uN_a _ _ _ (by omega)]⟩) (fun i hi hir => ⟨by rw [ne 81 (by omega) (by decide)], by rw [n76, upd_ne _ _ hir], ne _ (by omega) (by omega), ne _ (by omega) (by omega), ne _ (by omega) (by omega), fun k _ => ⟨by rw [ne 82 (by omega) (by decide)], by rw [ne 83 (by omega) (by decide)]⟩⟩) ?_
      rw [uN_at, uN_a _ _ _ (show (20 : Nat) ≠ 21 by decide), uN_a _ _ _ (show 40 + r ≠ 21 by omega), uN_a _ _ _ (show 30 + r ≠ 21 by omega), ne 81 (by omega) (by decide), ne 82 (by omega) (by decide), ne 83 (by omega) (by decide), ne (49 + 3 * r + 1) (by omega) (by omega), ne (49 + 3 * r + 2) (by omega) (by omega), nw, n76]
      exact ⟨b1, b2, by rw [upd_ne _ _ (by decide)]; exact b3, b4, b5, hb1, by rw [upd_same], by rw [upd_same]⟩
  · refine ⟨fun _ => ?_, fun z => absurd rfl z⟩
    refine XF.mono (XF.of (YX10_pass hG I1 y1 y2 hy)) ?_
    rintro w I' ⟨rfl, rfl⟩
    unfold sX10_pass tX10_pass
    rw [if_neg v1, if_neg v1]
    exact ⟨rfl, hrel⟩
set_option maxHeartbeats 4000000 in
theorem EQ_fate (h : REL G I) (y1 y2 : Int32) : EQ l C mX9_fate mX10_fate [.int y1, .int y2] G I := by
  have hrel := h
  obtain ⟨hG, D, hL, hR, hT, hN, hV, hQ⟩ := h
  refine EQ_XF (Q := fun v I1 => XF fI l C mX10_fate 0 (xent mX10_fate [.ref 69, .int y1, .int y2]) [] G I1 (fun w I2 => w = v ∧ REL G I2)) (VX9_fate hG I y1 y2 ⟨fun h => ?_, fun h => ?_⟩) (fun _ _ h => h)
  · rcases ran_cases hN with q | q
    · exact VX10_fate hG I y1 y2 ⟨fun _ => ⟨rfl, hrel⟩, fun z => absurd q.2 z⟩
    · exact absurd h q.1
  · obtain ⟨c, c1, c2, c3 | ⟨c3, c4, c5, c6, c7, c8, c9, c10⟩⟩ := hN
    · exact absurd c3.1 h
    · have h34 : ¬ I 69 34 = 0 := by rw [c4]; decide
      have mst : ∀ (Q : Int32 → xI → Prop), (¬ (0 ≤ y1 ∧ y1 ≤ I 69 35 - 1) → Q (-1) I) → ((0 ≤ y1 ∧ y1 ≤ I 69 35 - 1) → ¬ (0 ≤ y2 ∧ y2 ≤ 2) → Q (-1) I) → ((0 ≤ y1 ∧ y1 ≤ I 69 35 - 1) → (0 ≤ y2 ∧ y2 ≤ 2) → ((y2 = 0 → vp_in y1 80 ∧ Q (I 96 y1.toNatClampNeg) I) ∧ (¬ (y2 = 0) → ((y2 = 1 → vp_in y1 80 ∧ Q (I 97 y1.toNatClampNeg) I) ∧ (¬ (y2 = 1) → vp_in y1 80 ∧ Q (I 98 y1.toNatClampNeg) I))))) → XF fI l C mX10_fate 0 (xent mX10_fate [.ref 69, .int y1, .int y2]) [] G I Q := by
        intro Q h1 h2 h3
        refine VX10_fate hG I y1 y2 ⟨fun z => absurd z h34, fun _ => ⟨_, XF.of (YX10_in I y1 0 _), ?_⟩⟩
        rintro v I1 ⟨rfl, rfl⟩
        refine bI_split h1 (fun p1 => ⟨_, XF.of (YX10_in I1 y2 0 2), ?_⟩)
        rintro v I2 ⟨rfl, rfl⟩
        exact bI_split (h2 p1) (h3 p1)
      have e14 : I 8 14 = I 69 35 := by rw [c5, c2]
      refine ⟨_, Zwithin hG I y1 0 _, ?_⟩
      rintro v I1 ⟨rfl, rfl⟩
      rw [e14]
      refine bI_split (fun hb => mst _ (fun _ => ⟨rfl, hrel⟩) (fun z => absurd z hb) (fun z => absurd z hb)) (fun hin => ?_)
      obtain ⟨k, hk, rfl⟩ := vp_in_of (vin_l c2 (Nat.le_refl _) (by omega) hin) (by omega)
      have kk : (nI k).toNatClampNeg = k := nI_clamp (by omega)
      obtain ⟨d1, d2, d3, d4⟩ := c8 k hk
      have hv80 : vp_in (nI k) 80 := vp_in_nI (by omega) (by decide)
      rw [kk]
      refine ⟨fun h0 => ⟨hv80, mst _ (fun z => absurd hin z) (fun _ z => absurd (by rw [h0]; decide) z) (fun _ _ => ⟨fun _ => ⟨hv80, by rw [kk, d1], hrel⟩, fun z => absurd h0 z⟩)⟩, fun h0 => ⟨fun h1 => ⟨hv80, mst _ (fun z => absurd hin z) (fun _ z => absurd (by rw [h1]; decide) z) (fun _ _ => ⟨fun z => absurd z h0, fun _ => ⟨fun _ => ⟨hv80, by rw [kk, d2], hrel⟩, fun z => absurd h1 z⟩⟩)⟩, fun h1 => ⟨fun h2 => ⟨hv80, mst _ (fun z => absurd hin z) (fun _ z => absurd (by rw [h2]; decide) z) (fun _ _ => ⟨fun z => absurd z h0, fun _ => ⟨fun z => absurd z h1, fun _ => ⟨hv80, by rw [kk, d3], hrel⟩⟩⟩)⟩, fun h2 => mst _ (fun z => absurd hin z) (fun _ _ => ⟨rfl, hrel⟩) (fun _ p => ?_)⟩⟩⟩
      exfalso
      obtain ⟨b, -, q2, rfl⟩ := in_of (lo := 0) (hi := 2) (by omega) p (by omega)
      rcases (show b = 0 ∨ b = 1 ∨ b = 2 by omega) with rfl | rfl | rfl
      · exact h0 rfl
      · exact h1 rfl
      · exact h2 rfl
set_option maxHeartbeats 4000000 in
theorem EQ_length (h : REL G I) (y1 y2 : Int32) : EQ l C mX9_length mX10_length [.int y1, .int y2] G I := by
  have hrel := h
  obtain ⟨hG, D, hL, hR, hT, hN, hV, hQ⟩ := h
  obtain ⟨a1, a2, a3, a4, a5, a6, a7, a8⟩ := id hL
  have e13 : I 3 1 = I 69 1 := by rw [a3.1, a2.1]
  refine EQ_XF (Q := fun v I1 => XF fI l C mX10_length 0 (xent mX10_length [.ref 69, .int y1, .int y2]) [] G I1 (fun w I2 => w = v ∧ REL G I2)) (VX9_length hG I y1 y2 ⟨fun h => ?_, fun h => ?_⟩) (fun _ _ h => h)
  · rcases ran_cases hN with q | q
    · exact VX10_length hG I y1 y2 ⟨fun _ => ⟨rfl, hrel⟩, fun z => absurd q.2 z⟩
    · exact absurd h q.1
  · obtain ⟨c, c1, c2, c3 | ⟨c3, c4, c5, c6, c7, c8, c9, c10⟩⟩ := hN
    · exact absurd c3.1 h
    · have h34 : ¬ I 69 34 = 0 := by rw [c4]; decide
      refine ⟨_, ZlineAt hG I a3.1 a1.2.1 y1, ?_⟩
      rintro v I1 ⟨rfl, hv⟩
      rcases hv with ⟨v1, v2, rfl⟩ | ⟨v1, rfl⟩
      · obtain ⟨j, hj, rfl⟩ := line_of a3.1 a1.2.1 ⟨v1, v2⟩
        have hA := (a6 j hj).2.1
        rw [nI_clamp (show j < 2 ^ 31 by omega)]
        refine ⟨fun z => absurd z (by omega), fun _ => ⟨_, Zwithin hG I1 y2 0 399, ?_⟩⟩
        rintro v I2 ⟨rfl, rfl⟩
        have mst : ∀ (Q : Int32 → xI → Prop), (¬ (0 ≤ y2 ∧ y2 ≤ 399) → Q (-1) I2) → ((0 ≤ y2 ∧ y2 ≤ 399) → vp_in ((400 * nI j) + y2) 1600 ∧ Q (I2 95 ((400 * nI j) + y2).toNatClampNeg) I2) → XF fI l C mX10_length 0 (xent mX10_length [.ref 69, .int (nI j), .int y2]) [] G I2 Q := by
          intro Q h1 h2
          refine VX10_length hG I2 (nI j) y2 ⟨fun z => absurd z h34, fun _ => ⟨_, XF.of (YX10_isLine hG I2 (nI j)), ?_⟩⟩
          rintro v I3 ⟨rfl, rfl⟩
          refine bI_split (fun z => absurd ⟨v1, by rw [← e13]; exact v2⟩ z) (fun _ => ⟨_, XF.of (YX10_in I3 y2 0 399), ?_⟩)
          rintro v I4 ⟨rfl, rfl⟩
          exact bI_split h1 h2
        refine bI_split (fun hb => mst _ (fun _ => ⟨rfl, hrel⟩) (fun z => absurd z hb)) (fun hin => ⟨_, ZlenAt hG c5 c1 (nI j) y2, ?_⟩)
        rintro v I3 ⟨rfl, rfl⟩
        obtain ⟨t, -, t2, rfl⟩ := in_of (lo := 0) (hi := 399) (by omega) hin (by omega)
        refine mst _ (fun z => absurd hin z) (fun _ => ?_)
        rw [show (400 : Int32) = nI 400 from rfl, pk_mul, nI_add, nI_clamp (show 400 * j + t < 2 ^ 31 by omega)]
        exact ⟨vp_in_nI (by omega) (by decide), c10 j (by omega) t (by omega), hrel⟩
      · refine ⟨fun _ => ?_, fun z => absurd rfl z⟩
        refine VX10_length hG I1 y1 y2 ⟨fun z => absurd z h34, fun _ => ⟨_, XF.of (YX10_isLine hG I1 y1), ?_⟩⟩
        rintro v I3 ⟨rfl, rfl⟩
        exact bI_split (fun _ => ⟨rfl, hrel⟩) (fun z => absurd (by rw [e13]; exact z) v1)
set_option maxHeartbeats 4000000 in
theorem EQ_sum (h : REL G I) (y1 y2 : Int32) : EQ l C mX9_sum mX10_sum [.int y1, .int y2] G I := by
  have hrel := h
  obtain ⟨hG, D, hL, hR, hT, hN, hV, hQ⟩ := h
  obtain ⟨a1, a2, a3, a4, a5, a6, a7, a8⟩ := id hL
  have e13 : I 3 1 = I 69 1 := by rw [a3.1, a2.1]
  obtain ⟨c, c1, c2, c3⟩ := hN
  have fin : ∀ v : Int32, sX10_sum I (D 0 0) c y1 y2 = v → XF fI l C mX10_sum 0 (xent mX10_sum [.ref 69, .int y1, .int y2]) [] G I (fun w I2 => w = v ∧ REL G I2) := by
    intro v hv
    refine XF.mono (XF.of (YX10_sum hG I a2.1 a1.1 a1.2.1 c2 c1 y1 y2)) ?_
    rintro w I' ⟨rfl, rfl⟩
    exact ⟨hv, hrel⟩
  -- the class asks -1 .. n - 1
  have hrange : (-1 ≤ y1 ∧ y1 ≤ I 3 1 - 1) ↔ (y1 = (-1) ∨ (0 ≤ y1 ∧ y1 ≤ I 69 1 - 1)) := by
    rw [e13]
    have hm : (-1 : Int32).toInt = -1 := rfl
    have hz : (0 : Int32).toInt = 0 := rfl
    have hn : (I 69 1 - 1).toInt = (D 0 0 : Int) - 1 := by rw [a2.1, show (1 : Int32) = nI 1 from rfl, pk_sub_toInt (by omega) (by omega)]; rfl
    constructor
    · rintro ⟨q1, q2⟩
      by_cases h0 : y1 = (-1)
      · exact Or.inl h0
      · right
        refine ⟨?_, q2⟩
        rw [Int32.le_iff_toInt_le] at q1 ⊢
        have : y1.toInt ≠ -1 := fun z => h0 (Int32.toInt_inj.mp (by rw [z, hm]))
        omega
    · rintro (rfl | ⟨q1, q2⟩)
      · refine ⟨Int32.le_refl _, ?_⟩
        rw [Int32.le_iff_toInt_le, hn, hm]
        omega
      · refine ⟨?_, q2⟩
        rw [Int32.le_iff_toInt_le] at q1 ⊢
        omega
  refine EQ_XF (Q := fun v I1 => XF fI l C mX10_sum 0 (xent mX10_sum [.ref 69, .int y1, .int y2]) [] G I1 (fun w I2 => w = v ∧ REL G I2)) (VX9_sum hG I y1 y2 ⟨fun h => fin (-1) ?_, fun h => ?_⟩) (fun _ _ h => h)
  · rcases c3 with c3 | c3
    · unfold sX10_sum; rw [if_pos c3.2]
    · exact absurd h (by rw [c3.1]; decide)
  · rcases c3 with c3 | ⟨c3, c4, c5, c6, c7, c8, c9, c10⟩
    · exact absurd c3.1 h
    · have h34 : ¬ I 69 34 = 0 := by rw [c4]; decide
      refine ⟨_, Zwithin hG I y1 (-1) _, ?_⟩
      rintro v I1 ⟨rfl, rfl⟩
      refine bI_split (fun hb => fin (-1) ?_) (fun hin => ⟨_, Zwithin hG I1 y2 0 4, ?_⟩)
      · have hb' : ¬ (y1 = (-1) ∨ (0 ≤ y1 ∧ y1 ≤ I1 69 1 - 1)) := fun z => hb (hrange.mpr z)
        unfold sX10_sum
        rw [if_neg h34, if_neg (fun z => hb' (Or.inl z)), if_neg (fun z => hb' (Or.inr z))]
      · rintro v I2 ⟨rfl, rfl⟩
        have hin' := hrange.mp hin
        refine bI_split (fun hb => fin (-1) ?_) (fun hin2 => ⟨fun h4 => ⟨fun hm => fin _ ?_, fun hm => ?_⟩, fun h4 => ⟨_, ZcountOfa hG c5 c1 y1 y2, ?_⟩⟩)
        · unfold sX10_sum
          rw [if_neg h34]
          split
          · rfl
          · next hm => rw [if_pos (hin'.resolve_left hm)]
        · unfold sX10_sum
          rw [if_neg h34, if_pos hm, if_pos hin2, if_pos h4, c7]
        · have hl := hin'.resolve_left hm
          obtain ⟨j, hj, rfl⟩ := line_of a2.1 a1.2.1 hl
          rw [nI_clamp (show j < 2 ^ 31 by omega)]
          refine ⟨vp_in_nI (by omega) (by decide), fin _ ?_⟩
          unfold sX10_sum
          rw [if_neg h34, if_neg hm, if_pos hl, if_pos hin2, if_pos h4, nI_clamp (show j < 2 ^ 31 by omega), c9 j (by omega)]
        · rintro v I3 ⟨rfl, rfl⟩
          refine fin _ ?_
          have hc : cntR I3 y1 y2 c = cntF (I3 12) (I3 10) y1 y2 c := by
            rw [cntR_F]
            exact cntF_ext y1 y2 c (fun i hi => ⟨(c8 i hi).1.symm, (c8 i hi).2.2.2.symm⟩)
          unfold sX10_sum
          rw [if_neg h34]
          split
          · exact hc
          · next hm => rw [if_pos (hin'.resolve_left hm)]; exact hc
end EQa
