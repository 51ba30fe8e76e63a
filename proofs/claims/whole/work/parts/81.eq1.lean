/-! the calls answer alike: the store, lines -/
theorem line_of {v x : Int32} {n : Nat} (hx : x = nI n) (h4 : n ≤ 4) (h : 0 ≤ v ∧ v ≤ x - 1) : ∃ j, j < n ∧ v = nI j := vp_in_of (vin_l hx (Nat.le_refl n) (by omega) h) (by omega)
theorem in_of {v : Int32} {lo hi : Nat} (hh : hi < 2 ^ 31) (h : nI lo ≤ v ∧ v ≤ nI hi) (hlo : lo < 2 ^ 31) : ∃ j, lo ≤ j ∧ j ≤ hi ∧ v = nI j := by
  obtain ⟨m, rfl, m2, m3⟩ := nI_le_of hlo h.1
  exact ⟨m, m2, (nI_leI m3 hh).mp h.2, rfl⟩
theorem mparts_eq {I : xI} {D : aE} {n : Nat} (hk : ∀ j, j < n → D 1 j ≤ 2 ∧ D 4 j ≤ 12) (h : ∀ j, j < n → I 70 j = nI (D 1 j) ∧ I 73 j = nI (D 4 j)) : mParts I n = nI (psum D n) := by
  induction n with
  | zero => rfl
  | succ n ih =>
    obtain ⟨h1, h2⟩ := h n (by omega)
    obtain ⟨k1, k2⟩ := hk n (by omega)
    unfold mParts psum mPart sPart
    rw [ih (fun j hj => hk j (by omega)) (fun j hj => h j (by omega)), h1, h2]
    by_cases hz : D 1 n = 0
    · rw [if_pos (by rw [hz]; decide), if_pos hz, show (0 : Int32) = nI 0 from rfl, nI_add]
    · rw [if_neg (nI_nle (by omega) (by omega)), if_neg hz, nI_add]
theorem psum_48 {D : aE} : ∀ n, (∀ j, j < n → D 4 j ≤ 12) → psum D n ≤ 12 * n := by
  intro n
  induction n with
  | zero => intro _; exact Nat.le_refl _
  | succ n ih =>
    intro h
    have := ih (fun j hj => h j (by omega))
    have := h n (by omega)
    unfold psum sPart
    split <;> omega
theorem RRw_D {I : xI} {D D' : aE} (h : RRw I D) (h0 : D' 0 0 = D 0 0) (hx : ∀ x, 20 ≤ x → D' x = D x) : RRw I D' := by
  intro r hr
  rw [hx 20 (by omega), hx (40 + r) (by omega), hx (30 + r) (by omega), hx 21 (by omega), h0]
  exact h r hr
section EQa
variable {l : Launch} {C : xC} {G : xG} {I : xI}
theorem ZallParts {D : aE} (hG : SH G) (hL : RLn G I D) : XF fI l C mX10_allParts 0 (xent mX10_allParts [.ref 69]) [] G I (fun v I' => v = nI (psum D (D 0 0)) ∧ I' = I) := by
  obtain ⟨a1, a2, a3, a4, a5, a6, a7, a8⟩ := hL
  refine XF.mono (XF.of (YX10_allParts hG I a2.1 a1.2.1)) ?_
  rintro v I' ⟨rfl, rfl⟩
  exact ⟨mparts_eq (fun j hj => ⟨(a4 j hj).1, (a4 j hj).2.2.2.2.1⟩) (fun j hj => ⟨(a5 j hj).1, (a5 j hj).2.2.2.1⟩), rfl⟩
theorem ZpartsD {D : aE} (hG : SH G) (hL : RLn G I D) : XF fI l C mX6_partsTogether 0 (xent mX6_partsTogether [.ref 3]) [] G I (fun v I' => v = nI (psum D (D 0 0)) ∧ I' = I) := Zparts hG hL.1.2.1 ⟨hL.2.2.1.1, hL.2.2.1.2.1, hL.2.2.2.2.2.1⟩
theorem not_LN {G : xG} {a c : Nat} (h : gT G a = c) (h1 : c ≠ 2) (h2 : c ≠ 8) (h3 : c ≠ 1) : ¬ LN G a := by
  rintro (q | q | q) <;> have := gO_tag q <;> omega
theorem shT_no : ∀ a, a < 103 → a ≠ 5 → shT a ≠ 2 ∧ shT a ≠ 8 ∧ shT a ≠ 1 := by decide
theorem nLN (hG : SH G) {a : Nat} (ha : a < 103) (h5 : a ≠ 5) : ¬ LN G a := by
  obtain ⟨h1, h2, h3⟩ := shT_no a ha h5
  have e := (hG.2 a ha).1
  exact not_LN e h1 h2 h3
theorem le6 {P : Nat → Prop} (h0 : P 0) (h1 : P 1) (h2 : P 2) (h3 : P 3) (h4 : P 4) (h5 : P 5) (h6 : P 6) : ∀ x, x ≤ 6 → P x := by
  intro x hx
  rcases (show x = 0 ∨ x = 1 ∨ x = 2 ∨ x = 3 ∨ x = 4 ∨ x = 5 ∨ x = 6 by omega) with rfl | rfl | rfl | rfl | rfl | rfl | rfl <;> assumption
def lnc (D : aE) (i x : Nat) : Prop := (x = 2 → D 1 i ≠ 0) ∧ (3 ≤ x → D 1 i = 2)
/-- one number of a line is set anew, on both sides -/
theorem RLn_line {D : aE} {j kx v : Nat} (hG : SH G) (hk : kx ≤ 5) (h : RLn G I D) (hj : j < D 0 0) (hr : ∀ i, i < D 0 0 → uN D (kx + 2) j v 1 i ≤ 2 ∧ uN D (kx + 2) j v 2 i ≤ 12 ∧ 1 ≤ uN D (kx + 2) j v 3 i ∧ uN D (kx + 2) j v 3 i ≤ 5 ∧ uN D (kx + 2) j v 4 i ≤ 12 ∧ uN D (kx + 2) j v 5 i ≤ 12 ∧ uN D (kx + 2) j v 6 i ≤ 12 ∧ uN D (kx + 2) j v 7 i ≤ 5) (hps : psum (uN D (kx + 2) j v) (D 0 0) ≤ D 0 1) : RLn G (wI (wI I (gR G 4 j) kx (nI v)) (71 + kx) j (nI v)) (uN D (kx + 2) j v) := by
  obtain ⟨a1, a2, a3, a4, a5, a6, a7, a8⟩ := h
  have hAj := (a6 j hj).2.1
  have e0 : uN D (kx + 2) j v 0 = D 0 := uN_a _ _ _ (by omega)
  have e1 : uN D (kx + 2) j v 1 = D 1 := uN_a _ _ _ (by omega)
  have hmod : ∀ i, i < D 0 0 → ∀ x, x ≤ 6 → (wI (wI I (gR G 4 j) kx (nI v)) (71 + kx) j (nI v)) (70 + x) i = nI (uN D (kx + 2) j v (1 + x) i) := by
    intro i hi x hx
    obtain ⟨q0, q1, q2, q3, q4, q5, q6⟩ := a5 i hi
    have hold : ∀ x, x ≤ 6 → I (70 + x) i = nI (D (1 + x) i) := le6 (P := fun x => I (70 + x) i = nI (D (1 + x) i)) q0 q1 q2 q3 q4 q5 q6
    by_cases hxk : x = kx + 1
    · subst hxk
      rw [show 70 + (kx + 1) = 71 + kx by omega, show 1 + (kx + 1) = kx + 2 by omega, wI_same, uN_i, wI_ne _ _ _ (by omega)]
      have := hold (kx + 1) (by omega)
      rw [show 70 + (kx + 1) = 71 + kx by omega, show 1 + (kx + 1) = kx + 2 by omega] at this
      by_cases hij : i = j
      · subst hij; rw [upd_same, if_pos rfl]
      · rw [upd_ne _ _ hij, if_neg hij]; exact this
    · rw [wI_ne _ _ _ (by omega), wI_ne _ _ _ (by omega), uN_a _ _ _ (by omega)]
      exact hold x hx
  have hcls : ∀ i, i < D 0 0 → ∀ x, x ≤ 5 → lnc D i x → (wI (wI I (gR G 4 j) kx (nI v)) (71 + kx) j (nI v)) (gR G 4 i) x = nI (uN D (kx + 2) j v (x + 2) i) := by
    intro i hi x hx hc
    obtain ⟨b1, b2, b3, b4, b5, b6, b7, b8⟩ := a6 i hi
    have hold : I (gR G 4 i) x = nI (D (x + 2) i) := by
      rcases (show x = 0 ∨ x = 1 ∨ x = 2 ∨ x = 3 ∨ x = 4 ∨ x = 5 by omega) with rfl | rfl | rfl | rfl | rfl | rfl
      · exact b5
      · exact b6
      · exact b7 (hc.1 rfl)
      · exact (b8 (hc.2 (by omega))).1
      · exact (b8 (hc.2 (by omega))).2.1
      · exact (b8 (hc.2 (by omega))).2.2
    rw [wI_ne _ _ _ (by omega)]
    by_cases hij : i = j
    · subst hij
      rw [wI_same]
      by_cases hxk : x = kx
      · subst hxk; rw [upd_same, uN_at]
      · rw [upd_ne _ _ hxk, uN_a _ _ _ (by omega)]; exact hold
    · rw [wI_ne _ _ _ (fun z => hij (a7 i j hi hj z))]
      by_cases hxk : x = kx
      · subst hxk; rw [uN_k _ _ _ hij]; exact hold
      · rw [uN_a _ _ _ (by omega)]; exact hold
  unfold RLn
  rw [e0]
  refine ⟨a1, ?_, ?_, hr, fun i hi => ⟨hmod i hi 0 (by omega), hmod i hi 1 (by omega), hmod i hi 2 (by omega), hmod i hi 3 (by omega), hmod i hi 4 (by omega), hmod i hi 5 (by omega), hmod i hi 6 (by omega)⟩, fun i hi => ?_, a7, hps⟩
  · rw [wI_ne _ _ _ (by omega), wI_ne _ _ _ (by omega)]; exact a2
  · rw [wI_ne _ _ _ (by omega), wI_ne _ _ _ (by omega)]; exact a3
  · obtain ⟨b1, b2, b3, b4, -⟩ := a6 i hi
    rw [e1]
    exact ⟨b1, b2, b3, b4, hcls i hi 0 (by omega) ⟨fun z => by omega, fun z => by omega⟩, hcls i hi 1 (by omega) ⟨fun z => by omega, fun z => by omega⟩, fun z => hcls i hi 2 (by omega) ⟨fun _ => z, fun z => by omega⟩, fun z => ⟨hcls i hi 3 (by omega) ⟨fun z => by omega, fun _ => z⟩, hcls i hi 4 (by omega) ⟨fun z => by omega, fun _ => z⟩, hcls i hi 5 (by omega) ⟨fun z => by omega, fun _ => z⟩⟩⟩
theorem REL_line {D : aE} {j kx v : Nat} (hG : SH G) (hk : kx ≤ 5) (hL : RLn G I D) (hj : j < D 0 0) (hRw : RRw I D) (hT : RT I) (hN : RN I) (hV : I 2 7 = I 69 44) (hQ : RQ0 I) : (RRw (wI (wI I (gR G 4 j) kx (nI v)) (71 + kx) j (nI v)) (uN D (kx + 2) j v)) ∧ RT (wI (wI I (gR G 4 j) kx (nI v)) (71 + kx) j (nI v)) ∧ RN (wI (wI I (gR G 4 j) kx (nI v)) (71 + kx) j (nI v)) ∧ (wI (wI I (gR G 4 j) kx (nI v)) (71 + kx) j (nI v)) 2 7 = (wI (wI I (gR G 4 j) kx (nI v)) (71 + kx) j (nI v)) 69 44 ∧ RQ0 (wI (wI I (gR G 4 j) kx (nI v)) (71 + kx) j (nI v)) := by
  obtain ⟨b1, b2, -⟩ := hL.2.2.2.2.2.1 j hj
  have ne : ∀ a, a ≠ gR G 4 j → (a < 71 ∨ 76 < a) → (wI (wI I (gR G 4 j) kx (nI v)) (71 + kx) j (nI v)) a = I a := fun a z1 z2 => by rw [wI_ne _ _ _ (by omega), wI_ne _ _ _ z1]
  refine ⟨RRw_D (RRw_ext hRw (fun a ha => ne a (by omega) (by omega))) (by rw [uN_a _ _ _ (by omega)]) (fun x hx => uN_a _ _ _ (by omega)), RT_ext hT (fun a ha => ne a (by omega) (by omega)), RN_ext hN (by rw [ne 2 (by omega) (by omega)]) (fun a ha => ne a (by omega) (by omega)) (fun i hi => by rw [ne 69 (by omega) (by omega)]) (fun a h1 h2 => ne a (by omega) (by omega)), by rw [ne 2 (by omega) (by omega), ne 69 (by omega) (by omega)]; exact hV, RQ0_ext hQ (fun a ha => ne a (by omega) (by omega))⟩
set_option maxHeartbeats 4000000 in
theorem EQ_room (h : REL G I) (y1 : Int32) : EQ l C mX9_room mX10_room [.int y1] G I := by
  obtain ⟨hG, D, hL, hR, hT, hN, hV, hQ⟩ := h
  refine EQ_XF (Q := fun v I1 => XF fI l C mX10_room 0 (xent mX10_room [.ref 69, .int y1]) [] G I1 (fun w I2 => w = v ∧ REL G I2)) (VX9_room hG I y1 ⟨_, Zwithin hG I y1 1 12, ?_⟩) (fun _ _ h => h)
  rintro v I1 ⟨rfl, rfl⟩
  have bad : ¬ (1 ≤ y1 ∧ y1 ≤ 12) → XF fI l C mX10_room 0 (xent mX10_room [.ref 69, .int y1]) [] G I1 (fun w I2 => w = (-1) ∧ REL G I2) := by
    intro hb
    refine VX10_room hG I1 y1 ⟨_, XF.of (YX10_in I1 y1 1 12), ?_⟩
    rintro v I' ⟨rfl, rfl⟩
    exact bI_split (fun _ => ⟨rfl, hG, D, hL, hR, hT, hN, hV, hQ⟩) (fun z => absurd z hb)
  refine bI_split bad (fun hin => ?_)
  refine ⟨_, ZpartsD hG hL, ?_⟩
  rintro v I2 ⟨rfl, rfl⟩
  obtain ⟨b, b1, b2, rfl⟩ := in_of (lo := 1) (hi := 12) (by omega) hin (by omega)
  obtain ⟨a1, a2, a3, a4, a5, a6, a7, a8⟩ := id hL
  have hp48 := psum_48 (D := D) (D 0 0) (fun j hj => (a4 j hj).2.2.2.2.1)
  refine pk_le (psum D (D 0 0)) b (fun hle => ?_) (fun hgt => ?_) rfl rfl
  · refine VX10_room hG _ (nI b) ⟨_, XF.of (YX10_in _ (nI b) 1 12), ?_⟩
    rintro v I' ⟨rfl, rfl⟩
    refine bI_split (fun z => absurd hin z) (fun _ => ?_)
    have hL' : RLn G (wI I2 3 2 (nI b)) (uN D 0 1 b) → True := fun _ => trivial
    have hmp : XF fI l C mX10_allParts 0 (xent mX10_allParts [.ref 69]) [] G (wI I2 3 2 (nI b)) (fun v I' => v = nI (psum D (D 0 0)) ∧ I' = wI I2 3 2 (nI b)) := by
      refine XF.mono (XF.of (YX10_allParts hG (wI I2 3 2 (nI b)) (by rw [wI_ne _ _ _ (by decide)]; exact a2.1) a1.2.1)) ?_
      rintro v I' ⟨rfl, rfl⟩
      exact ⟨mparts_eq (fun j hj => ⟨(a4 j hj).1, (a4 j hj).2.2.2.2.1⟩) (fun j hj => by rw [wI_ne _ _ _ (by decide), wI_ne _ _ _ (by decide)]; exact ⟨(a5 j hj).1, (a5 j hj).2.2.2.1⟩), rfl⟩
    refine ⟨_, hmp, ?_⟩
    rintro v I' ⟨rfl, rfl⟩
    refine ⟨fun _ => ?_, fun z => absurd (nI_le hle (by omega)) z⟩
    rw [wI_ne _ _ _ (show (69 : Nat) ≠ 3 by decide)]
    refine ⟨by rw [a2.2.1, a3.2.1], hG, uN D 0 1 b, ?_, ?_, ?_, ?_, ?_, ?_⟩
    · have e : ∀ x, x ≠ 0 → uN D 0 1 b x = D x := fun x hx => uN_a _ _ _ hx
      have e0 : ∀ i, i ≠ 1 → uN D 0 1 b 0 i = D 0 i := fun i hi => uN_k _ _ _ hi
      unfold RLn
      rw [e0 0 (by decide), e0 2 (by decide), uN_at, e 1 (by decide), e 2 (by decide), e 3 (by decide), e 4 (by decide), e 5 (by decide), e 6 (by decide), e 7 (by decide), psum_congr (E := uN D 0 1 b) (E' := D) (e 1 (by decide)) (e 4 (by decide))]
      refine ⟨⟨a1.1, a1.2.1, b1, b2, a1.2.2.2.2⟩, ?_, ?_, a4, ?_, fun j hj => ?_, a7, hle⟩
      · rw [wI_same, upd_ne _ _ (by decide), upd_same, upd_ne _ _ (by decide), wI_ne _ _ _ (by decide)]
        exact ⟨a2.1, rfl, a2.2.2⟩
      · rw [wI_ne _ _ _ (by decide), wI_same, upd_ne _ _ (by decide), upd_same, upd_ne _ _ (by decide)]
        exact ⟨a3.1, rfl, a3.2.2⟩
      · rw [wI_ne _ _ _ (by decide), wI_ne _ _ _ (by decide), wI_ne _ _ _ (by decide), wI_ne _ _ _ (by decide), wI_ne _ _ _ (by decide), wI_ne _ _ _ (by decide), wI_ne _ _ _ (by decide), wI_ne _ _ _ (by decide), wI_ne _ _ _ (by decide), wI_ne _ _ _ (by decide), wI_ne _ _ _ (by decide), wI_ne _ _ _ (by decide), wI_ne _ _ _ (by decide), wI_ne _ _ _ (by decide)]
        exact a5
      · have := a6 j hj
        rw [wI_ne _ _ _ (by omega), wI_ne _ _ _ (by omega)]
        exact this
    · exact RRw_D (RRw_ext hR (fun a ha => by rw [wI_ne _ _ _ (by omega), wI_ne _ _ _ (by omega)])) (uN_k _ _ _ (by decide)) (fun x hx => uN_a _ _ _ (by omega))
    · exact RT_ext hT (fun a ha => by rw [wI_ne _ _ _ (by omega), wI_ne _ _ _ (by omega)])
    · exact RN_ext hN (by rw [wI_ne _ _ _ (by decide), wI_ne _ _ _ (by decide)]) (fun a ha => by rw [wI_ne _ _ _ (by omega), wI_ne _ _ _ (by omega)]) (fun i hi => by rw [wI_same, upd_ne _ _ (by omega), wI_ne _ _ _ (by decide)]) (fun a h1 h2 => by rw [wI_ne _ _ _ (by omega), wI_ne _ _ _ (by omega)])
    · rw [wI_ne _ _ _ (by decide), wI_ne _ _ _ (by decide), wI_same, upd_ne _ _ (by decide), wI_ne _ _ _ (by decide)]; exact hV
    · exact RQ0_ext hQ (fun a ha => by rw [wI_ne _ _ _ (by omega), wI_ne _ _ _ (by omega)])
  · refine VX10_room hG I2 (nI b) ⟨_, XF.of (YX10_in _ (nI b) 1 12), ?_⟩
    rintro v I' ⟨rfl, rfl⟩
    refine bI_split (fun z => absurd hin z) (fun _ => ?_)
    refine ⟨_, ZallParts hG hL, ?_⟩
    rintro v I' ⟨rfl, rfl⟩
    exact ⟨fun z => absurd ((nI_leI (by omega) (by omega)).mp z) (by omega), fun _ => ⟨rfl, hG, D, hL, hR, hT, hN, hV, hQ⟩⟩
end EQa
