/-! the calls answer alike: letters, whole -/
section EQe
variable {l : Launch} {C : xC} {G : xG} {I : xI}
theorem RLn_D {D D' : aE} (h : RLn G I D) (e : ∀ x, x < 8 → D' x = D x) : RLn G I D' := by
  unfold RLn at h ⊢
  rw [e 0 (by omega), e 1 (by omega), e 2 (by omega), e 3 (by omega), e 4 (by omega), e 5 (by omega), e 6 (by omega), e 7 (by omega), psum_congr (E := D') (E' := D) (e 1 (by omega)) (e 4 (by omega))]
  exact h
def lastD (D : aE) (r : Nat) : Nat := if D 20 r = 0 then 0 else D (30 + r) (D 20 r - 1)
theorem lastD_lt {D : aE} (h : RRw I D) {r : Nat} (hr : r < 4) : lastD D r < 40 := by
  obtain ⟨b1, b2, b3, b4, b5, b6⟩ := h r hr
  unfold lastD
  by_cases q : D 20 r = 0
  · rw [if_pos q]; omega
  · rw [if_neg q]; exact (b4 _ (by omega)).2.1
theorem mLast_D {D : aE} (h : RRw I D) {r : Nat} (hr : r < 4) : mLast I (nI r) = nI (lastD D r) := by
  obtain ⟨b1, b2, b3, b4, b5, b6⟩ := h r hr
  unfold mLast lastD
  rw [nI_clamp (by omega), b2]
  by_cases q : D 20 r = 0
  · rw [if_pos q, q, nI_0, if_pos rfl]
  · rw [if_neg q, if_neg (nI_ne0 (by omega) (by omega)), show (80 : Int32) = nI 80 from rfl, pk_mul, nI_add]
    obtain ⟨c, hc⟩ : ∃ c, D 20 r = c + 1 := ⟨D 20 r - 1, by omega⟩
    rw [hc, ← Nat.add_assoc, nI_pred, nI_clamp (by omega), (b4 c (by omega)).2.2.1]
    rfl
theorem ZlastT (hG : SH G) {D : aE} (h : RRw I D) {r : Nat} (hr : r < 4) : XF fI l C mX4_lastTick 0 (xent mX4_lastTick [.ref (49 + 3 * r)]) [] G I (fun v I' => v = nI (lastD D r) ∧ I' = I) := by
  obtain ⟨b1, b2, b3, b4, b5, b6⟩ := h r hr
  refine VX4_lastTick hG (RW49 hG hr) (by omega) I ?_
  rw [b3]
  refine ⟨fun q => ⟨?_, rfl⟩, fun q => ?_⟩
  · have : D 20 r = 0 := (nI_eq (by omega) (by omega)).mp (q.trans nI_0.symm)
    unfold lastD
    rw [if_pos this, nI_0]
  · have hne : D 20 r ≠ 0 := fun e => q (by rw [e, nI_0])
    obtain ⟨c, hc⟩ : ∃ c, D 20 r = c + 1 := ⟨D 20 r - 1, by omega⟩
    rw [hc, nI_pred, nI_clamp (by omega)]
    refine ⟨vp_in_nI (by omega) (by omega), ?_, rfl⟩
    unfold lastD
    rw [if_neg hne, hc, (b4 c (by omega)).2.2.2.2.1]
    rfl
theorem RRw_set4 {I' : xI} {D D' : aE} {r : Nat} (hr : r < 4) (h : RRw I D) (h0 : D' 0 0 = D 0 0) (hD : ∀ i, i < 4 → i ≠ r → D' 20 i = D 20 i ∧ D' 21 i = D 21 i ∧ D' (30 + i) = D (30 + i) ∧ D' (40 + i) = D (40 + i)) (hc : ∀ i, i < 4 → i ≠ r → I' 81 i = I 81 i ∧ I' 84 i = I 84 i ∧ I' (49 + 3 * i) = I (49 + 3 * i) ∧ I' (49 + 3 * i + 1) = I (49 + 3 * i + 1) ∧ I' (49 + 3 * i + 2) = I (49 + 3 * i + 2) ∧ ∀ k, k < 80 → I' 82 (80 * i + k) = I 82 (80 * i + k) ∧ I' 83 (80 * i + k) = I 83 (80 * i + k))
    (hn : D' 20 r ≤ 80 ∧ I' 81 r = nI (D' 20 r) ∧ I' (49 + 3 * r) 2 = nI (D' 20 r) ∧ (∀ k, k < D' 20 r → D' (40 + r) k < D 0 0 ∧ D' (30 + r) k < 40 ∧ I' 82 (80 * r + k) = nI (D' (30 + r) k) ∧ I' 83 (80 * r + k) = nI (D' (40 + r) k) ∧ I' (49 + 3 * r + 1) k = nI (D' (30 + r) k) ∧ I' (49 + 3 * r + 2) k = nI (D' (40 + r) k)) ∧ (∀ i k, i ≤ k → k < D' 20 r → D' (30 + r) i ≤ D' (30 + r) k) ∧ (D' 21 r ≤ 1 ∧ I' 84 r = nI (D' 21 r) ∧ I' (49 + 3 * r) 3 = nI (D' 21 r))) : RRw I' D' := by
  intro i hi
  by_cases hir : i = r
  · subst hir
    rw [h0]
    exact hn
  · obtain ⟨d1, d2, d3, d4⟩ := hD i hi hir
    obtain ⟨c1, c2, c3, c4, c5, c6⟩ := hc i hi hir
    obtain ⟨b1, b2, b3, b4, b5, b6⟩ := h i hi
    rw [d1, d2, d3, d4, c1, c2, c3, c4, c5, h0]
    exact ⟨b1, b2, b3, fun k hk => by rw [(c6 k (by omega)).1, (c6 k (by omega)).2]; exact b4 k hk, b5, b6⟩
def addD (D : aE) (r c n a : Nat) (F : Nat → Nat) : aE := fun x k => if x = 20 then (if k = r then c + n else D 20 k) else if x = 30 + r then (if k < c then D (30 + r) k else F (a + 2 * (k - c))) else if x = 40 + r then (if k < c then D (40 + r) k else F (a + 2 * (k - c) + 1)) else D x k
set_option maxHeartbeats 4000000 in
theorem REL_letters (h : REL G I) {D : aE} (hL : RLn G I D) (hR : RRw I D) {r s a n : Nat} (hr : r < 4) (hs : s < 4) {z : Nat} (hz : z ≤ 160) (ha : a + 2 * n ≤ z) (hit : ∀ i, i < z → I (61 + 2 * s + 1) i = I 79 (160 * s + i)) (hc : D 20 r + n ≤ 80) (hk : lok (I (61 + 2 * s + 1)) (nI (D 0 0) - 1) n a (nI (lastD D r)) = true) : REL G (uX10_letters (wA (wA (wA I (49 + 3 * r + 1) (cp2 (I (61 + 2 * s + 1)) (I (49 + 3 * r + 1)) a (D 20 r) n)) (49 + 3 * r + 2) (cp2 (I (61 + 2 * s + 1)) (I (49 + 3 * r + 2)) (a + 1) (D 20 r) n)) (49 + 3 * r) (upd (I (49 + 3 * r)) 2 (nI (D 20 r + n)))) r s a (D 20 r) n) := by
  obtain ⟨hG, D0, -, -, hT, hN, hV, hQ⟩ := h
  obtain ⟨b1, b2, b3, b4, b5, b6⟩ := hR r hr
  have hlt := lastD_lt hR hr
  have hb : 62 ≤ 61 + 2 * s + 1 := by omega
  generalize hbb : 61 + 2 * s + 1 = b at hb hit hk ⊢
  obtain ⟨F, hF⟩ : ∃ F : Nat → Nat, ∀ i, F i = (I b i).toNatClampNeg := ⟨_, fun _ => rfl⟩
  obtain ⟨f1, f2⟩ := lok_spec (N := D 0 0) hL.1.2.1 F hF n a (lastD D r) hlt hk
  generalize hI1 : wA (wA (wA I (49 + 3 * r + 1) (cp2 (I b) (I (49 + 3 * r + 1)) a (D 20 r) n)) (49 + 3 * r + 2) (cp2 (I b) (I (49 + 3 * r + 2)) (a + 1) (D 20 r) n)) (49 + 3 * r) (upd (I (49 + 3 * r)) 2 (nI (D 20 r + n))) = I1
  have e1 : ∀ x, (x < 49 + 3 * r ∨ 49 + 3 * r + 2 < x) → I1 x = I x := fun x hx => by rw [← hI1, wA_ne _ _ (by omega), wA_ne _ _ (by omega), wA_ne _ _ (by omega)]
  have ew : I1 (49 + 3 * r) = upd (I (49 + 3 * r)) 2 (nI (D 20 r + n)) := by rw [← hI1, wA_same]
  have ew1 : I1 (49 + 3 * r + 1) = cp2 (I b) (I (49 + 3 * r + 1)) a (D 20 r) n := by rw [← hI1, wA_ne _ _ (by omega), wA_ne _ _ (by omega), wA_same]
  have ew2 : I1 (49 + 3 * r + 2) = cp2 (I b) (I (49 + 3 * r + 2)) (a + 1) (D 20 r) n := by rw [← hI1, wA_ne _ _ (by omega), wA_same]
  unfold uX10_letters
  rw [e1 79 (by omega), e1 81 (by omega), e1 82 (by omega), e1 83 (by omega)]
  generalize hK : wA (wA (wA I1 82 (cp2 (I 79) (I 82) (160 * s + a) (80 * r + D 20 r) n)) 83 (cp2 (I 79) (I 83) (160 * s + a + 1) (80 * r + D 20 r) n)) 81 (upd (I 81) r (nI (D 20 r + n))) = K
  have k1 : ∀ x, x ≠ 81 → x ≠ 82 → x ≠ 83 → K x = I1 x := fun x q1 q2 q3 => by rw [← hK, wA_ne _ _ q1, wA_ne _ _ q3, wA_ne _ _ q2]
  have k2 : ∀ x, x ≠ 81 → x ≠ 82 → x ≠ 83 → (x < 49 + 3 * r ∨ 49 + 3 * r + 2 < x) → K x = I x := fun x q1 q2 q3 q4 => by rw [k1 x q1 q2 q3, e1 x q4]
  have k73 : K 81 = upd (I 81) r (nI (D 20 r + n)) := by rw [← hK, wA_same]
  have k74 : K 82 = cp2 (I 79) (I 82) (160 * s + a) (80 * r + D 20 r) n := by rw [← hK, wA_ne _ _ (by decide), wA_ne _ _ (by decide), wA_same]
  have k75 : K 83 = cp2 (I 79) (I 83) (160 * s + a + 1) (80 * r + D 20 r) n := by rw [← hK, wA_ne _ _ (by decide), wA_same]
  have a20 : ∀ k, addD D r (D 20 r) n a F 20 k = if k = r then D 20 r + n else D 20 k := fun k => if_pos rfl
  have a30 : ∀ k, addD D r (D 20 r) n a F (30 + r) k = if k < D 20 r then D (30 + r) k else F (a + 2 * (k - D 20 r)) := fun k => by unfold addD; rw [if_neg (by omega), if_pos rfl]
  have a40 : ∀ k, addD D r (D 20 r) n a F (40 + r) k = if k < D 20 r then D (40 + r) k else F (a + 2 * (k - D 20 r) + 1) := fun k => by unfold addD; rw [if_neg (by omega), if_neg (by omega), if_pos rfl]
  have ao : ∀ x, x ≠ 20 → x ≠ 30 + r → x ≠ 40 + r → addD D r (D 20 r) n a F x = D x := fun x q1 q2 q3 => by funext k; unfold addD; rw [if_neg q1, if_neg q2, if_neg q3]
  refine ⟨hG, addD D r (D 20 r) n a F, RLn_D (D := D) (RLn_ext hL (k2 3 (by decide) (by decide) (by decide) (by omega)) (fun x q1 _ => k2 x (by omega) (by omega) (by omega) (by omega)) (fun i _ => by rw [k2 69 (by decide) (by decide) (by decide) (by omega)]) (fun x q1 q2 => k2 x (by omega) (by omega) (by omega) (by omega))) (fun x hx => ao x (by omega) (by omega) (by omega)), ?_, RT_ext hT (fun x hx => k2 x (by omega) (by omega) (by omega) (by omega)), RN_ext hN (by rw [k2 2 (by decide) (by decide) (by decide) (by omega)]) (fun x hx => k2 x (by omega) (by omega) (by omega) (by omega)) (fun i _ => by rw [k2 69 (by decide) (by decide) (by decide) (by omega)]) (fun x q1 q2 => k2 x (by omega) (by omega) (by omega) (by omega)), by rw [k2 2 (by decide) (by decide) (by decide) (by omega), k2 69 (by decide) (by decide) (by decide) (by omega)]; exact hV, RQ0_ext hQ (fun x hx => k2 x (by omega) (by omega) (by omega) (by omega))⟩
  refine RRw_set4 hr hR (by rw [ao 0 (by omega) (by omega) (by omega)]) (fun i hi hir => ⟨by rw [a20, if_neg hir], by rw [ao 21 (by omega) (by omega) (by omega)], ?_, ?_⟩) (fun i hi hir => ⟨by rw [k73, upd_ne _ _ hir], by rw [k2 84 (by omega) (by omega) (by omega) (by omega)], k2 _ (by omega) (by omega) (by omega) (by omega), k2 _ (by omega) (by omega) (by omega) (by omega), k2 _ (by omega) (by omega) (by omega) (by omega), fun k hk => ⟨?_, ?_⟩⟩) ?_
  · exact ao _ (by omega) (by omega) (by omega)
  · exact ao _ (by omega) (by omega) (by omega)
  · rw [k74]; unfold cp2; rw [if_neg (by omega)]
  · rw [k75]; unfold cp2; rw [if_neg (by omega)]
  rw [a20, if_pos rfl, k73, upd_same, k1 (49 + 3 * r) (by omega) (by omega) (by omega), ew, upd_same, upd_ne _ _ (by decide), k1 (49 + 3 * r + 1) (by omega) (by omega) (by omega), k1 (49 + 3 * r + 2) (by omega) (by omega) (by omega), ew1, ew2, ao 21 (by omega) (by omega) (by omega), k2 84 (by omega) (by omega) (by omega) (by omega), k74, k75]
  refine ⟨hc, rfl, rfl, fun k hkn => ?_, fun i k hik hkn => ?_, b6⟩
  · rw [a30, a40]
    unfold cp2
    by_cases q : k < D 20 r
    · rw [if_pos q, if_pos q, if_neg (by omega), if_neg (by omega), if_neg (by omega), if_neg (by omega)]
      exact b4 k q
    · rw [if_neg q, if_neg q, if_pos (by omega), if_pos (by omega), if_pos (by omega), if_pos (by omega)]
      obtain ⟨g1, g2, g3, g4, g5⟩ := f1 (k - D 20 r) (by omega)
      refine ⟨g5, g3, ?_, ?_, g1, ?_⟩
      · rw [← g1, hit _ (by omega)]
        congr 1
        omega
      · rw [← g4, hit _ (by omega)]
        congr 1
        omega
      · rw [← g4]
        congr 1
        omega
  · rw [a30, a30]
    by_cases q : k < D 20 r
    · rw [if_pos q, if_pos (by omega)]
      exact b5 i k hik q
    · rw [if_neg q]
      by_cases q2 : i < D 20 r
      · rw [if_pos q2]
        have g := (f1 (k - D 20 r) (by omega)).2.1
        unfold lastD at g
        rw [if_neg (by omega)] at g
        have := b5 i (D 20 r - 1) (by omega) (by omega)
        omega
      · rw [if_neg q2]
        exact f2 _ _ (by omega) (by omega)
set_option maxHeartbeats 4000000 in
theorem EQ_letters (h : REL G I) (y1 y2 y3 y4 y5 : Int32) : EQ l C mX9_letters mX10_letters [.int y1, .int y2, .int y3, .int y4, .int y5] G I := by
  have hrel := h
  obtain ⟨hG, D, hL, hR, hT, hN, hV, hQ⟩ := h
  have hz := RT_hz hT
  have hm := RRw_hm hR
  refine EQ_of (P := fun I => mHZ I ∧ mHM I) (s := fun I1 => sX10_letters I1 y1 y2 y3 y4 y5) (t := fun I1 => tX10_letters I1 y1 y2 y3 y4 y5) (fun I1 h => YX10_letters hG I1 h.1 h.2 y1 y2 y3 y4 y5) ?_
  refine VX9_letters hG I y1 y2 y3 y4 y5 ⟨_, ZrowAt hG I y1, ?_⟩
  rintro w I1 ⟨rfl, hv⟩
  rcases hv with ⟨v1, v2, rfl⟩ | ⟨v1, rfl⟩
  rotate_left
  · refine ⟨fun _ => ?_, fun q => absurd rfl q⟩
    exact ⟨⟨hz, hm⟩, by unfold sX10_letters; rw [if_neg v1], by unfold tX10_letters; rw [if_neg v1]; exact hrel⟩
  have a1 : 0 ≤ y1 ∧ y1 ≤ 3 := ⟨v1, v2⟩
  obtain ⟨r, hr, rfl⟩ := row_of v1 v2
  have kr : (nI r).toNatClampNeg = r := nI_clamp (by omega)
  rw [kr]
  obtain ⟨b1, b2, b3, b4, b5, b6⟩ := hR r hr
  refine ⟨fun q => absurd q (by omega), fun _ => ⟨_, ZsheetNo hG I1 y2, ?_⟩⟩
  rintro v I2 ⟨rfl, rfl⟩
  refine bI_split (fun a2 => ⟨⟨hz, hm⟩, by unfold sX10_letters; rw [if_pos a1, if_neg a2], by unfold tX10_letters; rw [if_pos a1, if_neg a2]; exact hrel⟩) (fun a2 => ⟨_, Zlane hG I2 y3, ?_⟩)
  rintro v I3 ⟨rfl, rfl⟩
  refine bI_split (fun a3 => ⟨⟨hz, hm⟩, by unfold sX10_letters; rw [if_pos a1, if_pos a2, if_neg a3], by unfold tX10_letters; rw [if_pos a1, if_pos a2, if_neg a3]; exact hrel⟩) (fun a3 => ⟨_, Zwithin hG I3 y5 0 80, ?_⟩)
  rintro v I4 ⟨rfl, rfl⟩
  refine bI_split (fun a4 => ⟨⟨hz, hm⟩, by unfold sX10_letters; rw [if_pos a1, if_pos a2, if_pos a3, if_neg a4], by unfold tX10_letters; rw [if_pos a1, if_pos a2, if_pos a3, if_neg a4]; exact hrel⟩) (fun a4 => ⟨vin_3 a2, ?_⟩)
  obtain ⟨s, hs, rfl⟩ := row_of a2.1 a2.2
  have ks : (nI s).toNatClampNeg = s := nI_clamp (by omega)
  obtain ⟨n, -, hn80, rfl⟩ := in_of (lo := 0) (hi := 80) (by decide) (by exact a4) (by omega)
  have kn : (nI n).toNatClampNeg = n := nI_clamp (by omega)
  have e2 : (2 : Int32) * nI n = nI (2 * n) := by rw [show (2 : Int32) = nI 2 from rfl, pk_mul]
  rw [ks]
  refine ⟨fun hn => ?_, fun hn => ?_⟩
  · have a5 : ¬ 0 ≤ I4 77 s := by rw [RT1_no (hT s hs) hn]; decide
    exact ⟨⟨hz, hm⟩, by unfold sX10_letters; simp only [if_pos a1, if_pos a2, if_pos a3, if_pos a4, ks, if_neg a5], by unfold tX10_letters; simp only [if_pos a1, if_pos a2, if_pos a3, if_pos a4, ks, if_neg a5]; exact hrel⟩
  obtain ⟨z, c1, c2, c3, c4, c7, c8, c9⟩ := RT1_some (hT s hs) hn
  have a5 := c8.1
  rw [c7]
  refine ⟨fun a6 => ?_, fun a6 => ⟨⟨hz, hm⟩, by unfold sX10_letters; simp only [if_pos a1, if_pos a2, if_pos a3, if_pos a4, ks, if_pos a5, if_neg a6], by unfold tX10_letters; simp only [if_pos a1, if_pos a2, if_pos a3, if_pos a4, ks, if_pos a5, if_neg a6]; exact hrel⟩⟩
  refine ⟨_, Zhas hG (TS61 hG hs) I4 c4 c1 y4 (2 * nI n), ?_⟩
  rintro v I5 ⟨rfl, rfl⟩
  have n2 : 0 ≤ 2 * nI n := by rw [e2]; exact nI_pos' (by omega)
  refine bI_split (fun a7 => ?_) (fun a7 => ?_)
  · have a8 : ¬ iwP I5 (nI s) y4 (2 * nI n) := fun q => a7 ((iwP_iff c1 c2 ks y4 _ n2).mpr q)
    exact ⟨⟨hz, hm⟩, by unfold sX10_letters; simp only [if_pos a1, if_pos a2, if_pos a3, if_pos a4, ks, if_pos a5, if_pos a6, if_neg a8], by unfold tX10_letters; simp only [if_pos a1, if_pos a2, if_pos a3, if_pos a4, ks, if_pos a5, if_pos a6, if_neg a8]; exact hrel⟩
  have a8 : iwP I5 (nI s) y4 (2 * nI n) := (iwP_iff c1 c2 ks y4 _ n2).mp a7
  rw [e2] at a7
  obtain ⟨a, m, rfl, hmn, ham⟩ := has_of c1 a7
  have : m = 2 * n := ((nI_eq (by omega) (by omega)).mp hmn).symm
  subst this
  have ka : (nI a).toNatClampNeg = a := nI_clamp (by omega)
  refine ⟨(RW49 hG hr).1, _, ZlastT hG hR hr, ?_⟩
  rintro v I6 ⟨rfl, rfl⟩
  obtain ⟨l1, l2, l3, l4, l5, l6, l7, l8⟩ := hL
  refine ⟨_, VX9_areLetters hG (TS61 hG hs) I6 (nI a) (nI n) (nI (lastD D r)) (LareL hG (TS61 hG hs) (Nat.le_trans ham c1) l3.1 l1.2.1 (fun j hj => by have := (l6 j hj).2.1; omega) (n + 1) 0 _ (by omega) (by omega)), ?_⟩
  rintro v I7 ⟨rfl, rfl⟩
  rw [Nat.sub_zero, Nat.mul_zero, Nat.add_zero, l3.1]
  have lk : lok (I7 79) (I7 69 1 - 1) n (160 * s + a) (mLast I7 (nI r)) = lok (I7 (61 + 2 * s + 1)) (nI (D 0 0) - 1) n a (nI (lastD D r)) := by
    rw [mLast_D hR hr, l2.1]
    refine lok_congr _ _ _ _ (fun i hi => ?_)
    rw [c9 _ (by omega)]
    congr 1
    omega
  refine bI_split (fun a9 => ?_) (fun a9 => ?_)
  · have b9 : ¬ lok (I7 79) (I7 69 1 - 1) n (160 * s + a) (mLast I7 (nI r)) = true := by rw [lk]; exact a9
    exact ⟨⟨hz, hm⟩, by unfold sX10_letters; simp only [if_pos a1, if_pos a2, if_pos a3, if_pos a4, ks, ka, kn, if_pos a5, if_pos a6, if_pos a8, if_neg b9], by unfold tX10_letters; simp only [if_pos a1, if_pos a2, if_pos a3, if_pos a4, ks, ka, kn, if_pos a5, if_pos a6, if_pos a8, if_neg b9]; exact hrel⟩
  have b9 : lok (I7 79) (I7 69 1 - 1) n (160 * s + a) (mLast I7 (nI r)) = true := by rw [lk]; exact a9
  rw [b3, nI_add]
  refine pk_le (D 20 r + n) 80 (fun hle => ?_) (fun hlt => ?_)
  rotate_left
  · have b10 : ¬ I7 81 r + nI n ≤ 80 := by rw [b2, nI_add]; exact nI_ge (a := 80) hlt (by omega)
    exact ⟨⟨hz, hm⟩, by unfold sX10_letters; simp only [if_pos a1, if_pos a2, if_pos a3, if_pos a4, ks, ka, kn, kr, if_pos a5, if_pos a6, if_pos a8, if_pos b9, if_neg b10], by unfold tX10_letters; simp only [if_pos a1, if_pos a2, if_pos a3, if_pos a4, ks, ka, kn, kr, if_pos a5, if_pos a6, if_pos a8, if_pos b9, if_neg b10]; exact hrel⟩
  · have b10 : I7 81 r + nI n ≤ 80 := by rw [b2, nI_add]; exact nI_le (b := 80) hle (by omega)
    refine ⟨_, VX4_addLetters hG (RW49 hG hr) (by omega) (TS61 hG hs) I7 (nI a) (nI n) (XF.to (LaddL hG (RW49 hG hr) (by omega) (by omega) (TS61 hG hs) (by omega) (Nat.le_trans ham c1) hle I7 b3 (n + 1) 0 (by omega) (by omega)) rfl rfl ?_), ?_⟩
    · rw [cp2_0, cp2_0, show D 20 r + 0 = D 20 r from rfl, ← b3, upd_self, wA_self, wA_self, wA_self]
    · rintro _ I8 rfl
      have fin := REL_letters hrel ⟨l1, l2, l3, l4, l5, l6, l7, l8⟩ hR hr hs c1 ham c9 hle a9
      generalize hK : wA (wA (wA I7 (49 + 3 * r + 1) (cp2 (I7 (61 + 2 * s + 1)) (I7 (49 + 3 * r + 1)) a (D 20 r) n)) (49 + 3 * r + 2) (cp2 (I7 (61 + 2 * s + 1)) (I7 (49 + 3 * r + 2)) (a + 1) (D 20 r) n)) (49 + 3 * r) (upd (I7 (49 + 3 * r)) 2 (nI (D 20 r + n))) = K at fin ⊢
      have ek : ∀ x, 60 < x → K x = I7 x := fun x hx => by rw [← hK, wA_ne _ _ (by omega), wA_ne _ _ (by omega), wA_ne _ _ (by omega)]
      have kw : K (49 + 3 * r) 2 = nI (D 20 r + n) := by rw [← hK, wA_same, upd_same]
      have e61 := ek 69 (by decide)
      have e69 := ek 77 (by decide)
      have e70 := ek 78 (by decide)
      have e71 := ek 79 (by decide)
      have e73 := ek 81 (by decide)
      have e74 := ek 82 (by decide)
      have c8' : iwP K (nI s) (nI a) (2 * nI n) := by unfold iwP at a8 ⊢; rw [e70]; exact a8
      have el : mLast K (nI r) = mLast I7 (nI r) := by unfold mLast; rw [e73, e74]
      have c9' : lok (K 79) (K 69 1 - 1) n (160 * s + a) (mLast K (nI r)) = true := by rw [e71, e61, el]; exact b9
      have c5' : 0 ≤ K 77 s := by rw [e69]; exact a5
      have c6' : K 77 s = y3 := by rw [e69]; exact a6
      have c10' : K 81 r + nI n ≤ 80 := by rw [e73]; exact b10
      have k73 : (K 81 r).toNatClampNeg = D 20 r := by rw [e73, b2, nI_clamp (by omega)]
      refine ⟨⟨fun t ht => by rw [e70]; exact hz t ht, fun t ht => by rw [e73]; exact hm t ht⟩, ?_, ?_⟩
      · unfold sX10_letters
        simp only [if_pos a1, if_pos a2, if_pos a3, if_pos a4, ks, ka, kn, kr, if_pos c5', if_pos c6', if_pos c8', if_pos c9', if_pos c10']
        rw [kw, e73, b2, nI_add]
      · unfold tX10_letters
        simp only [if_pos a1, if_pos a2, if_pos a3, if_pos a4, ks, ka, kn, kr, if_pos c5', if_pos c6', if_pos c8', if_pos c9', if_pos c10', k73]
        exact fin
end EQe
