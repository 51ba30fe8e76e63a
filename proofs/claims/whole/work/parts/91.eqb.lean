/-! new cells: what stands, stands; drop alike -/
section GXs
variable {l : Launch} {C : xC} {G G1 : xG} {I I' : xI}
def GX (G G1 : xG) : Prop := gN G ≤ gN G1 ∧ ∀ a, a < gN G → gT G1 a = gT G a ∧ gL G1 a = gL G a ∧ (a ≠ 4 → gR G1 a = gR G a)
theorem GX.rfl' : GX G G := ⟨Nat.le_refl _, fun _ _ => ⟨rfl, rfl, fun _ => rfl⟩⟩
theorem wR_N (G : xG) (a k b : Nat) : gN (wR G a k b) = gN G := rfl
theorem wR_S (G : xG) (a k b : Nat) : gS (wR G a k b) = gS G := rfl
theorem wR_T (G : xG) (a k b x : Nat) : gT (wR G a k b) x = gT G x := rfl
theorem wR_L (G : xG) (a k b x : Nat) : gL (wR G a k b) x = gL G x := rfl
theorem wR_ne (G : xG) {a x : Nat} (k b : Nat) (h : x ≠ a) : gR (wR G a k b) x = gR G x := by funext j; simp [gR, wR, h]
theorem wR_at (G : xG) (a k b : Nat) : gR (wR G a k b) a k = b := by simp [gR, wR]
theorem wR_k (G : xG) {a k j : Nat} (b : Nat) (h : j ≠ k) : gR (wR G a k b) a j = gR G a j := by simp [gR, wR, h]
theorem GX.SH (hx : GX G G1) (h : SH G) : SH G1 := ⟨Nat.le_trans h.1 hx.1, fun a ha => by
  obtain ⟨x1, x2, x3⟩ := hx.2 a (Nat.lt_of_lt_of_le ha h.1)
  obtain ⟨y1, y2, y3⟩ := h.2 a ha
  exact ⟨x1.trans y1, x2.trans y2, fun z1 k => by rw [x3 z1]; exact y3 z1 k⟩⟩
theorem GX.gO (hx : GX G G1) {a c : Nat} (h : gO G a c) : gO G1 a c := ⟨h.1, Nat.lt_of_lt_of_le h.2.1 hx.1, (hx.2 a h.2.1).1.trans h.2.2⟩
theorem GX.gA (hx : GX G G1) {a t n : Nat} (h : gA G a t n) : gA G1 a t n := ⟨h.1, Nat.lt_of_lt_of_le h.2.1 hx.1, (hx.2 a h.2.1).1.trans h.2.2.1, (hx.2 a h.2.1).2.1.trans h.2.2.2⟩
theorem LN_N {a : Nat} (h : LN G a) : a < gN G := by rcases h with h | h | h <;> exact h.2.1
theorem GX.LN (hx : GX G G1) {a : Nat} (h : LN G a) : LN G1 a := by
  rcases h with h | h | h
  · exact Or.inl (hx.gO h)
  · exact Or.inr (Or.inl (hx.gO h))
  · exact Or.inr (Or.inr (hx.gO h))
theorem RLn_G {D : aE} (hx : GX G G1) (h4 : ∀ j, j < D 0 0 → gR G1 4 j = gR G 4 j) (h : RLn G I D) : RLn G1 I D := by
  obtain ⟨a1, a2, a3, a4, a5, a6, a7, a8⟩ := h
  refine ⟨a1, a2, a3, a4, a5, fun j hj => ?_, fun i j hi hj e => a7 i j hi hj (by rw [← h4 i hi, ← h4 j hj]; exact e), a8⟩
  obtain ⟨b1, b2, b3⟩ := a6 j hj
  rw [h4 j hj, (hx.2 _ (LN_N b1)).1]
  exact ⟨hx.LN b1, b2, b3⟩
/-- numbers in cells that are not yet made don't matter -/
theorem RLn_low {D : aE} (h : RLn G I D) (hG : SH G) (he : ∀ a, a < gN G → I' a = I a) : RLn G I' D := by
  have h95 := hG.1
  exact RLn_ext h (he 3 (by omega)) (fun a _ hl => he a (LN_N hl)) (fun i _ => by rw [he 69 (by omega)]) (fun a _ _ => he a (by omega))
theorem GX_wR4 (s b : Nat) : GX G (wR G 4 s b) := ⟨Nat.le_refl _, fun a _ => ⟨rfl, rfl, fun h => wR_ne G s b h⟩⟩
theorem GX.trans {G2 : xG} (h : GX G G1) (h2 : GX G1 G2) : GX G G2 := ⟨Nat.le_trans h.1 h2.1, fun a ha => by
  obtain ⟨x1, x2, x3⟩ := h.2 a ha
  obtain ⟨y1, y2, y3⟩ := h2.2 a (Nat.lt_of_lt_of_le ha h.1)
  exact ⟨y1.trans x1, y2.trans x2, fun z1 => (y3 z1).trans (x3 z1)⟩⟩
theorem GX_aO (c n : Nat) : GX G (aO G c n) := ⟨by rw [aO_N]; omega, fun a ha => ⟨aO_Tn G c n (by omega), rfl, fun _ => aO_Rn G c n (by omega)⟩⟩
theorem GX_aA (c n : Nat) : GX G (aA G c n) := ⟨by rw [aA_N]; omega, fun a ha => ⟨aA_Tn G c n (by omega), aA_Ln G c n (by omega), fun _ => aA_Rn G c n (by omega)⟩⟩
theorem GX_new {x k b : Nat} (hx : GX G G1) (h : gN G ≤ x) : GX G (wR G1 x k b) := ⟨hx.1, fun a ha => ⟨(hx.2 a ha).1, (hx.2 a ha).2.1, fun z1 => by rw [wR_ne _ _ _ (by omega)]; exact (hx.2 a ha).2.2 z1⟩⟩
theorem XW.to' {M : xM} {pc : Nat} {ls : List (Option Value)} {st : List Value} {v w : Int32} {G2 G3 : xG} {I2 I3 : xI} (h : XW l C M pc ls st G I (some (.int v)) G2 I2) (h1 : v = w) (h2 : G2 = G3) (h3 : I2 = I3) : XW l C M pc ls st G I (some (.int w)) G3 I3 := by subst h1; subst h2; subst h3; exact h
set_option maxHeartbeats 4000000 in
theorem EQ_drop (h : REL G I) (y1 : Int32) : EQ l C mX9_drop mX10_drop [.int y1] G I := by
  have hrel := h
  obtain ⟨hG, D, hL, hR, hT, hN, hV, hQ⟩ := h
  refine EQ_of (P := fun _ => True) (s := fun I1 => sX10_drop I1 y1) (t := fun I1 => tX10_drop I1 y1) (fun I1 _ => YX10_drop hG I1 y1) ?_
  refine VX9_drop hG I y1 ⟨_, ZsheetNo hG I y1, ?_⟩
  rintro v I1 ⟨rfl, rfl⟩
  refine bI_split (fun a1 => ⟨trivial, by unfold sX10_drop; rw [if_neg a1], by unfold tX10_drop; rw [if_neg a1]; exact hrel⟩) (fun a1 => ⟨vin_3 a1, ?_⟩)
  obtain ⟨s, hs, rfl⟩ := row_of a1.1 a1.2
  have ks : (nI s).toNatClampNeg = s := nI_clamp (by omega)
  rw [ks]
  refine ⟨fun hn => ?_, fun hn => ?_⟩
  · have a3 : ¬ 0 ≤ I1 77 s := by rw [RT1_no (hT s hs) hn]; decide
    exact ⟨trivial, by unfold sX10_drop; rw [if_pos a1, ks, if_neg a3], by unfold tX10_drop; rw [if_pos a1, ks, if_neg a3]; exact hrel⟩
  obtain ⟨z, c1, c2, c3, c4, c7, c8, c9⟩ := RT1_some (hT s hs) hn
  generalize hK : wI I1 (61 + 2 * s) 2 0 = K
  have ek : ∀ a, a ≠ 61 + 2 * s → K a = I1 a := fun a ha => by rw [← hK, wI_ne _ _ _ ha]
  have eu : K (61 + 2 * s) = upd (I1 (61 + 2 * s)) 2 0 := by rw [← hK, wI_same]
  have e77 := ek 77 (by omega)
  have e78 := ek 78 (by omega)
  have c8' : 0 ≤ K 77 s := by rw [e77]; exact c8.1
  refine ⟨trivial, ?_, ?_⟩
  · unfold sX10_drop
    rw [if_pos a1, ks, if_pos c8', wI_ne _ _ _ (by decide), e78, eu, upd_ne _ _ (by decide), c2, c4]
  · unfold tX10_drop
    rw [if_pos a1, ks, if_pos c8']
    refine REL_sheet hrel hs (fun a q1 q2 q3 => by rw [wI_ne _ _ _ (by omega), ek a q1]) (fun t _ ht => by rw [wI_same, upd_ne _ _ ht, e77]) (fun t _ _ => by rw [wI_ne _ _ _ (by decide), e78]) (fun t _ _ i _ => by rw [wI_ne _ _ _ (by decide), ek 79 (by omega)]) ?_
    exact ⟨z, c1, by rw [wI_ne _ _ _ (by decide), e78]; exact c2, Or.inl ⟨by rw [wI_ne _ _ _ (by omega), eu, upd_same], by rw [wI_same, upd_same]⟩⟩
end GXs
