/-! the calls answer alike: runs, foresight, marks -/
theorem sRun_end {E : aE} : ∀ (m : Nat) (S : aS) (p τ : Nat), (sRun E m S p τ).2 = τ + m ∨ sTot (sRun E m S p τ).1 = 0 := by
  intro m
  induction m with
  | zero => intro S p τ; exact Or.inl rfl
  | succ m ih =>
    intro S p τ
    unfold sRun
    split
    · next h => right; show sTot S = 0; omega
    · rcases ih (sTick E S p τ).1 (sTick E S p τ).2 (τ + 1) with h | h
      · left; rw [h]; omega
      · right; exact h
theorem end_at {E : aE} (hE : EI E) (hI : SI E (sEnd E).1 ((sEnd E).2 - 1)) {j t : Nat} (ht : t < 400) (hτ : (sEnd E).2 ≤ t) : sAt E (sEnd E).1 j t = 0 := by
  apply cnt_0.mpr
  intro k hk
  apply decide_eq_false
  rintro ⟨-, h3, h1⟩
  have htot : sTot (sEnd E).1 = 0 := by
    rcases sRun_end (E := E) 400 sIni 0 0 with h | h
    · exfalso
      have : (sEnd E).2 = 0 + 400 := h
      omega
    · exact h
  have hl4 : E 9 k < 4 := by have := hE.2.2.2.2.1 k hk; have := hE.2.1; omega
  obtain ⟨q3, q1, -⟩ := hI.2.2.2.2.1 k hk
  have hm := hI.2.2.2.1 k hk (by omega) (by omega)
  have hlen := len_le_tot (sEnd E).1 hl4
  have : 0 < sLen (sEnd E).1 (E 9 k) := by
    unfold sLen
    exact List.length_pos_of_mem hm
  omega
theorem cntA_at {I : xI} {E : aE} {S : aS} (hE : EI E) (h10 : ∀ k, k < E 0 5 → I 10 k = nI (E 9 k) ∧ I 11 k = nI (S.2 3 k) ∧ I 13 k = nI (S.2 1 k)) (hb : ∀ k, k < E 0 5 → S.2 3 k ≤ 400 ∧ S.2 1 k ≤ 400) {j t : Nat} (hj : j < 4) (ht : t < 400) : cntA I (nI j) (nI t) (E 0 5) = sAt E S j t := by
  unfold cntA sAt
  apply cnt_ext
  intro k hk
  obtain ⟨h1, h2, h3⟩ := h10 k hk
  obtain ⟨b1, b2⟩ := hb k hk
  have hl := (hE.2.2.2.2.1 k hk).1
  have hn4 := hE.2.1
  apply decide_eq_decide.mpr
  rw [h1, h2, h3, nI_eq (by omega) (by omega), nI_ltI (by omega) (by omega), nI_leI (by omega) (by omega)]
  omega
theorem sRun_le {E : aE} : ∀ (m : Nat) (S : aS) (p τ : Nat), (sRun E m S p τ).2 ≤ τ + m := by
  intro m
  induction m with
  | zero => intro S p τ; exact Nat.le_refl _
  | succ m ih =>
    intro S p τ
    unfold sRun
    split
    · show τ ≤ τ + (m + 1); omega
    · have := ih (sTick E S p τ).1 (sTick E S p τ).2 (τ + 1); omega
theorem sEnd_le (E : aE) : (sEnd E).2 ≤ 400 := sRun_le 400 sIni 0 0
section EQa
variable {l : Launch} {C : xC} {G : xG} {I : xI}
set_option maxHeartbeats 4000000 in
theorem EQ_run (h : REL G I) (y1 y2 : Int32) : EQ l C mX9_run mX10_run [.int y1, .int y2] G I := by
  have hrel := h
  obtain ⟨hG, D, hL, hR, hT, hN, hV, hQ⟩ := h
  obtain ⟨a1, a2, a3, a4, a5, a6, a7, a8⟩ := id hL
  have bad : ¬ ((0 ≤ y1 ∧ y1 ≤ 3) ∧ (0 ≤ y2 ∧ y2 ≤ 3)) → XF fI l C mX10_run 0 (xent mX10_run [.ref 69, .int y1, .int y2]) [] G I (fun w I2 => w = (-1) ∧ REL G I2) := by
    intro hb
    refine VX10_run hG I y1 y2 ⟨_, XF.of (YX10_isRow I y1), ?_⟩
    rintro v I1 ⟨rfl, rfl⟩
    refine bI_split (fun _ => ⟨rfl, hrel⟩) (fun p1 => ⟨_, XF.of (YX10_in I1 y2 0 3), ?_⟩)
    rintro v I2 ⟨rfl, rfl⟩
    exact bI_split (fun _ => ⟨rfl, hrel⟩) (fun p2 => absurd ⟨p1, p2⟩ hb)
  refine EQ_XF (Q := fun v I1 => XF fI l C mX10_run 0 (xent mX10_run [.ref 69, .int y1, .int y2]) [] G I1 (fun w I2 => w = v ∧ REL G I2)) (VX9_run hG I y1 y2 ⟨_, ZrowAt hG I y1, ?_⟩) (fun _ _ h => h)
  rintro v I1 ⟨rfl, hv⟩
  rcases hv with ⟨v1, v2, rfl⟩ | ⟨v1, rfl⟩
  · obtain ⟨r, hr, rfl⟩ := row_of v1 v2
    rw [nI_clamp (show r < 2 ^ 31 by omega)]
    refine ⟨fun z => absurd z (by omega), fun _ => ⟨_, Zwithin hG I1 y2 0 3, ?_⟩⟩
    rintro v I2 ⟨rfl, rfl⟩
    refine bI_split (fun hb => bad (fun q => hb q.2)) (fun hin => ?_)
    obtain ⟨u, -, hu, rfl⟩ := in_of (lo := 0) (hi := 3) (by omega) hin (by omega)
    have hE : EI (env D r u (D 0 2) 0) := EI_env hL hR hr hu a1.2.2.2.2.2 (by omega)
    have hplay := Zplaya (l := l) (C := C) hG hE (fun _ => cap_env hL) (CL_env hL) (CW_env hG hR hr) (fun _ => a3.2.2) (fun j hj => (hQ j hj).1)
    refine ⟨_, hplay, ?_⟩
    rintro - I3 ⟨⟨e1, e2, e3, e4, e5, e6⟩, f3⟩
    have n2 : ∀ a, a ≠ 2 → (wI I3 2 6 1) a = I3 a := fun a ha => wI_ne _ _ _ ha
    have hc80 := hE.2.2.2.1
    refine ⟨_, ZcountOfa hG (I := wI I3 2 6 1) (c := env D r u (D 0 2) 0 0 5) (by rw [n2 8 (by decide)]; exact e1) hc80 (-1) 0, ?_⟩
    rintro v I4 ⟨rfl, rfl⟩
    -- the reference's run
    have fI1 : ∀ a, a ≠ 2 → (a < 8 ∨ 26 ≤ a) → (wI I3 2 6 1) a = I2 a := fun a z1 z2 => by rw [n2 a z1, f3 a (by omega)]
    have hMS : MS0 (wI I3 2 6 1) (env D r u (D 0 2) 0) r := by
      have := MS0_env (r := r) (u := u) (a := D 0 2) (q := 0) hL hR hr
      unfold MS0 at this ⊢
      rw [fI1 69 (by decide) (by decide), fI1 70 (by decide) (by decide), fI1 71 (by decide) (by decide), fI1 72 (by decide) (by decide), fI1 73 (by decide) (by decide), fI1 74 (by decide) (by decide), fI1 75 (by decide) (by decide), fI1 76 (by decide) (by decide), fI1 81 (by decide) (by decide), fI1 82 (by decide) (by decide), fI1 83 (by decide) (by decide)]
      exact this
    have hrun := Zrun10 (l := l) (C := C) hG hE (fun _ => cap_env hL) hMS (by rw [fI1 69 (by decide) (by decide)]; exact a2.2.2) rfl
    have hgo := Zgo (l := l) (C := C) hG (K := wI I3 2 6 1) (kp := 0) hE (fun _ => cap_env hL) hMS (fun z => absurd rfl z)
    obtain ⟨-, Kz, -, -, -, -, -, hSI, -⟩ := hgo
    refine XF.mono hrun ?_
    rintro w K ⟨rfl, ⟨k1, k2, k3, k4, k5, k6⟩, g1, g2⟩
    refine ⟨?_, hG, D, ?_, ?_, ?_, ?_, ?_, ?_⟩
    · rw [n2 12 (by decide), n2 10 (by decide), cntF_sent _ (fun k hk => ⟨(e4 k hk).2.2.1, ft3 hSI hk⟩)]
      rfl
    · exact RLn_ext hL (by rw [g1 3 (by decide), fI1 3 (by decide) (by decide)]) (fun a z1 z2 => by
        have hn : a ≠ 2 := by omega
        rw [g1 a (by omega), fI1 a hn (by omega)]) (fun i hi => by rw [g2 i (by omega), fI1 69 (by decide) (by decide)]) (fun a z1 z2 => by rw [g1 a (by omega), fI1 a (by omega) (by omega)])
    · exact RRw_ext hR (fun a ha => by rw [g1 a (by omega), fI1 a (by omega) (by omega)])
    · exact RT_ext hT (fun a ha => by rw [g1 a (by omega), fI1 a (by omega) (by omega)])
    · refine ⟨env D r u (D 0 2) 0 0 5, hc80, k2, Or.inr ⟨?_, k1, ?_, ?_, ?_, fun k hk => ?_, fun j hj => ?_, fun j hj t ht => ?_⟩⟩
      · rw [g1 2 (by decide), wI_same, upd_same]
      · rw [g1 8 (by decide), n2 8 (by decide)]; exact e1
      · rw [g1 8 (by decide), n2 8 (by decide), e2, k3]
      · rw [g1 8 (by decide), n2 8 (by decide), e3, k5 4 (by decide)]
      · obtain ⟨z1, z2, z3, z4, z5⟩ := e4 k hk
        obtain ⟨w1, w2, w3, w4⟩ := k4 k hk
        rw [g1 12 (by decide), g1 13 (by decide), g1 14 (by decide), g1 10 (by decide), n2 12 (by decide), n2 13 (by decide), n2 14 (by decide), n2 10 (by decide), z1, z3, z4, z5, w1, w2, w3, w4]
        exact ⟨rfl, rfl, rfl, rfl⟩
      · rw [g1 15 (by decide), n2 15 (by decide), e5 j hj, k5 j (by omega)]
      · rw [k6 j hj t ht]
        have hcA : cntA K (nI j) (nI t) (env D r u (D 0 2) 0 0 5) = sAt (env D r u (D 0 2) 0) (sEnd (env D r u (D 0 2) 0)).1 j t := by
          refine cntA_at hE (fun k hk => ?_) (fun k hk => ?_) hj ht
          · obtain ⟨z1, z2, z3, z4, z5⟩ := e4 k hk
            rw [g1 10 (by decide), g1 11 (by decide), g1 13 (by decide), n2 10 (by decide), n2 11 (by decide), n2 13 (by decide)]
            exact ⟨z1, z2, z4⟩
          · have := hSI.2.2.2.2.1 k hk
            have h4 : (sEnd (env D r u (D 0 2) 0)).2 ≤ 400 := sEnd_le _
            omega
        rw [hcA]
        by_cases hlt : t < (sEnd (env D r u (D 0 2) 0)).2
        · rw [if_pos hlt]
        · rw [if_neg hlt, end_at hE hSI ht (by omega)]; rfl
    · rw [g1 2 (by decide), wI_same, upd_ne _ _ (by decide), f3 2 (by omega), g2 44 (by omega), fI1 69 (by decide) (by decide)]; exact hV
    · intro j hj
      refine ⟨RQ_ext (e6 j hj) ?_ ?_, RQ_ext (hQ j hj).2 ?_ ?_⟩
      · rw [g1 _ (by omega), n2 _ (by omega)]
      · rw [g1 _ (by omega), n2 _ (by omega)]
      · rw [g1 _ (by omega), fI1 _ (by omega) (by omega)]
      · rw [g1 _ (by omega), fI1 _ (by omega) (by omega)]
  · exact ⟨fun _ => bad (fun q => v1 q.1), fun z => absurd rfl z⟩
theorem REL_FK {I' : xI} (h : REL G I) (f : ∀ a, (a < 26 ∨ (49 ≤ a ∧ a ≤ 68) ∨ (70 ≤ a ∧ a ≤ 84) ∨ (95 ≤ a ∧ a ≤ 100) ∨ 103 ≤ a) → I' a = I a) (f61 : ∀ i, (i < 18 ∨ 22 < i) → I' 69 i = I 69 i) (fq : ∀ j, j < 4 → RQ I' (36 + 2 * j) []) : REL G I' := by
  obtain ⟨hG, D, hL, hR, hT, hN, hV, hQ⟩ := h
  exact ⟨hG, D, RLn_ext hL (f 3 (by omega)) (fun a z1 _ => f a (by omega)) (fun i hi => f61 i (by omega)) (fun a z1 z2 => f a (by omega)), RRw_ext hR (fun a ha => f a (by omega)), RT_ext hT (fun a ha => f a (by omega)), RN_ext hN (by rw [f 2 (by omega)]) (fun a ha => f a (by omega)) (fun i hi => f61 i (by omega)) (fun a h1 h2 => f a (by omega)), by rw [f 2 (by omega), f61 44 (by omega)]; exact hV, fun j hj => ⟨RQ_ext (hQ j hj).1 (f _ (by omega)) (f _ (by omega)), fq j hj⟩⟩
theorem EQ_best (h : REL G I) (y1 : Int32) : EQ l C mX9_best mX10_best [.int y1] G I := by
  have hrel := h
  obtain ⟨hG, D, hL, hR, hT, hN, hV, hQ⟩ := h
  obtain ⟨a1, a2, a3, a4, a5, a6, a7, a8⟩ := id hL
  refine EQ_XF (Q := fun v I1 => XF fI l C mX10_best 0 (xent mX10_best [.ref 69, .int y1]) [] G I1 (fun w I2 => w = v ∧ REL G I2)) (VX9_best hG I y1 ⟨_, ZrowAt hG I y1, ?_⟩) (fun _ _ h => h)
  rintro v I1 ⟨rfl, hv⟩
  rcases hv with ⟨v1, v2, rfl⟩ | ⟨v1, rfl⟩
  · obtain ⟨r, hr, rfl⟩ := row_of v1 v2
    rw [nI_clamp (show r < 2 ^ 31 by omega)]
    have hE : EI (env D r 0 1 0) := EI_env hL hR hr (by omega) (by omega) (by omega)
    refine ⟨fun z => absurd z (by omega), fun _ => ⟨_, Zmost hG hE (CL_env hL) (CW_env hG hR hr), ?_⟩⟩
    rintro v I2 ⟨rfl, f2⟩
    have hMB : MB I2 (env D r 0 1 0) r := by
      have := MB_env (r := r) (u := 0) (a := 1) (q := 0) hL hR hr
      unfold MB at this ⊢
      rw [f2 69 (by decide) (by decide) (by decide) (by decide), f2 81 (by decide) (by decide) (by decide) (by decide), f2 82 (by decide) (by decide) (by decide) (by decide), f2 83 (by decide) (by decide) (by decide) (by decide), f2 72 (by decide) (by decide) (by decide) (by decide)]
      exact this
    refine XF.mono (Zbest10 hG hE hMB) ?_
    rintro w K ⟨rfl, fk⟩
    refine ⟨rfl, REL_FK hrel (fun a ha => by rw [fk a (by omega) (by omega), f2 a (by omega) (by omega) (by omega) (by omega)]) (fun i _ => by rw [fk 69 (by decide) (by decide), f2 69 (by decide) (by decide) (by decide) (by decide)]) (fun j hj => RQ_ext (hQ j hj).2 ?_ ?_)⟩
    · rw [fk _ (by omega) (by omega), f2 _ (by omega) (by omega) (by omega) (by omega)]
    · rw [fk _ (by omega) (by omega), f2 _ (by omega) (by omega) (by omega) (by omega)]
  · refine ⟨fun _ => ?_, fun z => absurd rfl z⟩
    refine VX10_best hG I1 y1 ⟨_, XF.of (YX10_isRow I1 y1), ?_⟩
    rintro v I' ⟨rfl, rfl⟩
    exact bI_split (fun _ => ⟨rfl, hrel⟩) (fun z => absurd z v1)
set_option maxHeartbeats 4000000 in
theorem EQ_shortBy (h : REL G I) (y1 y2 : Int32) : EQ l C mX9_shortBy mX10_shortBy [.int y1, .int y2] G I := by
  have hrel := h
  obtain ⟨hG, D, hL, hR, hT, hN, hV, hQ⟩ := h
  obtain ⟨a1, a2, a3, a4, a5, a6, a7, a8⟩ := id hL
  have bad : ¬ ((0 ≤ y1 ∧ y1 ≤ 3) ∧ (0 ≤ y2 ∧ y2 ≤ 2)) → XF fI l C mX10_shortBy 0 (xent mX10_shortBy [.ref 69, .int y1, .int y2]) [] G I (fun w I2 => w = (-1) ∧ REL G I2) := by
    intro hb
    refine VX10_shortBy hG I y1 y2 ⟨_, XF.of (YX10_isRow I y1), ?_⟩
    rintro v I1 ⟨rfl, rfl⟩
    refine bI_split (fun _ => ⟨rfl, hrel⟩) (fun p1 => ⟨_, XF.of (YX10_in I1 y2 0 2), ?_⟩)
    rintro v I2 ⟨rfl, rfl⟩
    exact bI_split (fun _ => ⟨rfl, hrel⟩) (fun p2 => absurd ⟨p1, p2⟩ hb)
  refine EQ_XF (Q := fun v I1 => XF fI l C mX10_shortBy 0 (xent mX10_shortBy [.ref 69, .int y1, .int y2]) [] G I1 (fun w I2 => w = v ∧ REL G I2)) (VX9_shortBy hG I y1 y2 ⟨_, ZrowAt hG I y1, ?_⟩) (fun _ _ h => h)
  rintro v I1 ⟨rfl, hv⟩
  rcases hv with ⟨v1, v2, rfl⟩ | ⟨v1, rfl⟩
  · obtain ⟨r, hr, rfl⟩ := row_of v1 v2
    rw [nI_clamp (show r < 2 ^ 31 by omega)]
    refine ⟨fun z => absurd z (by omega), fun _ => ⟨_, Zwithin hG I1 y2 0 2, ?_⟩⟩
    rintro v I2 ⟨rfl, rfl⟩
    refine bI_split (fun hb => bad (fun q => hb q.2)) (fun hin => ?_)
    obtain ⟨u, -, hu, rfl⟩ := in_of (lo := 0) (hi := 2) (by omega) hin (by omega)
    have hE : EI (env D r u (D 0 2) 1) := EI_env hL hR hr (by omega) a1.2.2.2.2.2 (by omega)
    have hplay := Zplayb (l := l) (C := C) hG hE (fun _ => cap_env hL) (CL_env hL) (CW_env hG hR hr) (fun _ => a3.2.2) (fun j hj => (hQ j hj).2)
    refine ⟨_, hplay, ?_⟩
    rintro - I3 ⟨⟨e1, e2, e3, e4, e5, e6⟩, f3⟩
    refine ⟨_, Zmost hG hE (CL_FC (CL_env hL) f3 (by decide) (by decide)) (CW_FC (CW_env hG hR hr) f3 (by decide)), ?_⟩
    rintro v I4 ⟨rfl, f4⟩
    have hc80 := hE.2.2.2.1
    refine ⟨_, ZcountOfb hG (I := I4) (c := env D r u (D 0 2) 1 0 5) (by rw [f4 26 (by decide) (by decide) (by decide) (by decide)]; exact e1) hc80 (-1) 0, ?_⟩
    rintro v I5 ⟨rfl, rfl⟩
    have fI : ∀ a, (a < 26 ∨ 49 ≤ a) → I5 a = I2 a := fun a z => by rw [f4 a (by omega) (by omega) (by omega) (by omega), f3 a (by omega)]
    have hMB : MB I5 (env D r u (D 0 2) 1) r := by
      have := MB_env (r := r) (u := u) (a := D 0 2) (q := 1) hL hR hr
      unfold MB at this ⊢
      rw [fI 69 (by omega), fI 81 (by omega), fI 82 (by omega), fI 83 (by omega), fI 72 (by omega)]
      exact this
    have hMS : MS0 I5 (env D r u (D 0 2) 1) r := by
      have := MS0_env (r := r) (u := u) (a := D 0 2) (q := 1) hL hR hr
      unfold MS0 at this ⊢
      rw [fI 69 (by omega), fI 70 (by omega), fI 71 (by omega), fI 72 (by omega), fI 73 (by omega), fI 74 (by omega), fI 75 (by omega), fI 76 (by omega), fI 81 (by omega), fI 82 (by omega), fI 83 (by omega)]
      exact this
    refine VX10_shortBy hG I5 (nI r) (nI u) ⟨_, XF.of (YX10_isRow I5 (nI r)), ?_⟩
    rintro v K1 ⟨rfl, rfl⟩
    refine bI_split (fun z => absurd ⟨v1, v2⟩ z) (fun _ => ⟨_, XF.of (YX10_in K1 (nI u) 0 2), ?_⟩)
    rintro v K2 ⟨rfl, rfl⟩
    refine bI_split (fun z => absurd hin z) (fun _ => ⟨_, Zbest10 hG hE hMB, ?_⟩)
    rintro v K3 ⟨rfl, fk3⟩
    have hMS3 : MS0 K3 (env D r u (D 0 2) 1) r := by
      unfold MS0 at hMS ⊢
      rw [fk3 69 (by decide) (by decide), fk3 70 (by decide) (by decide), fk3 71 (by decide) (by decide), fk3 72 (by decide) (by decide), fk3 73 (by decide) (by decide), fk3 74 (by decide) (by decide), fk3 75 (by decide) (by decide), fk3 76 (by decide) (by decide), fk3 81 (by decide) (by decide), fk3 82 (by decide) (by decide), fk3 83 (by decide) (by decide)]
      exact hMS
    have h9 : K3 69 9 = nI (D 0 2) := by rw [fk3 69 (by decide) (by decide), fI 69 (by omega)]; exact a2.2.2
    have hgo := Zgo (l := l) (C := C) hG (K := K3) (kp := 0) hE (fun _ => cap_env hL) hMS3 (fun z => absurd rfl z)
    rw [h9]
    refine ⟨_, hgo, ?_⟩
    rintro - K4 ⟨b1, b2, b3, b4, b5, b6⟩
    refine ⟨_, ZcountS hG hE b1 b4 b5, ?_⟩
    rintro v K5 ⟨rfl, rfl⟩
    refine ⟨?_, REL_FK hrel (fun a ha => ?_) (fun i hi => ?_) (fun j hj => RQ_ext (e6 j hj) ?_ ?_)⟩
    · rw [f4 30 (by decide) (by decide) (by decide) (by decide), cntF_sent _ (fun k hk => ⟨(e4 k hk).2.2.1, ft3 b5 hk⟩)]
      rfl
    · by_cases h87 : a = 95
      · subst h87; rw [b3 rfl, fk3 95 (by decide) (by decide), fI 95 (by omega)]
      · rw [b2.1 a (by omega), fk3 a (by omega) (by omega), fI a (by omega)]
    · rw [b2.2 i hi, fk3 69 (by decide) (by decide), fI 69 (by omega)]
    · rw [b2.1 _ (by omega), fk3 _ (by omega) (by omega), f4 _ (by omega) (by omega) (by omega) (by omega)]
    · rw [b2.1 _ (by omega), fk3 _ (by omega) (by omega), f4 _ (by omega) (by omega) (by omega) (by omega)]
  · exact ⟨fun _ => bad (fun q => v1 q.1), fun z => absurd rfl z⟩
set_option maxHeartbeats 4000000 in
theorem EQ_marks (h : REL G I) : EQ l C mX9_marks mX10_marks [] G I := by
  have hrel := h
  obtain ⟨hG, D, hL, hR, hT, hN, hV, hQ⟩ := h
  have hps : ∀ r, r < 4 → nI (D 21 r) = if decide (D 21 r = 1) = true then 1 else 0 := by
    intro r hr
    have := (hR r hr).2.2.2.2.2.1
    by_cases hz : D 21 r = 1
    · rw [if_pos (decide_eq_true hz), hz]; rfl
    · rw [if_neg (by simp [hz]), show D 21 r = 0 by omega]; rfl
  refine EQ_XF (Zmk9 hG (Er := fun r => env D r 1 1 1) (ps := fun r => decide (D 21 r = 1)) (fun r hr => ⟨EI_env hL hR hr (by omega) (by omega) (by omega), CL_env hL, CW_env hG hR hr⟩) (fun r hr => by rw [(hR r hr).2.2.2.2.2.2.2]; exact hps r hr)) ?_
  rintro v I1 ⟨r1, I2, f2, x, rfl⟩
  have f : ∀ a, a ≠ 2 → a ≠ 45 → a ≠ 46 → a ≠ 47 → a ≠ 48 → (wI I2 2 7 x) a = I a := fun a z0 z1 z2 z3 z4 => by rw [wI_ne _ _ _ z0, f2 a z1 z2 z3 z4]
  have hMS : ∀ r, r < 4 → MS0 (wI I2 2 7 x) (env D r 1 1 1) r := by
    intro r hr
    have := MS0_env (r := r) (u := 1) (a := 1) (q := 1) hL hR hr
    unfold MS0 at this ⊢
    rw [f 69 (by decide) (by decide) (by decide) (by decide) (by decide), f 70 (by decide) (by decide) (by decide) (by decide) (by decide), f 71 (by decide) (by decide) (by decide) (by decide) (by decide), f 72 (by decide) (by decide) (by decide) (by decide) (by decide), f 73 (by decide) (by decide) (by decide) (by decide) (by decide), f 74 (by decide) (by decide) (by decide) (by decide) (by decide), f 75 (by decide) (by decide) (by decide) (by decide) (by decide), f 76 (by decide) (by decide) (by decide) (by decide) (by decide), f 81 (by decide) (by decide) (by decide) (by decide) (by decide), f 82 (by decide) (by decide) (by decide) (by decide) (by decide), f 83 (by decide) (by decide) (by decide) (by decide) (by decide)]
    exact this
  refine XF.mono (Zmk10 hG (Er := fun r => env D r 1 1 1) (ps := fun r => decide (D 21 r = 1)) (fun r hr => ⟨EI_env hL hR hr (by omega) (by omega) (by omega), rfl, rfl, hMS r hr⟩) (fun r hr => by rw [f 84 (by decide) (by decide) (by decide) (by decide) (by decide), (hR r hr).2.2.2.2.2.2.1]; exact hps r hr)) ?_
  rintro w K ⟨m1, m2⟩
  obtain ⟨q1, q2⟩ := mRes_u r1 m1
  refine ⟨q1.symm, hG, D, RLn_ext hL (by rw [m2.1 3 (by decide), f 3 (by decide) (by decide) (by decide) (by decide) (by decide)]) (fun a z1 _ => by rw [m2.1 a (by omega), f a (by omega) (by omega) (by omega) (by omega) (by omega)]) (fun i hi => by rw [m2.2 i (by omega), f 69 (by decide) (by decide) (by decide) (by decide) (by decide)]) (fun a z1 z2 => by rw [m2.1 a (by omega), f a (by omega) (by omega) (by omega) (by omega) (by omega)]), RRw_ext hR (fun a ha => by rw [m2.1 a (by omega), f a (by omega) (by omega) (by omega) (by omega) (by omega)]), RT_ext hT (fun a ha => by rw [m2.1 a (by omega), f a (by omega) (by omega) (by omega) (by omega) (by omega)]), RN_ext hN (by rw [m2.1 2 (by decide), wI_same, upd_ne _ _ (by decide), f2 2 (by decide) (by decide) (by decide) (by decide)]) (fun a ha => by rw [m2.1 a (by omega), f a (by omega) (by omega) (by omega) (by omega) (by omega)]) (fun i hi => by rw [m2.2 i (by omega), f 69 (by decide) (by decide) (by decide) (by decide) (by decide)]) (fun a h1 h2 => by rw [m2.1 a (by omega), f a (by omega) (by omega) (by omega) (by omega) (by omega)]), by rw [m2.1 2 (by decide), q2], RQ0_ext hQ (fun a ha => by rw [m2.1 a (by omega), f a (by omega) (by omega) (by omega) (by omega) (by omega)])⟩
end EQa
