/-! the reference's run is the plain one: from its start -/
section MRun
variable {l : Launch} {C : xC} {G : xG}
theorem Lgo_24 (hG : SH G) {K1 : xI} {x1 x2 x3 x4 x5 : Int32} {Q : Unit → xI → Prop} (hQ : ∀ K, (∀ a, a ≠ 86 → a ≠ 87 → a ≠ 88 → a ≠ 89 → K a = K1 a) → (∀ j, j < 4 → K 86 j = 0 ∧ K 87 j = 0 ∧ K 88 j = 0 ∧ K 89 j = 0) → XF fV l C mX10_go 71 [some (.ref 69), some (.int x1), some (.int x2), some (.int x3), some (.int x4), some (.int x5), some (.int 0)] [] G K Q) : ∀ (k i : Nat), i ≤ 4 → 4 < i + k → ∀ K, (∀ a, a ≠ 86 → a ≠ 87 → a ≠ 88 → a ≠ 89 → K a = K1 a) → (∀ j, j < i → K 86 j = 0 ∧ K 87 j = 0 ∧ K 88 j = 0 ∧ K 89 j = 0) → XF fV l C mX10_go 24 [some (.ref 69), some (.int x1), some (.int x2), some (.int x3), some (.int x4), some (.int x5), some (.int (nI i))] [] G K Q := by
  intro k
  induction k with
  | zero => intro i h1 h2; exact absurd h2 (by omega)
  | succ k ih =>
    intro i h1 h2 K hF hZ
    refine VX10_go_24 hG K x1 x2 x3 x4 x5 (nI i) (pk_le 4 i (fun hle => ?_) (fun hlt => ?_) rfl rfl)
    · exact hQ K hF (fun j hj => hZ j (by omega))
    · refine ⟨vp_in_nI hlt (by decide), ?_⟩
      rw [nI_clamp (show i < 2 ^ 31 by omega)]
      refine XF.to (ih (i + 1) (by omega) (by omega) _ (fun a z1 z2 z3 z4 => ?_) (fun j hj => ?_)) (by rw [nI_succ]) rfl rfl
      · rw [wI_ne _ _ _ z4, wI_ne _ _ _ z3, wI_ne _ _ _ z2, wI_ne _ _ _ z1]; exact hF a z1 z2 z3 z4
      · rw [wI_ne _ _ _ (show (86 : Nat) ≠ 89 by decide), wI_ne _ _ _ (show (86 : Nat) ≠ 88 by decide), wI_ne _ _ _ (show (86 : Nat) ≠ 87 by decide), wI_same, wI_ne _ _ _ (show (87 : Nat) ≠ 89 by decide), wI_ne _ _ _ (show (87 : Nat) ≠ 88 by decide), wI_same, wI_ne _ _ _ (show (87 : Nat) ≠ 86 by decide), wI_ne _ _ _ (show (88 : Nat) ≠ 89 by decide), wI_same, wI_ne _ _ _ (show (88 : Nat) ≠ 87 by decide), wI_ne _ _ _ (show (88 : Nat) ≠ 86 by decide), wI_same, wI_ne _ _ _ (show (89 : Nat) ≠ 88 by decide), wI_ne _ _ _ (show (89 : Nat) ≠ 87 by decide), wI_ne _ _ _ (show (89 : Nat) ≠ 86 by decide)]
        by_cases hji : j = i
        · subst hji; simp [upd]
        · rw [upd_ne _ _ hji, upd_ne _ _ hji, upd_ne _ _ hji, upd_ne _ _ hji]; exact hZ j (by omega)
theorem Lgo_71 (hG : SH G) {K1 : xI} {x1 x2 x3 x4 x5 : Int32} {Q : Unit → xI → Prop} (hQ : ∀ K, (∀ a, a ≠ 94 → K a = K1 a) → (∀ j, j < 5 → K 94 j = 0) → XF fV l C mX10_go 94 [some (.ref 69), some (.int x1), some (.int x2), some (.int x3), some (.int x4), some (.int x5), some (.int 0)] [] G K Q) : ∀ (k i : Nat), i ≤ 5 → 5 < i + k → ∀ K, (∀ a, a ≠ 94 → K a = K1 a) → (∀ j, j < i → K 94 j = 0) → XF fV l C mX10_go 71 [some (.ref 69), some (.int x1), some (.int x2), some (.int x3), some (.int x4), some (.int x5), some (.int (nI i))] [] G K Q := by
  intro k
  induction k with
  | zero => intro i h1 h2; exact absurd h2 (by omega)
  | succ k ih =>
    intro i h1 h2 K hF hZ
    refine VX10_go_71 hG K x1 x2 x3 x4 x5 (nI i) (pk_le 5 i (fun hle => ?_) (fun hlt => ?_) rfl rfl)
    · exact hQ K hF (fun j hj => hZ j (by omega))
    · refine ⟨vp_in_nI hlt (by decide), ?_⟩
      rw [nI_clamp (show i < 2 ^ 31 by omega)]
      refine XF.to (ih (i + 1) (by omega) (by omega) _ (fun a z1 => ?_) (fun j hj => ?_)) (by rw [nI_succ]) rfl rfl
      · rw [wI_ne _ _ _ z1]; exact hF a z1
      · rw [wI_same]
        by_cases hji : j = i
        · subst hji; rw [upd_same]
        · rw [upd_ne _ _ hji]; exact hZ j (by omega)
theorem Lgo_94 (hG : SH G) {K1 : xI} {x1 x2 x3 x4 x5 : Int32} {Q : Unit → xI → Prop} (hQ : ∀ K, (∀ a, a ≠ 91 → a ≠ 92 → a ≠ 93 → K a = K1 a) → (∀ j, j < 80 → K 91 j = 3 ∧ K 92 j = 400 ∧ K 93 j = (-2)) → XF fV l C mX10_go 142 [some (.ref 69), some (.int x1), some (.int x2), some (.int x3), some (.int x4), some (.int x5), some (.int 0)] [] G (wI K 69 22 0) Q) : ∀ (k i : Nat), i ≤ 80 → 80 < i + k → ∀ K, (∀ a, a ≠ 91 → a ≠ 92 → a ≠ 93 → K a = K1 a) → (∀ j, j < i → K 91 j = 3 ∧ K 92 j = 400 ∧ K 93 j = (-2)) → XF fV l C mX10_go 94 [some (.ref 69), some (.int x1), some (.int x2), some (.int x3), some (.int x4), some (.int x5), some (.int (nI i))] [] G K Q := by
  intro k
  induction k with
  | zero => intro i h1 h2; exact absurd h2 (by omega)
  | succ k ih =>
    intro i h1 h2 K hF hZ
    refine VX10_go_94 hG K x1 x2 x3 x4 x5 (nI i) (pk_le 80 i (fun hle => ?_) (fun hlt => ?_) rfl rfl)
    · exact hQ K hF (fun j hj => hZ j (by omega))
    · refine ⟨vp_in_nI hlt (by decide), ?_⟩
      rw [nI_clamp (show i < 2 ^ 31 by omega)]
      refine XF.to (ih (i + 1) (by omega) (by omega) _ (fun a z1 z2 z3 => ?_) (fun j hj => ?_)) (by rw [nI_succ]) rfl rfl
      · rw [wI_ne _ _ _ z3, wI_ne _ _ _ z2, wI_ne _ _ _ z1]; exact hF a z1 z2 z3
      · rw [wI_ne _ _ _ (show (91 : Nat) ≠ 93 by decide), wI_ne _ _ _ (show (91 : Nat) ≠ 92 by decide), wI_same, wI_ne _ _ _ (show (92 : Nat) ≠ 93 by decide), wI_same, wI_ne _ _ _ (show (92 : Nat) ≠ 91 by decide), wI_same, wI_ne _ _ _ (show (93 : Nat) ≠ 92 by decide), wI_ne _ _ _ (show (93 : Nat) ≠ 91 by decide)]
        by_cases hji : j = i
        · subst hji; simp [upd]
        · rw [upd_ne _ _ hji, upd_ne _ _ hji, upd_ne _ _ hji]; exact hZ j (by omega)
def GF (K K' : xI) : Prop := (∀ a, ((a ≤ 84 ∧ a ≠ 69) ∨ 96 ≤ a) → K' a = K a) ∧ (∀ i, (i < 18 ∨ 22 < i) → K' 69 i = K 69 i)
/-- the givens as the reference holds them ahead of a run -/
def MS0 (K : xI) (E : aE) (rw : Nat) : Prop := K 69 1 = nI (E 0 0) ∧ K 69 0 = nI (E 0 1) ∧ (rw < 4 ∧ K 81 rw = nI (E 0 5)) ∧ (∀ k, k < E 0 5 → K 83 (80 * rw + k) = nI (E 9 k) ∧ K 82 (80 * rw + k) = nI (E 8 k))
  ∧ (∀ j, j < E 0 0 → K 70 j = nI (E 1 j) ∧ K 71 j = nI (E 2 j) ∧ K 72 j = nI (E 3 j) ∧ K 73 j = nI (E 4 j) ∧ K 74 j = nI (E 5 j) ∧ K 75 j = nI (E 6 j) ∧ K 76 j = nI (E 7 j))
abbrev sEnd (E : aE) : aS × Nat := sRun E 400 sIni 0 0
theorem Zgo (hG : SH G) {K : xI} {E : aE} {rw : Nat} {kp : Int32} (hE : EI E) (h3 : E 0 3 = 3 → sCnt E sIni (E 0 0) ≤ E 0 1) (hS0 : MS0 K E rw) (hz : ¬ kp = 0 → ∀ x, x < 1600 → K 95 x = 0) : XF fV l C mX10_go 0 (xent mX10_go [.ref 69, .int (nI rw), .int (nI (E 0 3)), .int (nI (E 0 2)), .int (nI (E 0 4)), .int kp]) [] G K (fun _ K' => MS K' E rw ∧ GF K K' ∧ (kp = 0 → K' 95 = K 95) ∧ MD K' E (sEnd E).1 (sEnd E).2 ∧ SI E (sEnd E).1 ((sEnd E).2 - 1) ∧ (¬ kp = 0 → ML K' E (sEnd E).1 (sEnd E).2)) := by
  have hc := hE.2.2.2.1
  have hn4 := hE.2.1
  refine VX10_go hG K (nI rw) (nI (E 0 3)) (nI (E 0 2)) (nI (E 0 4)) kp ⟨?_, ?_⟩
  · have := hE.2.2.2.2.2.2.2.2.2
    rcases (show E 0 4 = 0 ∨ E 0 4 = 1 by omega) with e | e <;> rw [e]
    · exact Or.inl rfl
    · exact Or.inr rfl
  refine Lgo_24 hG (fun Ka fa za => ?_) 5 0 (by omega) (by omega) _ (fun _ _ _ _ _ => rfl) (fun j hj => absurd hj (by omega))
  refine Lgo_71 hG (fun Kb fb zb => ?_) 6 0 (by omega) (by omega) _ (fun _ _ => rfl) (fun j hj => absurd hj (by omega))
  refine Lgo_94 hG (fun Kc fc zc => ?_) 81 0 (by omega) (by omega) _ (fun _ _ _ _ => rfl) (fun j hj => absurd hj (by omega))
  have fcK : ∀ a, a ≠ 69 → ((a ≤ 84) ∨ 95 ≤ a) → wI Kc 69 22 0 a = K a := by
    intro a h1 h2
    rw [wI_ne _ _ _ h1, fc a (by omega) (by omega) (by omega), fb a (by omega), fa a (by omega) (by omega) (by omega) (by omega), wI_ne _ _ _ h1, wI_ne _ _ _ h1, wI_ne _ _ _ h1, wI_ne _ _ _ h1]
  have e61 : wI Kc 69 22 0 69 = upd (upd (upd (upd (upd (K 69) 18 (nI rw)) 19 (nI (E 0 3))) 20 (nI (E 0 2))) 21 (nI (E 0 4))) 22 0 := by
    rw [wI_same, fc 69 (by decide) (by decide) (by decide), fb 69 (by decide), fa 69 (by decide) (by decide) (by decide) (by decide), wI_same, wI_same, wI_same, wI_same]
  have hMS : MS (wI Kc 69 22 0) E rw := by
    unfold MS
    rw [e61, fcK 70 (by decide) (by decide), fcK 71 (by decide) (by decide), fcK 72 (by decide) (by decide), fcK 73 (by decide) (by decide), fcK 74 (by decide) (by decide), fcK 75 (by decide) (by decide), fcK 76 (by decide) (by decide), fcK 81 (by decide) (by decide), fcK 82 (by decide) (by decide), fcK 83 (by decide) (by decide)]
    obtain ⟨b1, b2, b3, b4, b5⟩ := hS0
    refine ⟨by simpa [upd] using b1, by simpa [upd] using b2, ⟨b3.1, by simp [upd], b3.2⟩, b4, by simp [upd], by simp [upd], by simp [upd], b5⟩
  have hFT : ∀ K', FT (wI Kc 69 22 0) K' → GF K K' := by
    intro K' hf
    refine ⟨fun a ha => (hf.1 a ha).trans (fcK a (by omega) (by omega)), fun i hi => ?_⟩
    rw [hf.2 i (by omega), e61, upd_ne _ _ (by omega), upd_ne _ _ (by omega), upd_ne _ _ (by omega), upd_ne _ _ (by omega), upd_ne _ _ (by omega)]
  have hini : MD (wI Kc 69 22 0) E sIni 0 := by
    refine ⟨by rw [wI_same, upd_same]; rfl, fun j hj => ⟨0, ?_, ?_, by simp [sIni], fun t ht => absurd ht (by simp [sIni])⟩, fun k hk => ?_, fun j hj => ?_, fun j hj => ⟨?_, fun t ht => absurd ht (by omega)⟩⟩
    · rw [wI_ne _ _ _ (by decide), fc 87 (by decide) (by decide) (by decide), fb 87 (by decide)]; exact (za j hj).2.1
    · rw [wI_ne _ _ _ (by decide), fc 86 (by decide) (by decide) (by decide), fb 86 (by decide)]; exact (za j hj).1
    · rw [wI_ne _ _ _ (by decide), wI_ne _ _ _ (by decide), wI_ne _ _ _ (by decide)]
      obtain ⟨q1, q2, q3⟩ := zc k (by omega)
      rw [q1, q2, q3]
      exact ⟨rfl, rfl, rfl⟩
    · rw [wI_ne _ _ _ (by decide), fc 94 (by decide) (by decide) (by decide), zb j hj]; rfl
    · rw [wI_ne _ _ _ (by decide), fc 89 (by decide) (by decide) (by decide), fb 89 (by decide), (za j (by omega)).2.2.2]; rfl
  refine Lgo_142 hG hE 400 0 0 sIni (wI Kc 69 22 0) _ rfl ⟨hMS, hini, ?_, SI_ini h3, ?_, ?_⟩ (FT.refl _) (fun _ => rfl) ?_ ?_
  · intro j hj hh
    refine ⟨0, ?_, by simp [sIni], by omega, fun k _ hk => absurd hk (by omega)⟩
    rw [wI_ne _ _ _ (by decide), fc 88 (by decide) (by decide) (by decide), fb 88 (by decide)]
    exact (za j (by omega)).2.2.1
  · exact ⟨Nat.zero_le _, fun l _ => by simp [sIni], fun k hk => absurd hk (by omega), fun l => by simp [sIni]⟩
  · exact ⟨fun k hk => absurd hk (by omega), fun k _ _ => Nat.zero_le _⟩
  · intro q j hj t ht
    rw [if_neg (by omega), fcK 95 (by decide) (by decide)]
    exact hz q _ (by omega)
  · intro K' q1 q2 q3 q4 q5 q6
    exact ⟨q1, hFT K' q2, fun z => (q3 z).trans (fcK 95 (by decide) (by decide)), q4, q5, q6⟩
end MRun
