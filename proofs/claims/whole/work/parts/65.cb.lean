/-! the class's run is the plain one: the whole run (run b) -/
section CRun
variable {l : Launch} {C : xC} {G : xG}
theorem CDb_end {I I' : xI} {E : aE} {S T : aS} {τ τ' : Nat} (h : CDb I E S τ) (h1 : ∀ a, a ≠ 26 → a ≠ 34 → a ≠ 35 → a < 26 + 18 → I' a = I a) (h2 : ∀ i, i ≠ 12 → i ≠ 13 → i ≠ 15 → i ≠ 16 → I' 26 i = I 26 i) (h3 : I' 26 12 = nI τ') (e1 : T.1 = S.1) (e2 : ∀ a, a ≤ 4 → T.2 a = S.2 a) : CDb I' E T τ' := by
  obtain ⟨d1, d2, d3, d4, d5, d6, d7, d8, d9, d10⟩ := h
  refine ⟨by rw [h2 10 (by decide) (by decide) (by decide) (by decide)]; exact d1, by rw [h2 11 (by decide) (by decide) (by decide) (by decide)]; exact d2, h3, by rw [h2 14 (by decide) (by decide) (by decide) (by decide)]; exact d4, ?_, ?_, fun j hj => ?_, fun k hk => ?_, fun j hj => ?_, fun z => ?_⟩
  · rw [h2 17 (by decide) (by decide) (by decide) (by decide), d5]; unfold sTot; rw [e1]
  · rw [h2 18 (by decide) (by decide) (by decide) (by decide), d6, e2 4 (by decide)]
  · rw [e1]; exact RQ_ext (d7 j hj) (h1 _ (by omega) (by omega) (by omega) (by omega)) (h1 _ (by omega) (by omega) (by omega) (by omega))
  · rw [h1 28 (by decide) (by decide) (by decide) (by decide), h1 29 (by decide) (by decide) (by decide) (by decide), h1 30 (by decide) (by decide) (by decide) (by decide), h1 31 (by decide) (by decide) (by decide) (by decide), h1 32 (by decide) (by decide) (by decide) (by decide), e2 0 (by decide), e2 1 (by decide), e2 2 (by decide), e2 3 (by decide)]
    exact d8 k hk
  · rw [h1 33 (by decide) (by decide) (by decide) (by decide), e2 4 (by decide)]; exact d9 j hj
  · rw [h1 3 (by decide) (by decide) (by decide) (by decide)]; exact d10 z
/-- what is still to be sent at the end -/
def RRb (I0 I : xI) (E : aE) (S : aS) (T : Nat → List Nat) : Prop := (∀ j, j < 4 → RQ I (36 + 2 * j) (T j)) ∧ (∀ j, j < 4 → ∀ k, k ∈ T j → k ∈ S.1 j) ∧ (∀ k, k < E 0 5 → (∀ j, j < 4 → k ∉ T j) → I 30 k = nI (sFt S k)) ∧ (∀ k, k < E 0 5 → I 31 k = nI (S.2 1 k)) ∧ (∀ a, a ≠ 30 → a ≠ 31 → (a < 36 ∨ 36 + 8 ≤ a) → I a = I0 a)
set_option maxHeartbeats 4000000 in
theorem Lrest17b (hG : SH G) {I0 : xI} {E : aE} {S : aS} {τ j : Nat} (hE : EI E) (hI : SI E S τ) (hτ : τ < 400) (hj : j < 4) {Q : Unit → xI → Prop} (hQ : ∀ I T, RRb I0 I E S T → (∀ i, i ≤ j → T i = []) → XF fV l C mX5_sendRest 2 [some (.ref 26), some (.int (nI (j + 1))), none] [] G I Q) : ∀ (m : Nat) (I : xI) (T : Nat → List Nat), (T j).length = m → RRb I0 I E S T → (∀ i, i < j → T i = []) → XF fV l C mX5_sendRest 17 [some (.ref 26), some (.int (nI j)), some (.int (nI m))] [] G I Q := by
  have hc := hE.2.2.2.1
  intro m
  induction m with
  | zero =>
    intro I T hm hR hz
    refine VX5_sendRestb_17 hG I (nI j) (nI 0) ⟨fun _ => ?_, fun z => absurd (by decide) z⟩
    refine XF.to (hQ I T hR (fun i hi => ?_)) (by rw [nI_succ]) rfl rfl
    by_cases hij : i = j
    · subst hij; exact List.length_eq_zero_iff.mp hm
    · exact hz i (by omega)
  | succ m ih =>
    intro I T hm hR hz
    obtain ⟨r1, r2, r3, r4, r5⟩ := hR
    have hm12 : m + 1 ≤ 12 := by
      obtain ⟨-, -, -, -, q, -⟩ := r1 j hj
      omega
    refine VX5_sendRestb_17 hG I (nI j) (nI (m + 1)) (pk_le (m + 1) 0 (fun z => absurd z (by omega)) (fun _ => ?_) rfl rfl)
    obtain ⟨g, L, hL⟩ : ∃ g L, T j = g :: L := by
      cases hq : T j with
      | nil => rw [hq] at hm; simp at hm
      | cons g L => exact ⟨g, L, rfl⟩
    have hgm : g ∈ S.1 j := r2 j hj g (by rw [hL]; simp)
    obtain ⟨g1, g2, g3, g4, g5, g6⟩ := hI.1 j hj g hgm
    have hsf : sFt S g = 0 := by unfold sFt; rw [if_pos ⟨by omega, g5⟩]
    rw [nI_clamp (show j < 2 ^ 31 by omega)]
    refine ⟨vp_in_nI hj (by decide), _, Zfirst hG (QU36 hG hj) (by rw [← hL]; exact r1 j hj), ?_⟩
    rintro v I1 ⟨rfl, a1, a2⟩
    refine ⟨_, Zsettleb hG I1 0 400 (show g < 80 by omega), ?_⟩
    rintro - I2 rfl
    refine XF.to (ih _ (uQ T j L) (by rw [uQ_at]; rw [hL] at hm; simpa using hm) ⟨fun i hi => ?_, fun i hi k hk => ?_, fun k hk hn => ?_, fun k hk => ?_, fun a z1 z2 z3 => ?_⟩ (fun i hi => by rw [uQ_ne _ _ (by omega)]; exact hz i hi)) (by rw [pk_m1]) rfl rfl
    · by_cases hij : i = j
      · subst hij
        rw [uQ_at]
        refine RQ_ext a1 ?_ ?_
        · rw [wI_ne _ _ _ (by omega), wI_ne _ _ _ (by omega)]
        · rw [wI_ne _ _ _ (by omega), wI_ne _ _ _ (by omega)]
      · rw [uQ_ne _ _ hij]
        refine RQ_ext (r1 i hi) ?_ ?_
        · rw [wI_ne _ _ _ (by omega), wI_ne _ _ _ (by omega), a2 _ (by omega) (by omega)]
        · rw [wI_ne _ _ _ (by omega), wI_ne _ _ _ (by omega), a2 _ (by omega) (by omega)]
    · by_cases hij : i = j
      · subst hij
        rw [uQ_at] at hk
        exact r2 i hi k (by rw [hL]; simp [hk])
      · rw [uQ_ne _ _ hij] at hk
        exact r2 i hi k hk
    · rw [wI_ne _ _ _ (by decide), wI_same, a2 _ (by omega) (by omega)]
      by_cases hkg : k = g
      · subst hkg; rw [upd_same, hsf]; rfl
      · rw [upd_ne _ _ hkg]
        refine r3 k hk (fun i hi hki => ?_)
        by_cases hij : i = j
        · subst hij
          rw [hL] at hki
          have : k ∈ L := by simpa [hkg] using hki
          exact hn i hi (by rw [uQ_at]; exact this)
        · exact hn i hi (by rw [uQ_ne _ _ hij]; exact hki)
    · rw [wI_same, wI_ne _ _ _ (by decide), a2 _ (by omega) (by omega)]
      by_cases hkg : k = g
      · subst hkg; rw [upd_same, g5]; rfl
      · rw [upd_ne _ _ hkg]; exact r4 k hk
    · rw [wI_ne _ _ _ z2, wI_ne _ _ _ z1, a2 _ (by omega) (by omega)]; exact r5 a z1 z2 z3
theorem Lrestb (hG : SH G) {I0 : xI} {E : aE} {S : aS} {τ : Nat} (hE : EI E) (hI : SI E S τ) (hτ : τ < 400) : ∀ (k j : Nat), j ≤ 4 → 4 < j + k → ∀ (I : xI) (T : Nat → List Nat), RRb I0 I E S T → (∀ i, i < j → T i = []) → XF fV l C mX5_sendRest 2 [some (.ref 26), some (.int (nI j)), none] [] G I (fun _ I' => RRb I0 I' E S (fun _ => [])) := by
  intro k
  induction k with
  | zero => intro j h1 h2; exact absurd h2 (by omega)
  | succ k ih =>
    intro j h1 h2 I T hR hz
    refine VX5_sendRestb_2 hG I (nI j) (pk_le 4 j (fun hle => ?_) (fun hlt => ?_) rfl rfl)
    · obtain ⟨r1, r2, r3, r4, r5⟩ := hR
      exact ⟨fun i hi => by rw [← hz i (by omega)]; exact r1 i hi, fun i _ k hk => absurd hk (by simp), fun k hk _ => r3 k hk (fun i hi => by rw [hz i (by omega)]; simp), r4, r5⟩
    · rw [nI_clamp (show j < 2 ^ 31 by omega)]
      obtain ⟨hd, -, -, q2, -⟩ := hR.1 j hlt
      rw [q2]
      exact ⟨vp_in_nI hlt (by decide), Lrest17b hG hE hI hτ hlt (fun I' T' a b => ih (j + 1) (by omega) (by omega) I' T' a (fun i hi => b i (by omega))) _ I T rfl hR hz⟩
theorem Zrestb (hG : SH G) {I : xI} {E : aE} {S : aS} {τ τ' : Nat} (hE : EI E) (hI : SI E S τ) (hτ : τ < 400) (hD : CDb I E S τ') : XF fV l C mX5_sendRest 0 (xent mX5_sendRest [.ref 26]) [] G I (fun _ I' => RRb I I' E S (fun _ => [])) := by
  refine VX5_sendRestb hG I (Lrestb hG hE hI hτ 5 0 (by omega) (by omega) I S.1 ⟨hD.2.2.2.2.2.2.1, fun _ _ _ h => h, fun k hk hn => ?_, fun k hk => (hD.2.2.2.2.2.2.2.1 k hk).2.2.2.1, fun _ _ _ _ => rfl⟩ (fun i hi => absurd hi (by omega)))
  rw [(hD.2.2.2.2.2.2.2.1 k hk).2.2.1]
  unfold sFt
  rw [if_neg (fun z => hn (E 9 k) (by have := hE.2.2.2.2.1 k hk; have := hE.2.1; omega) (hI.2.2.2.1 k hk z.1 z.2))]
/-- the run as it begins -/
def BIb (I0 I : xI) (E : aE) (i : Nat) : Prop := I 26 14 = nI (E 0 5) ∧ I 26 16 = nI (E 0 5) ∧ I 26 13 = 0 ∧ I 26 15 = 0 ∧ I 26 17 = 0 ∧ I 26 18 = 0 ∧ (∀ k, k < i → I 28 k = nI (E 9 k) ∧ I 29 k = nI 400 ∧ I 30 k = nI 3 ∧ I 31 k = nI 400 ∧ I 32 k = (-2)) ∧ (∀ a, (a < 26 ∨ 36 ≤ a) → I a = I0 a)
theorem Lbeg92b (hG : SH G) {I0 : xI} {E : aE} {w : Nat} (hW0 : CW I0 G E w) : ∀ (k j : Nat), j ≤ 4 → 4 < j + k → ∀ (I : xI), BIb I0 I E (E 0 5) → (∀ i, i < j → I 33 i = 0 ∧ I 34 i = 0 ∧ I 35 i = 0) → XF fV l C mX5_begin 92 [some (.ref 26), some (.ref w), some (.int (nI j))] [] G I (fun _ I' => BIb I0 I' E (E 0 5) ∧ ∀ i, i < 4 → I' 33 i = 0 ∧ I' 34 i = 0 ∧ I' 35 i = 0) := by
  intro k
  induction k with
  | zero => intro j h1 h2; exact absurd h2 (by omega)
  | succ k ih =>
    intro j h1 h2 I hB hz
    refine VX5_beginb_92 hG hW0.1 hW0.2.1 I (nI j) (pk_le 4 j (fun hle => ?_) (fun hlt => ?_) rfl rfl)
    · exact ⟨hB, fun i hi => hz i (by omega)⟩
    · rw [nI_clamp (show j < 2 ^ 31 by omega)]
      refine ⟨vp_in_nI hlt (by decide), XF.to (ih (j + 1) (by omega) (by omega) _ ?_ (fun i hi => ?_)) (by rw [nI_succ]) rfl rfl⟩
      · obtain ⟨b1, b2, b3, b4, b5, b6, b7, b8⟩ := hB
        have ne : ∀ a, a ≠ 33 → a ≠ 34 → a ≠ 35 → (wI (wI (wI I 33 j 0) 34 j 0) 35 j 0) a = I a := fun a z1 z2 z3 => by rw [wI_ne _ _ _ z3, wI_ne _ _ _ z2, wI_ne _ _ _ z1]
        unfold BIb
        rw [ne 26 (by decide) (by decide) (by decide), ne 28 (by decide) (by decide) (by decide), ne 29 (by decide) (by decide) (by decide), ne 30 (by decide) (by decide) (by decide), ne 31 (by decide) (by decide) (by decide), ne 32 (by decide) (by decide) (by decide)]
        exact ⟨b1, b2, b3, b4, b5, b6, b7, fun a ha => by rw [ne a (by omega) (by omega) (by omega)]; exact b8 a ha⟩
      · rw [wI_ne _ _ _ (show (33 : Nat) ≠ 35 by decide), wI_ne _ _ _ (show (33 : Nat) ≠ 34 by decide), wI_same, wI_ne _ _ _ (show (34 : Nat) ≠ 35 by decide), wI_same, wI_ne _ _ _ (show (34 : Nat) ≠ 33 by decide), wI_same, wI_ne _ _ _ (show (35 : Nat) ≠ 34 by decide), wI_ne _ _ _ (show (35 : Nat) ≠ 33 by decide)]
        by_cases hij : i = j
        · subst hij; simp [upd]
        · rw [upd_ne _ _ hij, upd_ne _ _ hij, upd_ne _ _ hij]; exact hz i (by omega)
set_option maxHeartbeats 4000000 in
theorem Lbeg38b (hG : SH G) {I0 : xI} {E : aE} {w : Nat} (hE : EI E) (hW0 : CW I0 G E w) : ∀ (k i : Nat), i ≤ E 0 5 → E 0 5 < i + k → ∀ (I : xI), BIb I0 I E i → XF fV l C mX5_begin 38 [some (.ref 26), some (.ref w), some (.int (nI i))] [] G I (fun _ I' => BIb I0 I' E (E 0 5) ∧ ∀ i, i < 4 → I' 33 i = 0 ∧ I' 34 i = 0 ∧ I' 35 i = 0) := by
  have hc := hE.2.2.2.1
  intro k
  induction k with
  | zero => intro j h1 h2; exact absurd h2 (by omega)
  | succ k ih =>
    intro i h1 h2 I hB
    refine VX5_beginb_38 hG hW0.1 hW0.2.1 I (nI i) (pk_le (E 0 5) i (fun hle => ?_) (fun hlt => ?_) hB.1 rfl)
    · have : i = E 0 5 := by omega
      subst this
      exact Lbeg92b hG hW0 5 0 (by omega) (by omega) I hB (fun j hj => absurd hj (by omega))
    · rw [nI_clamp (show i < 2 ^ 31 by omega)]
      have hw3 := hW0.2.2.1
      have hw2 := hW0.2.1
      refine ⟨vp_in_nI (by omega) (by decide), _, Zsettleb hG _ 3 400 (show i < 80 by omega), ?_⟩
      rintro - I2 rfl
      obtain ⟨b1, b2, b3, b4, b5, b6, b7, b8⟩ := hB
      rw [b8 (w + 2) (by omega), (hW0.2.2.2.2 i hlt).2]
      refine XF.to (ih (i + 1) (by omega) (by omega) _ ?_) (by rw [nI_succ]) rfl rfl
      have ne : ∀ a, a ≠ 28 → a ≠ 29 → a ≠ 30 → a ≠ 31 → a ≠ 32 → (wI (wI (wI (wI (wI I 28 i (nI (E 9 i))) 29 i 400) 30 i 3) 31 i 400) 32 i (-2)) a = I a := fun a z1 z2 z3 z4 z5 => by rw [wI_ne _ _ _ z5, wI_ne _ _ _ z4, wI_ne _ _ _ z3, wI_ne _ _ _ z2, wI_ne _ _ _ z1]
      unfold BIb
      rw [ne 26 (by decide) (by decide) (by decide) (by decide) (by decide)]
      refine ⟨b1, b2, b3, b4, b5, b6, fun x hx => ?_, fun a ha => by rw [ne a (by omega) (by omega) (by omega) (by omega) (by omega)]; exact b8 a ha⟩
      have w2 : (wI (wI (wI (wI (wI I 28 i (nI (E 9 i))) 29 i 400) 30 i 3) 31 i 400) 32 i (-2)) 28 = upd (I 28) i (nI (E 9 i)) := by rw [wI_ne _ _ _ (by decide), wI_ne _ _ _ (by decide), wI_ne _ _ _ (by decide), wI_ne _ _ _ (by decide), wI_same]
      have w3 : (wI (wI (wI (wI (wI I 28 i (nI (E 9 i))) 29 i 400) 30 i 3) 31 i 400) 32 i (-2)) 29 = upd (I 29) i 400 := by rw [wI_ne _ _ _ (by decide), wI_ne _ _ _ (by decide), wI_ne _ _ _ (by decide), wI_same, wI_ne _ _ _ (by decide)]
      have w4 : (wI (wI (wI (wI (wI I 28 i (nI (E 9 i))) 29 i 400) 30 i 3) 31 i 400) 32 i (-2)) 30 = upd (I 30) i 3 := by rw [wI_ne _ _ _ (by decide), wI_ne _ _ _ (by decide), wI_same, wI_ne _ _ _ (by decide), wI_ne _ _ _ (by decide)]
      have w5 : (wI (wI (wI (wI (wI I 28 i (nI (E 9 i))) 29 i 400) 30 i 3) 31 i 400) 32 i (-2)) 31 = upd (I 31) i 400 := by rw [wI_ne _ _ _ (by decide), wI_same, wI_ne _ _ _ (by decide), wI_ne _ _ _ (by decide), wI_ne _ _ _ (by decide)]
      have w6 : (wI (wI (wI (wI (wI I 28 i (nI (E 9 i))) 29 i 400) 30 i 3) 31 i 400) 32 i (-2)) 32 = upd (I 32) i (-2) := by rw [wI_same, wI_ne _ _ _ (by decide), wI_ne _ _ _ (by decide), wI_ne _ _ _ (by decide), wI_ne _ _ _ (by decide)]
      rw [w2, w3, w4, w5, w6]
      by_cases hxi : x = i
      · subst hxi
        rw [upd_same, upd_same, upd_same, upd_same, upd_same]
        exact ⟨rfl, rfl, rfl, rfl, rfl⟩
      · rw [upd_ne _ _ hxi, upd_ne _ _ hxi, upd_ne _ _ hxi, upd_ne _ _ hxi, upd_ne _ _ hxi]
        exact b7 x (by omega)
theorem Zbeginb (hG : SH G) {I : xI} {E : aE} {w : Nat} (hE : EI E) (hW : CW I G E w) : XF fV l C mX5_begin 0 (xent mX5_begin [.ref 26, .ref w]) [] G I (fun _ I' => BIb I I' E (E 0 5) ∧ ∀ i, i < 4 → I' 33 i = 0 ∧ I' 34 i = 0 ∧ I' 35 i = 0) := by
  have hw2 := hW.2.1
  refine VX5_beginb hG hW.1 hW.2.1 I (Lbeg38b hG hE hW (E 0 5 + 1) 0 (by omega) (by omega) _ ?_)
  rw [wI_ne _ _ _ (show w ≠ 26 by omega), hW.2.2.2.1]
  refine ⟨by simp [wI, upd], by simp [wI, upd], by simp [wI, upd], by simp [wI, upd], by simp [wI, upd], by simp [wI, upd], fun k hk => absurd hk (by omega), fun a ha => ?_⟩
  rw [wI_ne _ _ _ (by omega), wI_ne _ _ _ (by omega), wI_ne _ _ _ (by omega), wI_ne _ _ _ (by omega), wI_ne _ _ _ (by omega), wI_ne _ _ _ (by omega)]
/-- what a run leaves -/
def CEb (I : xI) (E : aE) : Prop := I 26 14 = nI (E 0 5) ∧ I 26 15 = nI (sEnd E).2 ∧ I 26 18 = nI ((sEnd E).1.2 4 4) ∧ (∀ k, k < E 0 5 → I 28 k = nI (E 9 k) ∧ I 29 k = nI ((sEnd E).1.2 3 k) ∧ I 30 k = nI (sFt (sEnd E).1 k) ∧ I 31 k = nI ((sEnd E).1.2 1 k) ∧ I 32 k = pI ((sEnd E).1.2 2 k)) ∧ (∀ j, j < 4 → I 33 j = nI ((sEnd E).1.2 4 j)) ∧ (∀ j, j < 4 → RQ I (36 + 2 * j) [])
theorem CEb_of {I I' : xI} {E : aE} {S : aS} {τ' : Nat} (hS : sEnd E = (S, τ')) {t : Nat} (hD : CDb I E S t) (h15 : I 26 15 = nI τ') (hR : RRb I I' E S (fun _ => [])) : CEb I' E ∧ FC 26 I I' := by
  obtain ⟨r1, r2, r3, r4, r5⟩ := hR
  obtain ⟨d1, d2, d3, d4, d5, d6, d7, d8, d9, d10⟩ := hD
  unfold CEb
  rw [hS]
  dsimp only
  rw [r5 26 (by decide) (by decide) (by decide), r5 28 (by decide) (by decide) (by decide), r5 29 (by decide) (by decide) (by decide), r5 32 (by decide) (by decide) (by decide), r5 33 (by decide) (by decide) (by decide)]
  refine ⟨⟨d4, h15, d6, fun k hk => ?_, d9, r1⟩, fun a ha => r5 a (by omega) (by omega) (by omega)⟩
  obtain ⟨q1, q2, q3, q4, q5⟩ := d8 k hk
  exact ⟨q1, q2, r3 k hk (fun _ _ => by simp), r4 k hk, q5⟩
set_option maxHeartbeats 8000000 in
theorem Lplayb (hG : SH G) {I0 : xI} {E : aE} {w : Nat} {x2 x3 : Int32} (hE : EI E) (hL0 : CL I0 G E) (hW0 : CW I0 G E w) : ∀ (m τ p : Nat) (S : aS) (I : xI), m + τ = 400 → FC 26 I0 I → CDb (wI I 26 12 (nI τ)) E S τ → CNb I E S → CBb I E S τ → I 26 16 = nI (sUnd E S) → I 26 13 = nI p → I 26 15 = nI τ → SI E S (τ - 1) → DI E S p → (∀ k, k < p → E 8 k ≤ τ) → sRun E m S p τ = sEnd E → XF fV l C mX5_play 18 [some (.ref 26), some (.ref w), some (.int x2), some (.int x3), some (.int (nI τ))] [] G I (fun _ I' => CEb I' E ∧ FC 26 I0 I') := by
  have hn4 := hE.2.1
  have hB := hE.2.2.1
  have hc := hE.2.2.2.1
  intro m
  induction m with
  | zero =>
    intro τ p S I hm hF hD hN hb hU h13 h15 hI hd hk hR
    have hL := CL_FC hL0 hF (by decide) (by decide)
    have hW := CW_FC hW0 hF (by decide)
    have hD' : CDb I E S (I 26 12).toNatClampNeg ∨ True := Or.inr trivial
    refine VX5_playb_18 hG hW.1 hW.2.1 I x2 x3 (nI τ) (pk_le 400 τ (fun _ => ?_) (fun z => absurd z (by omega)) rfl rfl)
    have hR2 : sEnd E = (S, τ) := hR.symm
    have hDx : RRb I I E S S.1 ∧ True := by
      refine ⟨⟨fun j hj => RQ_ext (hD.2.2.2.2.2.2.1 j hj) (wI_ne _ _ _ (by omega)).symm (wI_ne _ _ _ (by omega)).symm, fun _ _ _ h => h, fun k hk hn => ?_, fun k hk => ?_, fun _ _ _ _ => rfl⟩, trivial⟩
      · have := (hD.2.2.2.2.2.2.2.1 k hk).2.2.1
        rw [wI_ne _ _ _ (by decide)] at this
        rw [this]
        unfold sFt
        rw [if_neg (fun z => hn (E 9 k) (by have := hE.2.2.2.2.1 k hk; omega) (hI.2.2.2.1 k hk z.1 z.2))]
      · have := (hD.2.2.2.2.2.2.2.1 k hk).2.2.2.1
        rw [wI_ne _ _ _ (by decide)] at this
        exact this
    refine ⟨_, VX5_sendRestb hG I (Lrestb hG hE hI (by omega) 5 0 (by omega) (by omega) I S.1 hDx.1 (fun i hi => absurd hi (by omega))), ?_⟩
    rintro - I1 r
    have r' : RRb (wI I 26 12 (nI τ)) (wI I1 26 12 (nI τ)) E S (fun _ => []) := by
      obtain ⟨r1, r2, r3, r4, r5⟩ := r
      refine ⟨fun j hj => RQ_ext (r1 j hj) (wI_ne _ _ _ (by omega)) (wI_ne _ _ _ (by omega)), r2, fun k a b => by rw [wI_ne _ _ _ (by decide)]; exact r3 k a b, fun k a => by rw [wI_ne _ _ _ (by decide)]; exact r4 k a, fun a z1 z2 z3 => ?_⟩
      by_cases ha : a = 26
      · subst ha; rw [wI_same, wI_same, r5 _ z1 z2 z3]
      · rw [wI_ne _ _ _ ha, wI_ne _ _ _ ha, r5 _ z1 z2 z3]
    obtain ⟨e1, e2⟩ := CEb_of hR2 hD (by rw [wI_same, upd_ne _ _ (by decide)]; exact h15) r'
    refine ⟨?_, fun a ha => by rw [r.2.2.2.2 a (by omega) (by omega) (by omega)]; exact hF a ha⟩
    obtain ⟨f1, f2, f3, f4, f5, f6⟩ := e1
    rw [wI_same, upd_ne _ _ (by decide)] at f1 f2 f3
    refine ⟨f1, f2, f3, fun k hk => ?_, fun j hj => ?_, fun j hj => ?_⟩
    · have := f4 k hk
      rw [wI_ne _ _ _ (by decide), wI_ne _ _ _ (by decide), wI_ne _ _ _ (by decide), wI_ne _ _ _ (by decide), wI_ne _ _ _ (by decide)] at this
      exact this
    · have := f5 j hj
      rw [wI_ne _ _ _ (by decide)] at this
      exact this
    · exact RQ_ext (f6 j hj) (wI_ne _ _ _ (by omega)).symm (wI_ne _ _ _ (by omega)).symm
  | succ m ih =>
    intro τ p S I hm hF hD hN hb hU h13 h15 hI0 hd hk hR
    have hτ : τ < 400 := by omega
    have hI := SI_at hI0 hτ
    have htot := hI.2.2.2.2.2.1
    have hL := CL_FC hL0 hF (by decide) (by decide)
    have hW := CW_FC hW0 hF (by decide)
    have h17 : I 26 17 = nI (sTot S) := by have := hD.2.2.2.2.1; rw [wI_same, upd_ne _ _ (by decide)] at this; exact this
    have hu80 : sUnd E S ≤ E 0 5 := cnt_le _ _
    refine VX5_playb_18 hG hW.1 hW.2.1 I x2 x3 (nI τ) (pk_le 400 τ (fun z => absurd z (by omega)) (fun _ => ?_) rfl rfl)
    rw [hU, h17, nI_add]
    refine pk_le _ 0 (fun hz => ?_) (fun hz => ?_) rfl rfl (by omega) (by omega)
    · have hz0 : sUnd E S + sTot S = 0 := by omega
      have hR2 : sEnd E = (S, τ) := by rw [← hR]; unfold sRun; rw [if_pos hz0]
      have hq0 : ∀ j, j < 4 → S.1 j = [] := fun j hj => List.length_eq_zero_iff.mp (by have := len_le_tot S hj; unfold sLen at this; omega)
      have hDx : RRb I I E S S.1 := by
        refine ⟨fun j hj => RQ_ext (hD.2.2.2.2.2.2.1 j hj) (wI_ne _ _ _ (by omega)).symm (wI_ne _ _ _ (by omega)).symm, fun _ _ _ h => h, fun k hk hn => ?_, fun k hk => ?_, fun _ _ _ _ => rfl⟩
        · have := (hD.2.2.2.2.2.2.2.1 k hk).2.2.1
          rw [wI_ne _ _ _ (by decide)] at this
          rw [this]
          unfold sFt
          rw [if_neg (fun z => hn (E 9 k) (by have := hE.2.2.2.2.1 k hk; omega) (hI.2.2.2.1 k hk z.1 z.2))]
        · have := (hD.2.2.2.2.2.2.2.1 k hk).2.2.2.1
          rw [wI_ne _ _ _ (by decide)] at this
          exact this
      refine ⟨_, VX5_sendRestb hG I (Lrestb hG hE hI hτ 5 0 (by omega) (by omega) I S.1 hDx (fun i hi => absurd hi (by omega))), ?_⟩
      rintro - I1 r
      have r' : RRb (wI I 26 12 (nI τ)) (wI I1 26 12 (nI τ)) E S (fun _ => []) := by
        obtain ⟨r1, r2, r3, r4, r5⟩ := r
        refine ⟨fun j hj => RQ_ext (r1 j hj) (wI_ne _ _ _ (by omega)) (wI_ne _ _ _ (by omega)), r2, fun k a b => by rw [wI_ne _ _ _ (by decide)]; exact r3 k a b, fun k a => by rw [wI_ne _ _ _ (by decide)]; exact r4 k a, fun a z1 z2 z3 => ?_⟩
        by_cases ha : a = 26
        · subst ha; rw [wI_same, wI_same, r5 _ z1 z2 z3]
        · rw [wI_ne _ _ _ ha, wI_ne _ _ _ ha, r5 _ z1 z2 z3]
      obtain ⟨e1, e2⟩ := CEb_of hR2 hD (by rw [wI_same, upd_ne _ _ (by decide)]; exact h15) r'
      refine ⟨?_, fun a ha => by rw [r.2.2.2.2 a (by omega) (by omega) (by omega)]; exact hF a ha⟩
      obtain ⟨f1, f2, f3, f4, f5, f6⟩ := e1
      rw [wI_same, upd_ne _ _ (by decide)] at f1 f2 f3
      refine ⟨f1, f2, f3, fun k hk => ?_, fun j hj => ?_, fun j hj => ?_⟩
      · have := f4 k hk
        rw [wI_ne _ _ _ (by decide), wI_ne _ _ _ (by decide), wI_ne _ _ _ (by decide), wI_ne _ _ _ (by decide), wI_ne _ _ _ (by decide)] at this
        exact this
      · have := f5 j hj
        rw [wI_ne _ _ _ (by decide)] at this
        exact this
      · exact RQ_ext (f6 j hj) (wI_ne _ _ _ (by omega)).symm (wI_ne _ _ _ (by omega)).symm
    · have e : sRun E (m + 1) S p τ = sRun E m (sTick E S p τ).1 (sTick E S p τ).2 (τ + 1) := by
        conv => lhs; unfold sRun
        rw [if_neg (by omega)]
      rw [e] at hR
      obtain ⟨i1, i2, i3, i4⟩ := tick_inv hE hI hd hk hτ
      obtain ⟨a1, a2⟩ := helds_inv hE hI hd hτ (E 0 0)
      obtain ⟨b1, b2, b3, b4⟩ := due_inv hE hτ _ _ p rfl a1 a2 hk
      have c1 := SI_sends hE b1 hτ (E 0 0) hn4
      have hFw : FC 26 I (wI I 26 12 (nI τ)) := fun a ha => wI_ne _ _ _ (by omega)
      have hNw : CNb (wI I 26 12 (nI τ)) E S := by unfold CNb; rw [wI_ne _ _ _ (by decide)]; exact hN
      have hbw : CBb (wI I 26 12 (nI τ)) E S τ := CBb_ext hb (wI_ne _ _ _ (by decide)) rfl
      refine ⟨_, Zheldb hG hE (CL_FC hL hFw (by decide) (by decide)) (CW_FC hW hFw (by decide)) hbw hI hd hτ hD hNw (by rw [wI_same, upd_ne _ _ (by decide)]; exact hU), ?_⟩
      rintro - I1 ⟨f1, d1, n1, u1⟩
      have F1 := hFw.trans f1.1
      have h13' : I1 26 13 = nI p := by rw [f1.2.2 13 (by decide) (by decide) (by decide), wI_same, upd_ne _ _ (by decide)]; exact h13
      have h15' : I1 26 15 = nI τ := by rw [f1.2.2 15 (by decide) (by decide) (by decide), wI_same, upd_ne _ _ (by decide)]; exact h15
      refine ⟨_, Zdueb hG hE (CL_FC hL F1 (by decide) (by decide)) (CW_FC hW F1 (by decide)) hτ a1 a2 d1 h13' u1, ?_⟩
      rintro - I2 ⟨f2, d2, p2, u2⟩
      have F2 := F1.trans f2.1
      refine ⟨_, Zfirstsb hG hE (CL_FC hL F2 (by decide) (by decide)) b1 hτ d2, ?_⟩
      rintro - I3 ⟨f3, d3⟩
      have F3 := F2.trans f3.1
      have hb3 : CBb I3 E (sSends E τ (sDue E τ (E 0 5 - p) (sHelds E τ S (E 0 0)) p).1 (E 0 0)) τ := by
        refine CBb_ext hb ?_ ?_
        · rw [f3.2.1, f2.2.1, f1.2.1, wI_ne _ _ _ (by decide)]
        · rw [sends_f _ _ _ (by decide) (by decide), due_H, helds_H]
      refine ⟨_, Ztellb hG hE (CL_FC hL F3 (by decide) (by decide)) c1 hτ d3 hb3, ?_⟩
      rintro - I4 hT
      have h15'' : I4 26 15 = nI τ := by rw [hT.1 _ (by decide), f3.2.2.2 15 (by decide), f2.2.2.2 15 (by decide) (by decide) (by decide) (by decide)]; exact h15'
      have e5 : (sTick E S p τ).1.2 5 = (sDue E τ (E 0 5 - p) (sHelds E τ S (E 0 0)) p).1.2 5 := by
        show (sTells E τ _ _).2 5 = _
        rw [tells_f _ _ _ (by decide), sends_f _ _ _ (by decide) (by decide)]
      refine XF.to (ih (τ + 1) (sTick E S p τ).2 (sTick E S p τ).1 _ (by omega) ?_ ?_ ?_ ?_ ?_ ?_ ?_ i1 i2 (fun k hk => Nat.le_succ_of_le (i3 k hk)) hR) (by rw [nI_succ]) rfl rfl
      · intro a ha
        rw [wI_ne _ _ _ (by omega), hT.1 a (by omega), F3 a ha, hF a ha]
      · refine CDb_end d3 (fun a z1 z2 z3 z4 => ?_) (fun i z1 z2 z3 z4 => ?_) ?_ (tells_1 E _ τ _) (fun a ha => tells_f _ _ _ (by omega) _)
        · rw [wI_ne _ _ _ z1, wI_ne _ _ _ z1, hT.1 a z2]
        · rw [wI_same, upd_ne _ _ z1, wI_same, upd_ne _ _ z3, hT.1 _ (by decide)]
        · rw [wI_same, upd_same]
      · intro j hj hhj
        rw [wI_ne _ _ _ (by decide), hT.1 _ (by decide), f3.2.2.1, f2.2.2.1, e5]
        obtain ⟨N, q1, q2, q3, q4⟩ := n1 j hj hhj
        have hP : (sDue E τ (E 0 5 - p) (sHelds E τ S (E 0 0)) p).1.2 5 j = (sHelds E τ S (E 0 0)).2 5 j := due_held j hhj _ _ _
        rw [hP]
        exact ⟨N, q1, q2, q3, q4⟩
      · exact CBb_ext (S := sTells E τ (sSends E τ (sDue E τ (E 0 5 - p) (sHelds E τ S (E 0 0)) p).1 (E 0 0)) (E 0 0)) (CBb_end hτ hb3 hT) (wI_ne _ _ _ (by decide)) rfl
      · rw [wI_same, upd_ne _ _ (by decide), hT.1 _ (by decide), f3.2.2.2 16 (by decide), u2, und_P e5]
      · rw [wI_same, upd_ne _ _ (by decide), hT.1 _ (by decide), f3.2.2.2 13 (by decide), p2]
        rfl
      · rw [wI_same, upd_same, h15'', nI_1]
set_option maxHeartbeats 8000000 in
theorem Zplayb (hG : SH G) {I : xI} {E : aE} {w : Nat} (hE : EI E) (h3 : E 0 3 = 3 → sCnt E sIni (E 0 0) ≤ E 0 1) (hL : CL I G E) (hW : CW I G E w) (hA : E 0 3 = 1 → I 3 3 = nI (E 0 2)) (hQ : ∀ j, j < 4 → RQ I (36 + 2 * j) []) : XF fV l C mX5_play 0 (xent mX5_play [.ref 26, .ref w, .int (nI (E 0 3)), .int (nI (1 - E 0 4))]) [] G I (fun _ I' => CEb I' E ∧ FC 26 I I') := by
  have hn4 := hE.2.1
  have hc := hE.2.2.2.1
  refine VX5_playb hG hW.1 hW.2.1 I (nI (E 0 3)) (nI (1 - E 0 4)) ⟨_, Zbeginb hG hE hW, ?_⟩
  rintro - I1 ⟨⟨b1, b2, b3, b4, b5, b6, b7, b8⟩, z⟩
  refine ⟨?_, ?_⟩
  · rcases (show 1 - E 0 4 = 0 ∨ 1 - E 0 4 = 1 by omega) with e | e <;> rw [e]
    · exact Or.inl rfl
    · exact Or.inr rfl
  generalize hI2 : wI (wI I1 26 10 (nI (E 0 3))) 26 11 (nI (1 - E 0 4)) = I2
  have ne : ∀ a, a ≠ 26 → I2 a = I1 a := fun a ha => by rw [← hI2, wI_ne _ _ _ ha, wI_ne _ _ _ ha]
  have nq : ∀ i, i ≠ 10 → i ≠ 11 → I2 26 i = I1 26 i := fun i h1 h2 => by rw [← hI2, wI_same, upd_ne _ _ h2, wI_same, upd_ne _ _ h1]
  refine XF.mono (Lplayb hG hE hL hW 400 0 0 sIni I2 rfl (fun a ha => by rw [ne a (by omega)]; exact b8 a (by omega)) ?_ ?_ ?_ ?_ ?_ ?_ (SI_ini h3) ?_ ?_ rfl) (fun _ _ h => h)
  · refine ⟨?_, ?_, ?_, ?_, ?_, ?_, fun j hj => ?_, fun k hk => ?_, fun j hj => ?_, fun q => ?_⟩
    · rw [wI_same, upd_ne _ _ (by decide), ← hI2, wI_same, upd_ne _ _ (by decide), wI_same, upd_same]
    · rw [wI_same, upd_ne _ _ (by decide), ← hI2, wI_same, upd_same]
    · rw [wI_same, upd_same]
    · rw [wI_same, upd_ne _ _ (by decide), nq _ (by decide) (by decide)]; exact b1
    · rw [wI_same, upd_ne _ _ (by decide), nq _ (by decide) (by decide), b5]; rfl
    · rw [wI_same, upd_ne _ _ (by decide), nq _ (by decide) (by decide), b6]; rfl
    · refine RQ_ext (hQ j hj) ?_ ?_
      · rw [wI_ne _ _ _ (by omega), ne _ (by omega), b8 _ (by omega)]
      · rw [wI_ne _ _ _ (by omega), ne _ (by omega), b8 _ (by omega)]
    · rw [wI_ne _ _ _ (by decide), wI_ne _ _ _ (by decide), wI_ne _ _ _ (by decide), wI_ne _ _ _ (by decide), wI_ne _ _ _ (by decide), ne _ (by decide), ne _ (by decide), ne _ (by decide), ne _ (by decide), ne _ (by decide)]
      obtain ⟨q1, q2, q3, q4, q5⟩ := b7 k hk
      exact ⟨q1, q2, q3, q4, q5⟩
    · rw [wI_ne _ _ _ (by decide), ne _ (by decide), (z j hj).1]; rfl
    · rw [wI_ne _ _ _ (by decide), ne _ (by decide), b8 _ (by decide)]; exact hA q
  · intro j hj hh
    refine ⟨0, by rw [ne _ (by decide), (z j (by omega)).2.2]; rfl, by simp [sIni], by omega, fun k _ hk => absurd hk (by omega)⟩
  · intro j hj
    refine ⟨fun t ht => absurd ht (by omega), fun _ b hb => ?_⟩
    rw [ne _ (by decide), (z j (by omega)).2.1, if_neg (by omega), hb_bit _ hb]
    simp
    rfl
  · rw [nq _ (by decide) (by decide), b2]
    congr 1
    exact und_ini E
  · rw [nq _ (by decide) (by decide), b3]; rfl
  · rw [nq _ (by decide) (by decide), b4]; rfl
  · exact ⟨Nat.zero_le _, fun l _ => by simp [sIni], fun k hk => absurd hk (by omega), fun l => by simp [sIni]⟩
  · exact fun k hk => absurd hk (by omega)
end CRun
