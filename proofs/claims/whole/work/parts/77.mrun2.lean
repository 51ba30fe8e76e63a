/-! the reference: what stands on a run -/
section MRu
variable {l : Launch} {C : xC} {G : xG}
def nSent (E : aE) : Nat := cnt (fun k => decide (sFt (sEnd E).1 k = 0)) (E 0 5)
theorem Lcs (hG : SH G) {K : xI} {E : aE} {S : aS} {rw : Nat} (hE : EI E) (hr : rw < 4) (h18 : K 69 18 = nI rw) (hc : K 81 rw = nI (E 0 5)) (hf : ∀ k, k < E 0 5 → K 91 k = nI (sFt S k) ∧ sFt S k ≤ 3) : ∀ (f k : Nat), k ≤ E 0 5 → E 0 5 < k + f → XF fI l C mX10_countSent 4 [some (.ref 69), some (.int (nI (cnt (fun k => decide (sFt S k = 0)) k))), some (.int (nI k))] [] G K (fun v K' => v = nI (cnt (fun k => decide (sFt S k = 0)) (E 0 5)) ∧ K' = K) := by
  have hc80 := hE.2.2.2.1
  intro f
  induction f with
  | zero => intro i h1 h2; exact absurd h2 (by omega)
  | succ f ih =>
    intro k h1 h2
    refine VX10_countSent_4 hG K _ (nI k) ⟨by rw [h18]; exact vp_in_nI hr (by decide), ?_⟩
    rw [h18, nI_clamp (show rw < 2 ^ 31 by omega)]
    refine pk_le (E 0 5) k (fun hle => ?_) (fun hlt => ?_) hc rfl
    · have : k = E 0 5 := by omega
      subst this
      exact ⟨rfl, rfl⟩
    · rw [nI_clamp (show k < 2 ^ 31 by omega), (hf k hlt).1]
      have h3 := (hf k hlt).2
      refine ⟨vp_in_nI (by omega) (by decide), pk_eq (sFt S k) 0 (fun hz => ?_) (fun hz => ?_) rfl rfl (by omega) (by omega)⟩
      · refine XF.to (ih (k + 1) (by omega) (by omega)) ?_ rfl rfl
        rw [cnt_succ, if_pos (decide_eq_true hz), nI_1, nI_1]
      · refine XF.to (ih (k + 1) (by omega) (by omega)) ?_ rfl rfl
        have e : (decide (sFt S k = 0)) = false := decide_eq_false hz
        rw [cnt_succ, e, nI_1, show (0 : Int32) = nI 0 from rfl, nI_add]
        rfl
theorem ft3 {E : aE} {S : aS} {τ : Nat} (hI : SI E S τ) {k : Nat} (hk : k < E 0 5) : sFt S k ≤ 3 := by
  have := (hI.2.2.2.2.1 k hk).2.2.1
  unfold sFt
  split <;> omega
theorem ZcountS (hG : SH G) {K : xI} {E : aE} {rw : Nat} (hE : EI E) (hS : MS K E rw) (hD : MD K E (sEnd E).1 (sEnd E).2) (hI : SI E (sEnd E).1 ((sEnd E).2 - 1)) : XF fI l C mX10_countSent 0 (xent mX10_countSent [.ref 69]) [] G K (fun v K' => v = nI (nSent E) ∧ K' = K) :=
  VX10_countSent hG K (Lcs hG hE hS.2.2.1.1 hS.2.2.1.2.1 hS.2.2.1.2.2 (fun k hk => ⟨(hD.2.2.1 k hk).1, ft3 hI hk⟩) (E 0 5 + 1) 0 (by omega) (by omega))
theorem nSent_le (E : aE) : nSent E ≤ E 0 5 := cnt_le _ _
theorem Lru20 (hG : SH G) {K0 : xI} {x1 x2 : Int32} {Q : Int32 → xI → Prop} (hQ : ∀ K, (∀ a, a ≠ 95 → K a = K0 a) → (∀ x, x < 1600 → K 95 x = 0) → XF fI l C mX10_run 20 [some (.ref 69), some (.int x1), some (.int x2), some (.int (nI 1600))] [] G K Q) : ∀ (k i : Nat), i ≤ 1600 → 1600 < i + k → ∀ K, (∀ a, a ≠ 95 → K a = K0 a) → (∀ x, x < i → K 95 x = 0) → XF fI l C mX10_run 20 [some (.ref 69), some (.int x1), some (.int x2), some (.int (nI i))] [] G K Q := by
  intro k
  induction k with
  | zero => intro i h1 h2; exact absurd h2 (by omega)
  | succ k ih =>
    intro i h1 h2 K hF hz
    by_cases hi : i = 1600
    · subst hi; exact hQ K hF hz
    · refine VX10_run_20 hG K x1 x2 (nI i) (pk_le 1600 i (fun z => absurd z (by omega)) (fun hlt => ?_) rfl rfl)
      rw [nI_clamp (show i < 2 ^ 31 by omega)]
      refine ⟨vp_in_nI hlt (by decide), XF.to (ih (i + 1) (by omega) (by omega) _ (fun a ha => by rw [wI_ne _ _ _ ha, hF a ha]) (fun x hx => ?_)) (by rw [nI_succ]) rfl rfl⟩
      rw [wI_same]
      by_cases hxi : x = i
      · subst hxi; rw [upd_same]
      · rw [upd_ne _ _ hxi]; exact hz x (by omega)
theorem Lru77 (hG : SH G) {K0 : xI} {c rw : Nat} {x2 : Int32} (hr : rw < 4) (hc : c ≤ 80) (h35 : K0 69 35 = nI c) {Q : Int32 → xI → Prop} (hQ : ∀ K, (∀ a, a ≠ 96 → a ≠ 97 → a ≠ 98 → a ≠ 99 → K a = K0 a) → (∀ k, k < c → K 96 k = K0 91 k ∧ K 97 k = K0 92 k ∧ K 98 k = K0 93 k ∧ K 99 k = K0 83 (80 * rw + k)) → XF fI l C mX10_run 146 [some (.ref 69), some (.int (nI rw)), some (.int x2), some (.int 0)] [] G K Q) : ∀ (k i : Nat), i ≤ c → c < i + k → ∀ K, (∀ a, a ≠ 96 → a ≠ 97 → a ≠ 98 → a ≠ 99 → K a = K0 a) → (∀ k, k < i → K 96 k = K0 91 k ∧ K 97 k = K0 92 k ∧ K 98 k = K0 93 k ∧ K 99 k = K0 83 (80 * rw + k)) → XF fI l C mX10_run 77 [some (.ref 69), some (.int (nI rw)), some (.int x2), some (.int (nI i))] [] G K Q := by
  intro k
  induction k with
  | zero => intro i h1 h2; exact absurd h2 (by omega)
  | succ k ih =>
    intro i h1 h2 K hF hz
    refine VX10_run_77 hG K (nI rw) x2 (nI i) (pk_le c i (fun hle => hQ K hF (fun x hx => hz x (by omega))) (fun hlt => ?_) (by rw [hF 69 (by decide) (by decide) (by decide) (by decide)]; exact h35) rfl)
    rw [nI_clamp (show i < 2 ^ 31 by omega), ix80, nI_clamp (show 80 * rw + i < 2 ^ 31 by omega)]
    refine ⟨vp_in_nI (by omega) (by decide), vp_in_nI (by omega) (by decide), XF.to (ih (i + 1) (by omega) (by omega) _ (fun a z1 z2 z3 z4 => ?_) (fun x hx => ?_)) (by rw [nI_succ]) rfl rfl⟩
    · rw [wI_ne _ _ _ z4, wI_ne _ _ _ z3, wI_ne _ _ _ z2, wI_ne _ _ _ z1, hF a z1 z2 z3 z4]
    · rw [wI_ne _ _ _ (show (96 : Nat) ≠ 99 by decide), wI_ne _ _ _ (show (96 : Nat) ≠ 98 by decide), wI_ne _ _ _ (show (96 : Nat) ≠ 97 by decide), wI_same, wI_ne _ _ _ (show (97 : Nat) ≠ 99 by decide), wI_ne _ _ _ (show (97 : Nat) ≠ 98 by decide), wI_same, wI_ne _ _ _ (show (97 : Nat) ≠ 96 by decide), wI_ne _ _ _ (show (98 : Nat) ≠ 99 by decide), wI_same, wI_ne _ _ _ (show (98 : Nat) ≠ 97 by decide), wI_ne _ _ _ (show (98 : Nat) ≠ 96 by decide), wI_same, wI_ne _ _ _ (show (99 : Nat) ≠ 98 by decide), wI_ne _ _ _ (show (99 : Nat) ≠ 97 by decide), wI_ne _ _ _ (show (99 : Nat) ≠ 96 by decide), hF 91 (by decide) (by decide) (by decide) (by decide), hF 92 (by decide) (by decide) (by decide) (by decide), hF 93 (by decide) (by decide) (by decide) (by decide), hF 83 (by decide) (by decide) (by decide) (by decide)]
      by_cases hxi : x = i
      · subst hxi; rw [upd_same, upd_same, upd_same, upd_same]; exact ⟨rfl, rfl, rfl, rfl⟩
      · rw [upd_ne _ _ hxi, upd_ne _ _ hxi, upd_ne _ _ hxi, upd_ne _ _ hxi]; exact hz x (by omega)
theorem Lru146 (hG : SH G) {K0 : xI} {x1 x2 : Int32} {Q : Int32 → xI → Prop} (hQ : ∀ K, (∀ a, a ≠ 100 → K a = K0 a) → (∀ j, j < 5 → K 100 j = K0 94 j) → XF fI l C mX10_countSent 0 (xent mX10_countSent [.ref 69]) [] G K Q) : ∀ (k i : Nat), i ≤ 5 → 5 < i + k → ∀ K, (∀ a, a ≠ 100 → K a = K0 a) → (∀ j, j < i → K 100 j = K0 94 j) → XF fI l C mX10_run 146 [some (.ref 69), some (.int x1), some (.int x2), some (.int (nI i))] [] G K Q := by
  intro k
  induction k with
  | zero => intro i h1 h2; exact absurd h2 (by omega)
  | succ k ih =>
    intro i h1 h2 K hF hz
    refine VX10_run_146 hG K x1 x2 (nI i) (pk_le 5 i (fun hle => ⟨_, hQ K hF (fun x hx => hz x (by omega)), fun v I h => h⟩) (fun hlt => ?_) rfl rfl)
    rw [nI_clamp (show i < 2 ^ 31 by omega)]
    refine ⟨vp_in_nI hlt (by decide), XF.to (ih (i + 1) (by omega) (by omega) _ (fun a ha => by rw [wI_ne _ _ _ ha, hF a ha]) (fun x hx => ?_)) (by rw [nI_succ]) rfl rfl⟩
    rw [wI_same, hF 94 (by decide)]
    by_cases hxi : x = i
    · subst hxi; rw [upd_same]
    · rw [upd_ne _ _ hxi]; exact hz x (by omega)
/-- what the reference keeps of a run -/
def MK (K : xI) (E : aE) : Prop := K 69 34 = 1 ∧ K 69 35 = nI (E 0 5) ∧ K 69 36 = nI (sEnd E).2 ∧ (∀ k, k < E 0 5 → K 96 k = nI (sFt (sEnd E).1 k) ∧ K 97 k = nI ((sEnd E).1.2 1 k) ∧ K 98 k = pI ((sEnd E).1.2 2 k) ∧ K 99 k = nI (E 9 k)) ∧ (∀ j, j < 5 → K 100 j = nI ((sEnd E).1.2 4 j)) ∧ ML K E (sEnd E).1 (sEnd E).2
def FR10 (K K' : xI) : Prop := (∀ a, (a ≤ 84 ∧ a ≠ 69) ∨ 101 ≤ a → K' a = K a) ∧ (∀ i, i < 18 ∨ (22 < i ∧ i ≠ 34 ∧ i ≠ 35 ∧ i ≠ 36) → K' 69 i = K 69 i)
set_option maxHeartbeats 4000000 in
theorem Zrun10 (hG : SH G) {K : xI} {E : aE} {rw : Nat} (hE : EI E) (h3 : E 0 3 = 3 → sCnt E sIni (E 0 0) ≤ E 0 1) (hS0 : MS0 K E rw) (ha : K 69 9 = nI (E 0 2)) (hpl : E 0 4 = 0) : XF fI l C mX10_run 0 (xent mX10_run [.ref 69, .int (nI rw), .int (nI (E 0 3))]) [] G K (fun v K' => v = nI (nSent E) ∧ MK K' E ∧ FR10 K K') := by
  have hr4 := hS0.2.2.1.1
  have hc := hE.2.2.2.1
  have hr3 := hE.2.2.2.2.2.2.2.2.1
  refine VX10_run hG K (nI rw) (nI (E 0 3)) ⟨_, XF.of (YX10_isRow K (nI rw)), ?_⟩
  rintro v K1 ⟨rfl, rfl⟩
  refine bI_split (fun z => absurd ⟨nI_pos' (by omega), show nI rw ≤ nI 3 from nI_le (by omega) (by omega)⟩ z) (fun _ => ?_)
  refine ⟨_, XF.of (YX10_in K1 (nI (E 0 3)) 0 3), ?_⟩
  rintro v K2 ⟨rfl, rfl⟩
  refine bI_split (fun z => absurd ⟨nI_pos' (by omega), show nI (E 0 3) ≤ nI 3 from nI_le (by omega) (by omega)⟩ z) (fun _ => ?_)
  refine Lru20 hG (fun Ka fa za => ?_) 1601 0 (by omega) (by omega) K2 (fun _ _ => rfl) (fun x hx => absurd hx (by omega))
  refine VX10_run_20 hG Ka (nI rw) (nI (E 0 3)) (nI 1600) ⟨fun _ => ?_, fun z => absurd (by decide) z⟩
  have hSa : MS0 Ka E rw := by
    unfold MS0 at hS0 ⊢
    rw [fa 69 (by decide), fa 70 (by decide), fa 71 (by decide), fa 72 (by decide), fa 73 (by decide), fa 74 (by decide), fa 75 (by decide), fa 76 (by decide), fa 81 (by decide), fa 82 (by decide), fa 83 (by decide)]
    exact hS0
  have hgo := Zgo (l := l) (C := C) hG (K := Ka) (kp := 1) hE h3 hSa (fun _ => za)
  rw [hpl] at hgo
  rw [fa 69 (by decide), ha]
  refine ⟨_, hgo, ?_⟩
  rintro - Kb ⟨b1, b2, b3, b4, b5, b6⟩
  rw [nI_clamp (show rw < 2 ^ 31 by omega), b1.2.2.1.2.2, b4.1]
  refine ⟨vp_in_nI hr4 (by decide), ?_⟩
  generalize hKc : wI (wI (wI Kb 69 34 1) 69 35 (nI (E 0 5))) 69 36 (nI (sEnd E).2) = Kc
  have nc : ∀ a, a ≠ 69 → Kc a = Kb a := fun a ha => by rw [← hKc, wI_ne _ _ _ ha, wI_ne _ _ _ ha, wI_ne _ _ _ ha]
  have c61 : Kc 69 = upd (upd (upd (Kb 69) 34 1) 35 (nI (E 0 5))) 36 (nI (sEnd E).2) := by rw [← hKc, wI_same, wI_same, wI_same]
  refine Lru77 hG hr4 hc (by rw [c61]; simp [upd]) (fun Kd fd zd => ?_) (E 0 5 + 1) 0 (by omega) (by omega) Kc (fun _ _ _ _ _ => rfl) (fun x hx => absurd hx (by omega))
  refine Lru146 hG (fun Ke fe ze => ?_) 6 0 (by omega) (by omega) Kd (fun _ _ => rfl) (fun x hx => absurd hx (by omega))
  have e61 : Ke 69 = Kc 69 := by rw [fe 69 (by decide), fd 69 (by decide) (by decide) (by decide) (by decide)]
  have nde : ∀ a, a ≠ 69 → a ≠ 96 → a ≠ 97 → a ≠ 98 → a ≠ 99 → a ≠ 100 → Ke a = Kb a := fun a z0 z1 z2 z3 z4 z5 => by rw [fe a z5, fd a z1 z2 z3 z4, nc a z0]
  refine XF.mono (VX10_countSent hG Ke (Lcs hG hE hr4 (by rw [e61, c61]; simpa [upd] using b1.2.2.1.2.1) (by rw [nde 81 (by decide) (by decide) (by decide) (by decide) (by decide) (by decide)]; exact b1.2.2.1.2.2) (fun k hk => ⟨by rw [nde 91 (by decide) (by decide) (by decide) (by decide) (by decide) (by decide)]; exact (b4.2.2.1 k hk).1, ft3 b5 hk⟩) (E 0 5 + 1) 0 (by omega) (by omega))) ?_
  rintro v K' ⟨rfl, rfl⟩
  refine ⟨rfl, ⟨by rw [e61, c61]; simp [upd], by rw [e61, c61]; simp [upd], by rw [e61, c61]; simp [upd], fun k hk => ?_, fun j hj => ?_, fun j hj t ht => ?_⟩, fun a ha => ?_, fun i hi => ?_⟩
  · obtain ⟨z1, z2, z3, z4⟩ := zd k hk
    rw [fe 96 (by decide), fe 97 (by decide), fe 98 (by decide), fe 99 (by decide), z1, z2, z3, z4, nc 91 (by decide), nc 92 (by decide), nc 93 (by decide), nc 83 (by decide)]
    obtain ⟨y1, y2, y3⟩ := b4.2.2.1 k hk
    exact ⟨y1, y2, y3, (b1.2.2.2.1 k hk).1⟩
  · rw [ze j hj, fd 94 (by decide) (by decide) (by decide) (by decide), nc 94 (by decide)]; exact b4.2.2.2.1 j hj
  · rw [nde 95 (by decide) (by decide) (by decide) (by decide) (by decide) (by decide)]; exact b6 (by decide) j hj t ht
  · rw [nde a (by omega) (by omega) (by omega) (by omega) (by omega) (by omega), b2.1 a (by omega), fa a (by omega)]
  · rw [e61, c61, upd_ne _ _ (by omega), upd_ne _ _ (by omega), upd_ne _ _ (by omega), b2.2 i (by omega), fa 69 (by decide)]
end MRu
