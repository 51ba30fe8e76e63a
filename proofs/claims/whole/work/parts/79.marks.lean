/-! the reference: the least share, marks -/
theorem EI_a {E : aE} (h : EI E) {a : Nat} (ha : a ≤ 160) : EI (uN E 0 2 a) := by
  obtain ⟨h1, h2, h3, h4, h5, h6, h7, h8, h9, h10⟩ := h
  have e0 : ∀ i, i ≠ 2 → uN E 0 2 a 0 i = E 0 i := fun i hi => uN_k _ _ _ hi
  have e : ∀ x, x ≠ 0 → uN E 0 2 a x = E x := fun x hx => uN_a _ _ _ hx
  unfold EI
  rw [e0 0 (by decide), e0 1 (by decide), e0 5 (by decide), e0 3 (by decide), e0 4 (by decide), uN_at, e 9 (by decide), e 8 (by decide), e 1 (by decide), e 2 (by decide), e 3 (by decide), e 4 (by decide), e 5 (by decide), e 6 (by decide), e 7 (by decide)]
  exact ⟨h1, h2, h3, h4, h5, h6, h7, ha, h9, h10⟩
theorem MS0_a {K : xI} {E : aE} {rw : Nat} (h : MS0 K E rw) (a : Nat) : MS0 K (uN E 0 2 a) rw := by
  have e0 : ∀ i, i ≠ 2 → uN E 0 2 a 0 i = E 0 i := fun i hi => uN_k _ _ _ hi
  have e : ∀ x, x ≠ 0 → uN E 0 2 a x = E x := fun x hx => uN_a _ _ _ hx
  unfold MS0 at h ⊢
  rw [e0 0 (by decide), e0 1 (by decide), e0 5 (by decide), e 9 (by decide), e 8 (by decide), e 1 (by decide), e 2 (by decide), e 3 (by decide), e 4 (by decide), e 5 (by decide), e 6 (by decide), e 7 (by decide)]
  exact h
theorem lsh_a (E : aE) (a k : Nat) : lsh (uN E 0 2 a) k = lsh E k := lsh_congr (uN_k _ _ _ (by decide)) (uN_k _ _ _ (by decide)) (uN_k _ _ _ (by decide)) (uN_a _ _ _ (by decide)) (uN_a _ _ _ (by decide)) (uN_a _ _ _ (by decide)) k
def FG0 (K K' : xI) : Prop := (∀ a, ((a ≤ 84 ∧ a ≠ 69) ∨ 95 ≤ a) → K' a = K a) ∧ (∀ i, (i < 18 ∨ 22 < i) → K' 69 i = K 69 i)
theorem FG0.refl (K : xI) : FG0 K K := ⟨fun _ _ => rfl, fun _ _ => rfl⟩
theorem FG0.trans {K1 K2 K3 : xI} (h1 : FG0 K1 K2) (h2 : FG0 K2 K3) : FG0 K1 K3 := ⟨fun a ha => (h2.1 a ha).trans (h1.1 a ha), fun i hi => (h2.2 i hi).trans (h1.2 i hi)⟩
theorem MS0_FG {K K' : xI} {E : aE} {rw : Nat} (h : MS0 K E rw) (f : FG0 K K') : MS0 K' E rw := by
  unfold MS0 at h ⊢
  rw [f.2 1 (by decide), f.2 0 (by decide), f.1 70 (by decide), f.1 71 (by decide), f.1 72 (by decide), f.1 73 (by decide), f.1 74 (by decide), f.1 75 (by decide), f.1 76 (by decide), f.1 81 (by decide), f.1 82 (by decide), f.1 83 (by decide)]
  exact h
def lso (E : aE) : Nat := if lsh E (E 0 5) ≤ 160 then lsh E (E 0 5) else 161
theorem lsh_1 (E : aE) : ∀ k, 1 ≤ lsh E k := by
  intro k
  induction k with
  | zero => exact Nat.le_refl _
  | succ k ih => unfold lsh; omega
section MMa
variable {l : Launch} {C : xC} {G : xG}
set_option maxHeartbeats 4000000 in
theorem Lleo (hG : SH G) {K0 : xI} {E : aE} {rw : Nat} (hE : EI E) (h1 : E 0 3 = 1) (hpl : E 0 4 = 1) (hS0 : MS0 K0 E rw) : ∀ (f a : Nat) (K : xI), a + f = 161 → 1 ≤ a → a ≤ lsh E (E 0 5) → FG0 K0 K → XF fI l C mX10_leastOf 4 [some (.ref 69), some (.int (nI rw)), some (.int (nI a)), some (.int 0)] [] G K (fun v K' => v = nI (lso E) ∧ FG0 K0 K') := by
  have hr4 := hS0.2.2.1.1
  have hc := hE.2.2.2.1
  intro f
  induction f with
  | zero =>
    intro a K hf h2 h3 hF
    refine VX10_leastOf_4 hG K (nI rw) (nI a) 0 (pk_le 161 a (fun _ => ⟨?_, hF⟩) (fun z => absurd z (by omega)) rfl rfl)
    unfold lso
    rw [if_neg (by omega), show a = 161 by omega]
  | succ f ih =>
    intro a K hf h2 h3 hF
    refine VX10_leastOf_4 hG K (nI rw) (nI a) 0 (pk_le 161 a (fun z => absurd z (by omega)) (fun hlt => ⟨fun _ => ?_, fun z => absurd rfl z⟩) rfl rfl)
    have hEa := EI_a hE (show a ≤ 160 by omega)
    have hgo := Zgo (l := l) (C := C) hG (K := K) (kp := 0) hEa (fun z => by rw [uN_k _ _ _ (by decide)] at z; omega) (MS0_a (MS0_FG hS0 hF) a) (fun z => absurd rfl z)
    rw [uN_k _ _ _ (show (3 : Nat) ≠ 2 by decide), uN_k _ _ _ (show (4 : Nat) ≠ 2 by decide), uN_at, h1, hpl] at hgo
    refine ⟨_, hgo, ?_⟩
    rintro - K1 ⟨b1, b2, b3, b4, b5, b6⟩
    have hF1 : FG0 K K1 := ⟨fun x hx => by
      by_cases h87 : x = 95
      · subst h87; exact b3 rfl
      · exact b2.1 x (by omega), fun i hi => b2.2 i hi⟩
    refine ⟨_, ZcountS hG hEa b1 b4 b5, ?_⟩
    rintro v K2 ⟨rfl, rfl⟩
    rw [nI_clamp (show rw < 2 ^ 31 by omega), b1.2.2.1.2.2]
    have hall := all_iff hEa (by rw [uN_k _ _ _ (by decide)]; exact h1) (by rw [uN_at]; exact h2) (by rw [uN_at]; omega) (by rw [uN_k _ _ _ (by decide)]; exact hpl)
    rw [lsh_a, uN_at, uN_k _ _ _ (show (5 : Nat) ≠ 2 by decide)] at hall
    have hns := nSent_le (uN E 0 2 a)
    rw [uN_k _ _ _ (show (5 : Nat) ≠ 2 by decide)] at hns
    refine ⟨vp_in_nI hr4 (by decide), pk_eq (nSent (uN E 0 2 a)) (E 0 5) (fun he => ?_) (fun he => ?_) rfl (by rw [uN_k _ _ _ (show (5 : Nat) ≠ 2 by decide)]) (by omega) (by omega)⟩
    · have hle := hall.mp (by unfold nSent at he; rw [uN_k _ _ _ (show (5 : Nat) ≠ 2 by decide)] at he; exact he)
      rw [show (0 : Int32) = nI 0 from rfl, nI_add, Nat.add_zero]
      refine VX10_leastOf_4 hG K2 (nI rw) (nI a) 1 (pk_le 161 a (fun z => absurd z (by omega)) (fun _ => ⟨fun z => absurd z (by decide), fun _ => ⟨?_, hF.trans hF1⟩⟩) rfl rfl)
      unfold lso
      rw [if_pos (by omega)]
      congr 1
      omega
    · have hgt : ¬ lsh E (E 0 5) ≤ a := fun z => he (by have := hall.mpr z; unfold nSent; rw [uN_k _ _ _ (show (5 : Nat) ≠ 2 by decide)]; exact this)
      exact XF.to (ih (a + 1) K2 (by omega) (by omega) (by omega) (hF.trans hF1)) (by rw [nI_succ]) rfl rfl
theorem Zleo (hG : SH G) {K : xI} {E : aE} {rw : Nat} (hE : EI E) (h1 : E 0 3 = 1) (hpl : E 0 4 = 1) (hS0 : MS0 K E rw) : XF fI l C mX10_leastOf 0 (xent mX10_leastOf [.ref 69, .int (nI rw)]) [] G K (fun v K' => v = nI (lso E) ∧ FG0 K K') :=
  VX10_leastOf hG K (nI rw) (Lleo hG hE h1 hpl hS0 160 1 K rfl (Nat.le_refl _) (lsh_1 E _) (FG0.refl K))
/-- what marks answers, and whom it names -/
def mxS (ps : Nat → Bool) (ls : Nat → Nat) : Nat → Nat
  | 0 => 1
  | r + 1 => if ps r = true then max (mxS ps ls r) (ls r) else mxS ps ls r
def mRes (ps : Nat → Bool) (ls : Nat → Nat) (v w : Int32) : Prop := (∃ r, r < 4 ∧ ps r = true ∧ 160 < ls r ∧ (∀ i, i < r → ps i = true → ls i ≤ 160) ∧ v = (-2) ∧ w = nI r) ∨ ((∀ i, i < 4 → ps i = true → ls i ≤ 160) ∧ v = nI (mxS ps ls 4) ∧ w = (-1))
theorem mRes_u {ps : Nat → Bool} {ls : Nat → Nat} {v w v' w' : Int32} (h : mRes ps ls v w) (h' : mRes ps ls v' w') : v = v' ∧ w = w' := by
  rcases h with ⟨r, r1, r2, r3, r4, r5, r6⟩ | ⟨a1, a2, a3⟩
  · rcases h' with ⟨s, s1, s2, s3, s4, s5, s6⟩ | ⟨b1, b2, b3⟩
    · have : r = s := by
        apply Nat.le_antisymm
        · apply Nat.le_of_not_lt; intro q; have := r4 s q s2; omega
        · apply Nat.le_of_not_lt; intro q; have := s4 r q r2; omega
      subst this
      exact ⟨r5.trans s5.symm, r6.trans s6.symm⟩
    · have := b1 r r1 r2; omega
  · rcases h' with ⟨s, s1, s2, s3, s4, s5, s6⟩ | ⟨b1, b2, b3⟩
    · have := a1 s s1 s2; omega
    · exact ⟨a2.trans b2.symm, a3.trans b3.symm⟩
theorem mxS_b {ps : Nat → Bool} {ls : Nat → Nat} : ∀ r, (∀ i, i < r → ps i = true → ls i ≤ 160) → 1 ≤ mxS ps ls r ∧ mxS ps ls r ≤ 160 := by
  intro r
  induction r with
  | zero => intro _; exact ⟨Nat.le_refl _, by show 1 ≤ 160; omega⟩
  | succ r ih =>
    intro h
    have := ih (fun i hi => h i (by omega))
    unfold mxS
    split
    · next hp => have := h r (by omega) hp; omega
    · exact this
def FM (K K' : xI) : Prop := (∀ a, ((a ≤ 84 ∧ a ≠ 69) ∨ 95 ≤ a) → K' a = K a) ∧ (∀ i, (i < 18 ∨ (22 < i ∧ i ≠ 44)) → K' 69 i = K 69 i)
theorem MS0_FM {K K' : xI} {E : aE} {rw : Nat} (h : MS0 K E rw) (f : FM K K') : MS0 K' E rw := by
  unfold MS0 at h ⊢
  rw [f.2 1 (by decide), f.2 0 (by decide), f.1 70 (by decide), f.1 71 (by decide), f.1 72 (by decide), f.1 73 (by decide), f.1 74 (by decide), f.1 75 (by decide), f.1 76 (by decide), f.1 81 (by decide), f.1 82 (by decide), f.1 83 (by decide)]
  exact h
set_option maxHeartbeats 4000000 in
theorem Lmk10 (hG : SH G) {K0 : xI} {Er : Nat → aE} {ps : Nat → Bool} (hE : ∀ r, r < 4 → EI (Er r) ∧ Er r 0 3 = 1 ∧ Er r 0 4 = 1 ∧ MS0 K0 (Er r) r) (hps : ∀ r, r < 4 → K0 84 r = if ps r = true then 1 else 0) : ∀ (f r : Nat) (K : xI), r ≤ 4 → 4 < r + f → FM K0 K → K 69 44 = (-1) → (∀ i, i < r → ps i = true → lso (Er i) ≤ 160) → XF fI l C mX10_marks 9 [some (.ref 69), some (.int (nI (mxS ps (fun i => lso (Er i)) r))), some (.int (nI r)), none] [] G K (fun v K' => mRes ps (fun i => lso (Er i)) v (K' 69 44) ∧ FM K0 K') := by
  intro f
  induction f with
  | zero => intro r K h1 h2; exact absurd h2 (by omega)
  | succ f ih =>
    intro r K h1 h2 hF h44 hok
    have hb := mxS_b (ls := fun i => lso (Er i)) r hok
    have hFw : ∀ (K1 : xI) (v : Int32), FM K0 K1 → FM K0 (wI K1 69 44 v) := fun K1 v h => ⟨fun a ha => by rw [wI_ne _ _ _ (by omega), h.1 a ha], fun i hi => by rw [wI_same, upd_ne _ _ (by omega), h.2 i hi]⟩
    refine VX10_marks_9 hG K _ (nI r) (pk_le 4 r (fun hle => ?_) (fun hlt => ?_) rfl rfl)
    · have : r = 4 := by omega
      subst this
      rw [h44]
      exact ⟨fun z => absurd z (by decide), fun _ => ⟨Or.inr ⟨hok, rfl, rfl⟩, hF⟩⟩
    · rw [h44]
      refine ⟨fun z => absurd z (by decide), fun _ => ?_⟩
      rw [nI_clamp (show r < 2 ^ 31 by omega), hF.1 84 (by decide), hps r hlt]
      refine ⟨vp_in_nI hlt (by decide), fun hz => ?_, fun hz => ?_⟩
      · have hp : ¬ ps r = true := fun z => by rw [if_pos z] at hz; exact absurd hz (by decide)
        refine ⟨fun _ => ⟨fun _ => ?_, fun z => absurd (show (1 : Int32) ≤ nI (mxS ps (fun i => lso (Er i)) r) from nI_le (a := 1) hb.1 (by omega)) z⟩, fun z => absurd (by decide) z⟩
        refine XF.to (ih (r + 1) _ (by omega) (by omega) (hFw K (-1) hF) (by rw [wI_same, upd_same]) (fun i hi hpi => ?_)) ?_ rfl rfl
        · by_cases hir : i = r
          · subst hir; exact absurd hpi hp
          · exact hok i (by omega) hpi
        · rw [show mxS ps (fun i => lso (Er i)) (r + 1) = mxS ps (fun i => lso (Er i)) r from if_neg hp, nI_1]
      · have hp : ps r = true := Classical.byContradiction (fun z => hz (if_neg z))
        obtain ⟨e1, e2, e3, e4⟩ := hE r hlt
        refine ⟨_, Zleo hG e1 e2 e3 (MS0_FM e4 hF), ?_⟩
        rintro v K1 ⟨rfl, f1⟩
        have hF1 : FM K0 K1 := ⟨fun a ha => (f1.1 a ha).trans (hF.1 a ha), fun i hi => (f1.2 i (by omega)).trans (hF.2 i hi)⟩
        have hl161 : lso (Er r) ≤ 161 := by unfold lso; split <;> omega
        have hmx : mxS ps (fun i => lso (Er i)) (r + 1) = max (mxS ps (fun i => lso (Er i)) r) (lso (Er r)) := if_pos hp
        refine pk_le (lso (Er r)) 160 (fun hle => ?_) (fun hgt => ?_) rfl rfl (by omega) (by omega)
        · have hok' : ∀ i, i < r + 1 → ps i = true → lso (Er i) ≤ 160 := by
            intro i hi hpi
            by_cases hir : i = r
            · subst hir; exact hle
            · exact hok i (by omega) hpi
          refine pk_le _ _ (fun hc => ?_) (fun hc => ?_) rfl rfl (by omega) (by omega)
          · refine XF.to (ih (r + 1) _ (by omega) (by omega) (hFw K1 (-1) hF1) (by rw [wI_same, upd_same]) hok') ?_ rfl rfl
            rw [hmx, show max (mxS ps (fun i => lso (Er i)) r) (lso (Er r)) = mxS ps (fun i => lso (Er i)) r by omega, nI_1]
          · refine XF.to (ih (r + 1) _ (by omega) (by omega) (hFw K1 (-1) hF1) (by rw [wI_same, upd_same]) hok') ?_ rfl rfl
            rw [hmx, show max (mxS ps (fun i => lso (Er i)) r) (lso (Er r)) = lso (Er r) by omega, nI_1]
        · have fin : ∀ x : Int32, XF fI l C mX10_marks 9 [some (.ref 69), some (.int x), some (.int (nI r + 1)), none] [] G (wI K1 69 44 (nI r)) (fun v K' => mRes ps (fun i => lso (Er i)) v (K' 69 44) ∧ FM K0 K') := by
            intro x
            have h44' : wI K1 69 44 (nI r) 69 44 = nI r := by rw [wI_same, upd_same]
            have hres : mRes ps (fun i => lso (Er i)) (-2) (wI K1 69 44 (nI r) 69 44) ∧ FM K0 (wI K1 69 44 (nI r)) := ⟨Or.inl ⟨r, hlt, hp, hgt, hok, rfl, h44'⟩, hFw K1 _ hF1⟩
            refine VX10_marks_9 hG _ x (nI r + 1) ⟨fun _ => ?_, fun _ => ?_⟩
            · exact ⟨fun _ => hres, fun z => absurd (by rw [h44']; exact nI_pos' (by omega)) z⟩
            · exact ⟨fun _ => hres, fun z => absurd (by rw [h44']; exact nI_pos' (by omega)) z⟩
          exact ⟨fun _ => fin _, fun _ => fin _⟩
theorem Zmk10 (hG : SH G) {K : xI} {Er : Nat → aE} {ps : Nat → Bool} (hE : ∀ r, r < 4 → EI (Er r) ∧ Er r 0 3 = 1 ∧ Er r 0 4 = 1 ∧ MS0 K (Er r) r) (hps : ∀ r, r < 4 → K 84 r = if ps r = true then 1 else 0) : XF fI l C mX10_marks 0 (xent mX10_marks [.ref 69]) [] G K (fun v K' => mRes ps (fun i => lso (Er i)) v (K' 69 44) ∧ FM K K') :=
  VX10_marks hG K (Lmk10 hG hE hps 5 0 _ (by omega) (by omega) ⟨fun a ha => wI_ne _ _ _ (by omega), fun i hi => by rw [wI_same, upd_ne _ _ (by omega)]⟩ (by rw [wI_same, upd_same]) (fun i hi => absurd hi (by omega)))
set_option maxHeartbeats 4000000 in
theorem Lmk9 (hG : SH G) {I0 : xI} {Er : Nat → aE} {ps : Nat → Bool} (hE : ∀ r, r < 4 → EI (Er r) ∧ CL I0 G (Er r) ∧ CW I0 G (Er r) (49 + 3 * r)) (hps : ∀ r, r < 4 → I0 (49 + 3 * r) 3 = if ps r = true then 1 else 0) : ∀ (f r : Nat) (I : xI), r ≤ 4 → 4 < r + f → FK I0 I → (∀ i, i < r → ps i = true → lso (Er i) ≤ 160) → XF fI l C mX9_marks 4 [some (.ref 2), some (.int (nI (mxS ps (fun i => lso (Er i)) r))), some (.int (nI r)), none] [] G I (fun v I' => mRes ps (fun i => lso (Er i)) v (I' 2 7) ∧ ∃ I1, FK I0 I1 ∧ ∃ x, I' = wI I1 2 7 x) := by
  intro f
  induction f with
  | zero => intro r K h1 h2; exact absurd h2 (by omega)
  | succ f ih =>
    intro r I h1 h2 hF hok
    have hb := mxS_b (ls := fun i => lso (Er i)) r hok
    refine VX9_marks_4 hG I _ (nI r) (pk_le 4 r (fun hle => ?_) (fun hlt => ?_) rfl rfl)
    · have : r = 4 := by omega
      subst this
      exact ⟨Or.inr ⟨hok, rfl, by rw [wI_same, upd_same]⟩, I, hF, _, rfl⟩
    · rw [nI_clamp (show r < 2 ^ 31 by omega), hF (49 + 3 * r) (by omega) (by omega) (by omega) (by omega), hps r hlt]
      refine ⟨vp_in_nI hlt (by decide), fun hz => ?_, fun hz => ?_⟩
      · have hp : ¬ ps r = true := fun z => by rw [if_pos z] at hz; exact absurd hz (by decide)
        refine XF.to (ih (r + 1) I (by omega) (by omega) hF (fun i hi hpi => ?_)) ?_ rfl rfl
        · by_cases hir : i = r
          · subst hir; exact absurd hpi hp
          · exact hok i (by omega) hpi
        · rw [show mxS ps (fun i => lso (Er i)) (r + 1) = mxS ps (fun i => lso (Er i)) r from if_neg hp, nI_1]
      · have hp : ps r = true := Classical.byContradiction (fun z => hz (if_neg z))
        obtain ⟨e1, e2, e3⟩ := hE r hlt
        refine ⟨_, Zleast hG e1 (CL_FK e2 hF) (CW_FK e3 hF), ?_⟩
        rintro v I1 ⟨rfl, f1⟩
        have hmx : mxS ps (fun i => lso (Er i)) (r + 1) = max (mxS ps (fun i => lso (Er i)) r) (lso (Er r)) := if_pos hp
        by_cases h160 : lsh (Er r) (Er r 0 5) ≤ 160
        · have hlo : lso (Er r) = lsh (Er r) (Er r 0 5) := if_pos h160
          rw [if_pos h160, ← hlo]
          have hle : lso (Er r) ≤ 160 := by omega
          refine ⟨fun z => absurd (show nI (lso (Er r)) < 0 by rw [z]; decide) (nI_pos (by omega)), fun _ => ?_⟩
          refine XF.to (ih (r + 1) I1 (by omega) (by omega) (hF.trans f1) (fun i hi hpi => ?_)) ?_ rfl rfl
          · by_cases hir : i = r
            · subst hir; exact hle
            · exact hok i (by omega) hpi
          · rw [hmx, nI_max2 (by omega) (by omega), nI_1]
        · have hlo : lso (Er r) = 161 := if_neg h160
          rw [if_neg h160]
          refine ⟨fun _ => ⟨Or.inl ⟨r, hlt, hp, by show 160 < lso (Er r); omega, hok, rfl, by rw [wI_same, upd_same]⟩, I1, hF.trans f1, _, rfl⟩, fun z => absurd rfl z⟩
theorem Zmk9 (hG : SH G) {I : xI} {Er : Nat → aE} {ps : Nat → Bool} (hE : ∀ r, r < 4 → EI (Er r) ∧ CL I G (Er r) ∧ CW I G (Er r) (49 + 3 * r)) (hps : ∀ r, r < 4 → I (49 + 3 * r) 3 = if ps r = true then 1 else 0) : XF fI l C mX9_marks 0 (xent mX9_marks [.ref 2]) [] G I (fun v I' => mRes ps (fun i => lso (Er i)) v (I' 2 7) ∧ ∃ I1, FK I I1 ∧ ∃ x, I' = wI I1 2 7 x) :=
  VX9_marks hG I (Lmk9 hG hE hps 5 0 I (by omega) (by omega) (fun _ _ _ _ _ => rfl) (fun i hi => absurd hi (by omega)))
end MMa
