/-! the reference's run is the plain one: the whole run -/
theorem sHl_ext {E : aE} {S T : aS} {τ l : Nat} (h1 : T.1 = S.1) (h2 : 0 < τ → T.2 6 (400 * l + (τ - 1)) = S.2 6 (400 * l + (τ - 1))) : sHl E τ T l = sHl E τ S l := by
  unfold sHl sLen
  rw [h1]
  by_cases hz : τ = 0
  · simp [hz]
  · rw [h2 (by omega)]
theorem tells_1 (E : aE) (S : aS) (τ : Nat) : ∀ j, (sTells E τ S j).1 = S.1 := by
  intro j
  induction j with
  | zero => rfl
  | succ j ih => exact ih
theorem tells_6n {E : aE} {S : aS} {τ : Nat} : ∀ (m x : Nat), (∀ j, j < m → x ≠ 400 * j + τ) → (sTells E τ S m).2 6 x = S.2 6 x := by
  intro m
  induction m with
  | zero => intro x _; rfl
  | succ m ih =>
    intro x hx
    show uN (sTells E τ S m).2 6 (400 * m + τ) _ 6 x = _
    rw [uN_k _ _ _ (hx m (by omega))]
    exact ih x (fun j hj => hx j (by omega))
theorem tells_6y {E : aE} {S : aS} {τ : Nat} (hτ : τ < 400) : ∀ (m j : Nat), j < m → (sTells E τ S m).2 6 (400 * j + τ) = sHl E τ S j := by
  intro m
  induction m with
  | zero => intro j hj; omega
  | succ m ih =>
    intro j hj
    show uN (sTells E τ S m).2 6 (400 * m + τ) (sHl E τ (sTells E τ S m) m) 6 (400 * j + τ) = _
    by_cases hjm : j = m
    · subst hjm
      rw [uN_at]
      exact sHl_ext (tells_1 E S τ j) (fun hp => tells_6n j _ (fun i hi => by omega))
    · rw [uN_k _ _ _ (by omega)]
      exact ih j (by omega)
theorem hl_le {E : aE} {S : aS} {τ l : Nat} (h : 0 < τ → S.2 6 (400 * l + (τ - 1)) ≤ 1) : sHl E τ S l ≤ 1 := by
  unfold sHl
  split
  · omega
  · split
    · omega
    · split
      · omega
      · exact h (by omega)
theorem helds_at {E : aE} {S : aS} {τ p : Nat} (hE : EI E) (h : SI E S τ) (hd : DI E S p) (hτ : τ < 400) (x : Nat) {t : Nat} (ht : t < τ) : ∀ j, sAt E (sHelds E τ S j) x t = sAt E S x t := by
  intro j
  induction j with
  | zero => rfl
  | succ j ih =>
    obtain ⟨a1, a2⟩ := helds_inv hE h hd hτ j
    rw [← ih]
    show sAt E (sHeld1 E τ (sHelds E τ S j) j) x t = _
    unfold sHeld1
    split
    · next hc =>
      have hge : (sHelds E τ S j).2 5 j ≤ sNx E (sHelds E τ S j) j := fdn_ge E j _ _
      have hPl := a2.2.2.2 j
      have hc3 := hc.2.2.1
      have hat : E 9 (sNx E (sHelds E τ S j) j) = j := fdn_at E j _ _ (by unfold sNx at hc3; omega)
      exact off_at hE a1 hc3 (by rw [hat]; exact hge) hτ x ht
    · rfl
theorem due_at {E : aE} {τ : Nat} (hE : EI E) (hτ : τ < 400) (x : Nat) {t : Nat} (ht : t < τ) : ∀ m (S : aS) (p : Nat), m = E 0 5 - p → SI E S τ → DI E S p → sAt E (sDue E τ m S p).1 x t = sAt E S x t := by
  intro m
  induction m with
  | zero => intro S p _ _ _; rfl
  | succ m ih =>
    intro S p hm h hd
    unfold sDue
    split
    · obtain ⟨a1, a2⟩ := due1_inv hE h hd hτ (by omega)
      rw [ih _ (p + 1) (by omega) a1 a2]
      split
      · rfl
      · next hc => exact off_at hE h (by omega) (hd.2.1 _ hc) hτ x ht
    · rfl
theorem sends_at {E : aE} {S : aS} {τ : Nat} (hE : EI E) (h : SI E S τ) (hτ : τ < 400) (x : Nat) {t : Nat} (ht : t < τ) : ∀ j, j ≤ 4 → sAt E (sSends E τ S j) x t = sAt E S x t := by
  intro j
  induction j with
  | zero => intro _; rfl
  | succ j ih =>
    intro hj
    rw [← ih (by omega)]
    exact send_at (SI_sends hE h hτ j (by omega)) (by omega) hτ x ht
theorem tells_at (E : aE) (S : aS) (τ x t j : Nat) : sAt E (sTells E τ S j) x t = sAt E S x t := at_f (tells_f _ _ _ (by decide) j) (tells_f _ _ _ (by decide) j) x t
theorem tick_at {E : aE} {S : aS} {τ p : Nat} (hE : EI E) (h : SI E S τ) (hd : DI E S p) (hk : ∀ k, k < p → E 8 k ≤ τ) (hτ : τ < 400) (x : Nat) {t : Nat} (ht : t < τ) : sAt E (sTick E S p τ).1 x t = sAt E S x t := by
  obtain ⟨a1, a2⟩ := helds_inv hE h hd hτ (E 0 0)
  obtain ⟨b1, b2, b3, b4⟩ := due_inv hE hτ _ _ p rfl a1 a2 hk
  show sAt E (sTells E τ (sSends E τ _ _) _) x t = _
  rw [tells_at, sends_at hE b1 hτ x ht _ hE.2.1, due_at hE hτ x ht _ _ _ rfl a1 a2, helds_at hE h hd hτ x ht]
def TI (E : aE) (τ p : Nat) : Prop := (∀ k, k < p → E 8 k < τ) ∧ (∀ k, p ≤ k → k < E 0 5 → τ ≤ E 8 k)
theorem lft_iff {K : xI} {rw : Nat} : ∀ m k, lft K rw m k = true ↔ ∃ i, k ≤ i ∧ i < k + m ∧ mPnd K rw i = true := by
  intro m
  induction m with
  | zero => intro k; exact ⟨fun h => absurd h (by unfold lft; decide), fun ⟨i, h1, h2, _⟩ => absurd h2 (by omega)⟩
  | succ m ih =>
    intro k
    unfold lft
    by_cases hp : mPnd K rw k = true
    · rw [if_pos hp]
      exact ⟨fun _ => ⟨k, Nat.le_refl _, by omega, hp⟩, fun _ => rfl⟩
    · rw [if_neg hp, ih (k + 1)]
      constructor
      · rintro ⟨i, h1, h2, h3⟩; exact ⟨i, by omega, by omega, h3⟩
      · rintro ⟨i, h1, h2, h3⟩
        by_cases hik : i = k
        · subst hik; exact absurd h3 hp
        · exact ⟨i, by omega, by omega, h3⟩
theorem mPnd_iff {K : xI} {E : aE} {S : aS} {τ p rw : Nat} (hE : EI E) (hS : MS K E rw) (hD : MD K E S τ) (hM : MN K E S) (hd : DI E S p) (ht : TI E τ p) (hτ : τ ≤ 400) {k : Nat} (hk : k < E 0 5) : mPnd K rw k = true ↔ S.2 5 (E 9 k) ≤ k := by
  have hn4 := hE.2.1
  have hc := hE.2.2.2.1
  obtain ⟨hl, h40⟩ := hE.2.2.2.2.1 k hk
  unfold mPnd
  rw [(hS.2.2.2.1 k hk).1, (hS.2.2.2.1 k hk).2, nI_clamp (by omega), hD.1]
  by_cases hh : sHd E (E 9 k)
  · rw [if_pos ((held_iff hE hS hl).mpr hh)]
    obtain ⟨N, q1, q2, q3, q4⟩ := hM _ hl hh
    rw [q1]
    by_cases hkN : k < N
    · rw [if_pos (nI_lt hkN (by omega))]
      refine ⟨fun z => absurd z (by decide), fun z => absurd rfl (q4 k z hkN)⟩
    · rw [if_neg (nI_nlt (by omega) (by omega))]
      exact ⟨fun _ => by omega, fun _ => rfl⟩
  · rw [if_neg (fun z => hh ((held_iff hE hS hl).mp z))]
    by_cases hkp : k < p
    · rw [if_pos (nI_lt (ht.1 k hkp) (by omega))]
      have := hd.2.2.1 k hkp hh
      exact ⟨fun z => absurd z (by decide), fun z => by omega⟩
    · rw [if_neg (nI_nlt (ht.2 k (by omega) hk) (by omega))]
      have := hd.2.1 _ hh
      exact ⟨fun _ => by omega, fun _ => rfl⟩
theorem left_iff {K : xI} {E : aE} {S : aS} {τ p rw : Nat} (hE : EI E) (hS : MS K E rw) (hB : sTot S ≤ 12) (hD : MD K E S τ) (hM : MN K E S) (hd : DI E S p) (ht : TI E τ p) (hτ : τ ≤ 400) : (0 < sX10_all K ∨ lft K rw (E 0 5) 0 = true) ↔ ¬ sUnd E S + sTot S = 0 := by
  have e1 : (0 < sX10_all K) ↔ 0 < sTot S := by rw [mall hD, show (0 : Int32) = nI 0 from rfl, nI_ltI (by omega) (by omega)]
  have e2 : lft K rw (E 0 5) 0 = true ↔ ¬ sUnd E S = 0 := by
    rw [lft_iff]
    unfold sUnd
    rw [cnt_0]
    constructor
    · rintro ⟨i, -, h2, h3⟩ z
      have := z i (by omega)
      rw [(mPnd_iff hE hS hD hM hd ht hτ (by omega))] at h3
      simp [h3] at this
    · intro z
      apply Classical.byContradiction
      intro q
      apply z
      intro k hk
      apply decide_eq_false
      intro q2
      exact q ⟨k, Nat.zero_le _, by omega, (mPnd_iff hE hS hD hM hd ht hτ hk).mpr q2⟩
  rw [e1, e2]
  omega
def FT (K K' : xI) : Prop := (∀ a, ((a ≤ 84 ∧ a ≠ 69) ∨ 96 ≤ a) → K' a = K a) ∧ (∀ i, i ≠ 22 → K' 69 i = K 69 i)
theorem FT.refl (K : xI) : FT K K := ⟨fun _ _ => rfl, fun _ _ => rfl⟩
theorem FT.trans {K1 K2 K3 : xI} (h1 : FT K1 K2) (h2 : FT K2 K3) : FT K1 K3 := ⟨fun a ha => (h2.1 a ha).trans (h1.1 a ha), fun i hi => (h2.2 i hi).trans (h1.2 i hi)⟩
theorem FT.of {K1 K2 : xI} (h : FS K1 K2) : FT K1 K2 := ⟨fun a ha => h a (by omega), fun i _ => by rw [h 69 (by omega)]⟩
theorem MS_FT {K K' : xI} {E : aE} {rw : Nat} (h : MS K E rw) (f : FT K K') : MS K' E rw := by
  unfold MS at h ⊢
  rw [f.2 1 (by decide), f.2 0 (by decide), f.2 18 (by decide), f.2 19 (by decide), f.2 20 (by decide), f.2 21 (by decide), f.1 70 (by decide), f.1 71 (by decide), f.1 72 (by decide), f.1 73 (by decide), f.1 74 (by decide), f.1 75 (by decide), f.1 76 (by decide), f.1 81 (by decide), f.1 82 (by decide), f.1 83 (by decide)]
  exact h
/-- a tick's end -/
theorem MD_end {K K' : xI} {E : aE} {S : aS} {τ : Nat} {kp : Int32} (hE : EI E) (hτ : τ < 400) (hD : MD K E S τ) (hT : TL K K' E S τ kp 4) : MD (wI K' 69 22 (K' 69 22 + 1)) E (sTells E τ S (E 0 0)) (τ + 1) := by
  have hn4 := hE.2.1
  obtain ⟨t0, t1, t2, t3, t4⟩ := hD
  obtain ⟨a1, a2, a3, a4, a5, a6⟩ := hT
  refine ⟨?_, ?_, ?_, ?_, ?_⟩
  · rw [wI_same, upd_same, a1 69 (by decide) (by decide) (by decide), t0, nI_1]
  · intro j hj
    have := t1 j hj
    unfold mQu at this ⊢
    rw [wI_ne _ _ _ (by decide), wI_ne _ _ _ (by decide), wI_ne _ _ _ (by decide), a1 87 (by decide) (by decide) (by decide), a1 86 (by decide) (by decide) (by decide), a1 85 (by decide) (by decide) (by decide), tells_f _ _ _ (by decide)]
    simp only [tells_1]
    exact this
  · unfold MF sFt at t2 ⊢
    rw [wI_ne _ _ _ (by decide), wI_ne _ _ _ (by decide), wI_ne _ _ _ (by decide), a1 91 (by decide) (by decide) (by decide), a1 92 (by decide) (by decide) (by decide), a1 93 (by decide) (by decide) (by decide), tells_f _ _ _ (show (3 : Nat) ≠ 6 by decide), tells_f _ _ _ (show (1 : Nat) ≠ 6 by decide), tells_f _ _ _ (show (0 : Nat) ≠ 6 by decide), tells_f _ _ _ (show (2 : Nat) ≠ 6 by decide)]
    exact t2
  · intro j hj
    rw [wI_ne _ _ _ (by decide), a1 94 (by decide) (by decide) (by decide), tells_f _ _ _ (by decide)]
    exact t3 j hj
  · intro j hj
    rw [wI_ne _ _ _ (by decide), wI_ne _ _ _ (by decide)]
    obtain ⟨b1, b2⟩ := a2 j (by omega) hj
    obtain ⟨c1, c2⟩ := t4 j hj
    rw [if_neg (by omega), Nat.add_sub_cancel, tells_6y hτ _ _ hj]
    refine ⟨b1, fun t ht => ?_⟩
    by_cases htt : t = τ
    · subst htt
      rw [tells_6y hτ _ _ hj]
      exact ⟨b2, hl_le (fun hp => (c2 (t - 1) (by omega)).2)⟩
    · rw [tells_6n _ _ (fun i hi => by omega), a4 _ (fun i hi => by omega)]
      exact c2 t (by omega)
theorem ML_end {K K' : xI} {E : aE} {S T : aS} {τ : Nat} {kp : Int32} (hτ : τ < 400) (hL : ML K E S τ) (hT : TL K K' E T τ kp 4) (hkp : ¬ kp = 0) (ha : ∀ j, j < 4 → ∀ t, t < τ → sAt E (sTells E τ T (E 0 0)) j t = sAt E S j t) (hI : SI E (sTells E τ T (E 0 0)) τ) : ML (wI K' 69 22 (K' 69 22 + 1)) E (sTells E τ T (E 0 0)) (τ + 1) := by
  intro j hj t ht
  rw [wI_ne _ _ _ (by decide)]
  obtain ⟨b1, b2⟩ := hT.2.2.2.2.2 hkp
  by_cases htt : t = τ
  · subst htt
    rw [b1 j hj, if_pos (by omega)]
    congr 1
    have := hI.2.2.2.2.2.2.2.2.2.2 j hj
    rw [← this]
    unfold sLen
    rw [tells_1]
  · rw [b2 _ (fun i hi => by omega), hL j hj t ht]
    by_cases hlt : t < τ
    · rw [if_pos hlt, if_pos (by omega), ha j hj t hlt]
    · rw [if_neg hlt, if_neg (by omega)]
