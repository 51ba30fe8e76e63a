/-! the reference's run is the plain one: the senders -/
theorem bI_split {P : Prop} [Decidable P] {A B : Prop} (f : ¬ P → A) (g : P → B) : (bI P = 0 → A) ∧ (¬ bI P = 0 → B) := by
  unfold bI
  by_cases h : P
  · rw [if_pos h]; exact ⟨fun z => absurd z (by decide), fun _ => g h⟩
  · rw [if_neg h]; exact ⟨fun _ => f h, fun z => absurd rfl z⟩
def FS (K K' : xI) : Prop := (∀ a, (a ≤ 84 ∨ 95 ≤ a) → K' a = K a)
theorem FS.refl (K : xI) : FS K K := fun _ _ => rfl
theorem FS.trans {K1 K2 K3 : xI} (h1 : FS K1 K2) (h2 : FS K2 K3) : FS K1 K3 := fun a ha => (h2 a ha).trans (h1 a ha)
theorem MS_FS {K K' : xI} {E : aE} {rw : Nat} (h : MS K E rw) (f : FS K K') : MS K' E rw := by
  unfold MS at h ⊢
  rw [f 69 (by decide), f 70 (by decide), f 71 (by decide), f 72 (by decide), f 73 (by decide), f 74 (by decide), f 75 (by decide), f 76 (by decide), f 81 (by decide), f 82 (by decide), f 83 (by decide)]
  exact h
theorem comes_FS (K : xI) (n k lx : Nat) : FS K (tX10_comes K n k lx) ∧ tX10_comes K n k lx 88 = K 88 := by
  have ht : ∀ a, a ≠ 86 → a ≠ 91 → a ≠ 92 → a ≠ 93 → tX10_takes K n (nI k) lx a = K a := by
    intro a h1 h2 h3 h4
    rcases takes_cases K n (nI k) lx with h | ⟨h, -⟩ <;> rw [h]
    exact tPush_ne _ _ _ h1 h2 h3 h4
  have : ∀ a, a ≠ 85 → a ≠ 86 → a ≠ 91 → a ≠ 92 → a ≠ 93 → a ≠ 94 → tX10_comes K n k lx a = K a := by
    intro a h0 h1 h2 h3 h4 h5
    unfold tX10_comes
    rw [mGr_ne _ h5]
    split
    · rw [ends_ne _ _ _ h2 h3, ht a h1 h2 h3 h4]
    · rw [mTake_ne _ _ _ h0 h1 h2 h3, ht a h1 h2 h3 h4]
  exact ⟨fun a ha => this a (by omega) (by omega) (by omega) (by omega) (by omega) (by omega), this 88 (by decide) (by decide) (by decide) (by decide) (by decide) (by decide)⟩
theorem adm_2 {E : aE} {S : aS} {l : Nat} (h : sAdm E S l = 2) : sLen S l + 1 < sLen S (sLg S (E 0 0 - 1)) := by
  unfold sAdm at h
  repeat' split at h
  all_goals first | omega | assumption
theorem adm_le (E : aE) (S : aS) (l : Nat) : sAdm E S l ≤ 2 := by
  unfold sAdm
  repeat' split
  all_goals omega
theorem MD_comes {K : xI} {E : aE} {S : aS} {τ k rw : Nat} (hE : EI E) (hs : MS K E rw) (hI : SI E S τ) (hP : ∀ j, S.2 5 j ≤ E 0 5) (h : MD K E S τ) (hk : k < E 0 5) (hp : S.2 5 (E 9 k) ≤ k) (hτ : τ < 400) : MD (tX10_comes K (E 0 0) k (E 9 k)) E (sOff E S τ k) τ := by
  have hl := (hE.2.2.2.2.1 k hk).1
  obtain ⟨v1, v2⟩ := takes_eval hE hI hs h (nI k) hl
  have had := adm_le E S (E 9 k)
  unfold tX10_comes sOff
  rw [v1, v2]
  by_cases h0 : sAdm E S (E 9 k) = 0
  · rw [if_pos h0, if_pos h0, if_pos rfl, if_neg (by omega)]
    exact MD_ref hE hI h hk hp hτ
  · rw [if_neg h0, if_neg h0, if_neg (by decide)]
    by_cases h1 : sAdm E S (E 9 k) = 1
    · rw [if_pos h1, if_neg (by omega)]
      exact MD_take hE hI hP h hk hp hτ
    · have h2 : sAdm E S (E 9 k) = 2 := by omega
      have hlt := adm_2 h2
      have hn4 := hE.2.1
      have hn1 := hE.1
      have hlo4 : sLg S (E 0 0 - 1) < 4 := by have := sLg_le S (E 0 0 - 1); omega
      rw [if_neg h1, if_pos h2, push_pt]
      obtain ⟨p1, p2⟩ := SI_push hE hI hk hlo4 (by omega) hτ
      have e5 : (sPush S τ (sLg S (E 0 0 - 1)) k).2 5 = S.2 5 := by funext i; simp [sPush, uN]
      exact MD_take hE p1 (by rw [e5]; exact hP) (MD_push hE hI hP h hlo4 (by omega) hτ) hk (by rw [e5]; exact hp) hτ
theorem mQ_of2 {K : xI} {E : aE} {S : aS} {τ : Nat} (hE : EI E) (hI : SI E S τ) (hP : ∀ j, S.2 5 j ≤ E 0 5) (h : MD K E S τ) : mQ K := by
  have hc := hE.2.2.2.1
  refine ⟨fun j => (K 87 j).toNatClampNeg, fun j => (K 86 j).toNatClampNeg, fun j hj => ?_⟩
  obtain ⟨s, a1, a2, a3, a4⟩ := h.2.1 j hj
  have hPj := hP j
  dsimp only
  rw [a1, a2, nI_clamp (by omega), nI_clamp (by omega)]
  refine ⟨rfl, rfl, by omega, fun t ht => ⟨_, ?_, a4 t ht⟩⟩
  have := (hI.1 j hj _ (List.getElem_mem ht)).1
  omega
section MRun
variable {l : Launch} {C : xC} {G : xG}
theorem Zcomes (hG : SH G) {K : xI} {E : aE} {S : aS} {τ k rw : Nat} (hE : EI E) (hs : MS K E rw) (hI : SI E S τ) (hP : ∀ j, S.2 5 j ≤ E 0 5) (h : MD K E S τ) (hk : k < E 0 5) (hp : S.2 5 (E 9 k) ≤ k) (hτ : τ < 400) : XF fV l C mX10_comes 0 (xent mX10_comes [.ref 69, .int (nI k)]) [] G K (fun _ K' => MD K' E (sOff E S τ k) τ ∧ FS K K' ∧ K' 88 = K 88) := by
  have hc := hE.2.2.2.1
  have hn4 := hE.2.1
  obtain ⟨hl, -⟩ := hE.2.2.2.2.1 k hk
  refine ⟨(), _, YX10_comes hG K hs.1 hE.1 hn4 (mQ_of2 hE hI hP h) hs.2.2.1.2.1 hs.2.2.1.1 (by omega) (hs.2.2.2.1 k hk).1 (by omega) ?_, MD_comes hE hs hI hP h hk hp hτ, comes_FS _ _ _ _⟩
  intro s m e1 e2 hs1 hm1
  obtain ⟨s2, a1, a2, a3, a4⟩ := h.2.1 (E 9 k) (by omega)
  rw [a1] at e1
  rw [a2] at e2
  have hPk := hP (E 9 k)
  have := (nI_eq (by omega) (by omega)).mp e1
  have := (nI_eq (by omega) (by omega)).mp e2
  omega
theorem mRw_of {K : xI} {E : aE} {rw : Nat} (hE : EI E) (hs : MS K E rw) : mRw K (E 0 0) rw (E 0 5) :=
  ⟨hs.2.2.1.1, hs.2.2.1.2.1, hs.2.2.1.2.2, hE.2.2.2.1, fun k hk => ⟨⟨_, (hE.2.2.2.2.1 k hk).1, (hs.2.2.2.1 k hk).1⟩, _, (hE.2.2.2.2.1 k hk).2, (hs.2.2.2.1 k hk).2⟩⟩
theorem fnd_fdn {K : xI} {E : aE} {rw : Nat} (hE : EI E) (hs : MS K E rw) {lx : Nat} (hl : lx < E 0 0) : ∀ m p, p + m ≤ E 0 5 → fnd (K 83) (80 * rw) (nI lx) m p = fdn E lx m p := by
  have hn4 := hE.2.1
  intro m
  induction m with
  | zero => intro p _; rfl
  | succ m ih =>
    intro p hp
    have hb := (hE.2.2.2.2.1 p (by omega)).1
    unfold fnd fdn
    rw [(hs.2.2.2.1 p (by omega)).1, ih (p + 1) (by omega)]
    by_cases hc : E 9 p = lx
    · rw [if_pos hc, if_pos (by rw [hc])]
    · rw [if_neg hc, if_neg (fun z => hc ((nI_eq (by omega) (by omega)).mp z))]
theorem fdn_skip {E : aE} {l : Nat} : ∀ d P N c, N = P + d → N ≤ c → (∀ k, P ≤ k → k < N → E 9 k ≠ l) → fdn E l (c - P) P = fdn E l (c - N) N := by
  intro d
  induction d with
  | zero => intro P N c h1 _ _; subst h1; rfl
  | succ d ih =>
    intro P N c h1 h2 h3
    have e : c - P = (c - (P + 1)) + 1 := by omega
    rw [e]
    conv => lhs; unfold fdn
    rw [if_neg (h3 P (by omega) (by omega))]
    exact ih (P + 1) N c (by omega) h2 (fun k hk1 hk2 => h3 k (by omega) hk2)
theorem held_iff {K : xI} {E : aE} {rw : Nat} (hE : EI E) (hs : MS K E rw) {j : Nat} (hj : j < E 0 0) : (K 70 j = 2 ∧ K 69 21 = 0) ↔ sHd E j := by
  have := hE.2.2.2.2.2.2.1 j hj
  have h4 := hE.2.2.2.2.2.2.2.2.2
  rw [(hs.2.2.2.2.2.2.2 j hj).1, hs.2.2.2.2.2.2.1, show (2 : Int32) = nI 2 from rfl, show (0 : Int32) = nI 0 from rfl, nI_eq (by omega) (by omega), nI_eq (by omega) (by omega)]
end MRun
