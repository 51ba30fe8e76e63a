/-! the reference's run is the plain one: the states that are told -/
def TL (K K' : xI) (E : aE) (S : aS) (τ : Nat) (kp : Int32) (i : Nat) : Prop :=
  (∀ a, a ≠ 89 → a ≠ 90 → a ≠ 95 → K' a = K a) ∧ (∀ j, j < i → j < E 0 0 → K' 89 j = nI (sHl E τ S j) ∧ K' 90 (400 * j + τ) = nI (sHl E τ S j)) ∧ (∀ j, i ≤ j → K' 89 j = K 89 j) ∧ (∀ x, (∀ j, j < i → x ≠ 400 * j + τ) → K' 90 x = K 90 x)
  ∧ (kp = 0 → K' 95 = K 95) ∧ (¬ kp = 0 → (∀ j, j < i → K' 95 (400 * j + τ) = nI (sLen S j)) ∧ ∀ x, (∀ j, j < i → x ≠ 400 * j + τ) → K' 95 x = K 95 x)
theorem TL_step {K0 K K1 : xI} {E : aE} {S : aS} {τ : Nat} {kp : Int32} {i : Nat} (h : TL K0 K E S τ kp i) (hi : i < 4) (h1 : ∀ a, a ≠ 89 → a ≠ 90 → a ≠ 95 → K1 a = K a) (h2 : i < E 0 0 → K1 89 = upd (K 89) i (nI (sHl E τ S i)) ∧ K1 90 = upd (K 90) (400 * i + τ) (nI (sHl E τ S i))) (h2' : ¬ i < E 0 0 → K1 89 = K 89 ∧ K1 90 = K 90) (h3 : kp = 0 → K1 95 = K 95) (h4 : ¬ kp = 0 → K1 95 = upd (K 95) (400 * i + τ) (nI (sLen S i))) : TL K0 K1 E S τ kp (i + 1) := by
  obtain ⟨a1, a2, a3, a4, a5, a6⟩ := h
  refine ⟨fun a z1 z2 z3 => (h1 a z1 z2 z3).trans (a1 a z1 z2 z3), ?_, ?_, ?_, fun z => (h3 z).trans (a5 z), fun z => ?_⟩
  · intro j hj hjn
    by_cases hin : i < E 0 0
    · obtain ⟨b1, b2⟩ := h2 hin
      rw [b1, b2]
      by_cases hji : j = i
      · subst hji; rw [upd_same, upd_same]; exact ⟨rfl, rfl⟩
      · rw [upd_ne _ _ hji, upd_ne _ _ (by omega)]; exact a2 j (by omega) hjn
    · obtain ⟨b1, b2⟩ := h2' hin
      rw [b1, b2]
      exact a2 j (by omega) hjn
  · intro j hj
    by_cases hin : i < E 0 0
    · rw [(h2 hin).1, upd_ne _ _ (by omega)]; exact a3 j (by omega)
    · rw [(h2' hin).1]; exact a3 j (by omega)
  · intro x hx
    by_cases hin : i < E 0 0
    · rw [(h2 hin).2, upd_ne _ _ (hx i (by omega))]; exact a4 x (fun j hj => hx j (by omega))
    · rw [(h2' hin).2]; exact a4 x (fun j hj => hx j (by omega))
  · obtain ⟨c1, c2⟩ := a6 z
    rw [h4 z]
    refine ⟨fun j hj => ?_, fun x hx => ?_⟩
    · by_cases hji : j = i
      · subst hji; rw [upd_same]
      · rw [upd_ne _ _ (by omega)]; exact c1 j (by omega)
    · rw [upd_ne _ _ (hx i (by omega))]; exact c2 x (fun j hj => hx j (by omega))
section MRun
variable {l : Launch} {C : xC} {G : xG}
set_option maxHeartbeats 4000000 in
theorem Ltells (hG : SH G) {K0 : xI} {E : aE} {S : aS} {τ rw : Nat} {kp : Int32} (hE : EI E) (hS0 : MS K0 E rw) (hSI : SI E S τ) (hτ : τ < 400) (hD : MD K0 E S τ) {Q : Unit → xI → Prop} (hQ : ∀ K, TL K0 K E S τ kp 4 → Q () K) : ∀ (k i : Nat), i ≤ 4 → 4 < i + k → ∀ K, TL K0 K E S τ kp i → XF fV l C mX10_tells 2 [some (.ref 69), some (.int kp), some (.int (nI i))] [] G K Q := by
  have hn4 := hE.2.1
  intro k
  induction k with
  | zero =>
    intro i h1 h2
    exact absurd h2 (by omega)
  | succ k ih =>
    intro i h1 h2 K hT
    obtain ⟨a1, a2, a3, a4, a5, a6⟩ := id hT
    have e61 := a1 69 (by decide) (by decide) (by decide)
    have e66 := a1 74 (by decide) (by decide) (by decide)
    have e67 := a1 75 (by decide) (by decide) (by decide)
    have e78 := a1 86 (by decide) (by decide) (by decide)
    refine VX10_tells_2 hG K kp (nI i) (pk_le 4 i (fun hle => ?_) (fun hi4 => ?_) rfl rfl)
    · have : i = 4 := by omega
      subst this
      exact hQ K hT
    · have kcl : (nI i).toNatClampNeg = i := nI_clamp (by omega)
      have hl12 := len12 hE hSI hi4
      rw [kcl, e61, e66, e67, e78, hD.1, m78 hD hi4, a3 i (Nat.le_refl _)]
      have hix : (400 : Int32) * nI i + nI τ = nI (400 * i + τ) := by rw [show (400 : Int32) = nI 400 from rfl, pk_mul, nI_add]
      refine pk_le (E 0 0) i (fun hle => ?_) (fun hlt => ?_) hS0.1 rfl
      · refine ⟨fun hk => ?_, fun hk => ?_⟩
        · exact XF.to (ih (i + 1) (by omega) (by omega) K (TL_step hT hi4 (fun _ _ _ _ => rfl) (fun z => absurd z (by omega)) (fun _ => ⟨rfl, rfl⟩) (fun _ => rfl) (fun z => absurd hk z))) (by rw [nI_succ]) rfl rfl
        · refine ⟨vp_in_nI (by omega) (by decide), by rw [hix]; exact vp_in_nI (by omega) (by decide), ?_⟩
          rw [hix, nI_clamp (show 400 * i + τ < 2 ^ 31 by omega)]
          refine XF.to (ih (i + 1) (by omega) (by omega) _ (TL_step hT hi4 (fun a z1 z2 z3 => wI_ne _ _ _ z3) (fun z => absurd z (by omega)) (fun _ => ⟨wI_ne _ _ _ (by decide), wI_ne _ _ _ (by decide)⟩) (fun z => absurd z hk) (fun _ => by rw [wI_same]))) (by rw [nI_succ]) rfl rfl
      · refine ⟨vp_in_nI (by omega) (by decide), ?_⟩
        obtain ⟨-, -, -, -, k5, k6, -⟩ := hS0.2.2.2.2.2.2.2 i hlt
        obtain ⟨-, -, -, -, -, e5, e6, -⟩ := hE.2.2.2.2.2.2.1 i hlt
        obtain ⟨hh, hh2⟩ := hD.2.2.2.2 i hlt
        rw [k5, k6, hh]
        refine pk_le (E 5 i) (sLen S i) (fun c1 => ?_) (fun c1 => ?_) rfl rfl (by omega) (by omega)
        · refine ⟨by rw [hix]; exact vp_in_nI (by omega) (by decide), by rw [wI_same, upd_same]; decide, ?_⟩
          rw [wI_same, upd_same, hix, nI_clamp (show 400 * i + τ < 2 ^ 31 by omega)]
          have hv : (1 : Int32) = nI (sHl E τ S i) := by unfold sHl; rw [if_pos c1]; rfl
          refine ⟨fun hk => ?_, fun hk => ?_⟩
          · refine XF.to (ih (i + 1) (by omega) (by omega) _ (TL_step hT (by omega) ?_ (fun _ => ⟨?_, ?_⟩) (fun z => absurd hlt z) (fun _ => ?_) (fun z => absurd hk z))) (by rw [nI_succ]) rfl rfl
            · intro a z1 z2 z3; rw [wI_ne _ _ _ z2, wI_ne _ _ _ z1]
            · rw [wI_ne _ _ _ (by decide), wI_same, hv]
            · rw [wI_same, wI_ne _ _ _ (by decide), hv]
            · rw [wI_ne _ _ _ (by decide), wI_ne _ _ _ (by decide)]
          · refine XF.to (ih (i + 1) (by omega) (by omega) _ (TL_step hT (by omega) ?_ (fun _ => ⟨?_, ?_⟩) (fun z => absurd hlt z) (fun z => absurd z hk) (fun _ => ?_))) (by rw [nI_succ]) rfl rfl
            · intro a z1 z2 z3; rw [wI_ne _ _ _ z3, wI_ne _ _ _ z2, wI_ne _ _ _ z1]
            · rw [wI_ne _ _ _ (by decide), wI_ne _ _ _ (by decide), wI_same, hv]
            · rw [wI_ne _ _ _ (by decide), wI_same, wI_ne _ _ _ (by decide), hv]
            · rw [wI_same, wI_ne _ _ _ (by decide), wI_ne _ _ _ (by decide)]
        · refine pk_le (sLen S i) (E 6 i) (fun c2 => ?_) (fun c2 => ?_) rfl rfl (by omega) (by omega)
          · refine ⟨by rw [hix]; exact vp_in_nI (by omega) (by decide), by rw [wI_same, upd_same]; decide, ?_⟩
            rw [wI_same, upd_same, hix, nI_clamp (show 400 * i + τ < 2 ^ 31 by omega)]
            have hv : (0 : Int32) = nI (sHl E τ S i) := by unfold sHl; rw [if_neg (by omega), if_pos c2]; rfl
            refine ⟨fun hk => ?_, fun hk => ?_⟩
            · refine XF.to (ih (i + 1) (by omega) (by omega) _ (TL_step hT (by omega) ?_ (fun _ => ⟨?_, ?_⟩) (fun z => absurd hlt z) (fun _ => ?_) (fun z => absurd hk z))) (by rw [nI_succ]) rfl rfl
              · intro a z1 z2 z3; rw [wI_ne _ _ _ z2, wI_ne _ _ _ z1]
              · rw [wI_ne _ _ _ (by decide), wI_same, hv]
              · rw [wI_same, wI_ne _ _ _ (by decide), hv]
              · rw [wI_ne _ _ _ (by decide), wI_ne _ _ _ (by decide)]
            · refine XF.to (ih (i + 1) (by omega) (by omega) _ (TL_step hT (by omega) ?_ (fun _ => ⟨?_, ?_⟩) (fun z => absurd hlt z) (fun z => absurd z hk) (fun _ => ?_))) (by rw [nI_succ]) rfl rfl
              · intro a z1 z2 z3; rw [wI_ne _ _ _ z3, wI_ne _ _ _ z2, wI_ne _ _ _ z1]
              · rw [wI_ne _ _ _ (by decide), wI_ne _ _ _ (by decide), wI_same, hv]
              · rw [wI_ne _ _ _ (by decide), wI_same, wI_ne _ _ _ (by decide), hv]
              · rw [wI_same, wI_ne _ _ _ (by decide), wI_ne _ _ _ (by decide)]
          · have hprev : (if τ = 0 then 0 else S.2 6 (400 * i + (τ - 1))) ≤ 1 := by
              by_cases z : τ = 0
              · rw [if_pos z]; omega
              · rw [if_neg z]; exact (hh2 (τ - 1) (by omega)).2
            refine pk_eq (if τ = 0 then 0 else S.2 6 (400 * i + (τ - 1))) 0 (fun c3 => ?_) (fun c3 => ?_) rfl rfl (by omega) (by omega)
            · refine ⟨by rw [hix]; exact vp_in_nI (by omega) (by decide), by rw [wI_same, upd_same]; decide, ?_⟩
              rw [wI_same, upd_same, hix, nI_clamp (show 400 * i + τ < 2 ^ 31 by omega)]
              have hv : (0 : Int32) = nI (sHl E τ S i) := by unfold sHl; rw [if_neg (by omega), if_neg (by omega), c3]; rfl
              refine ⟨fun hk => ?_, fun hk => ?_⟩
              · refine XF.to (ih (i + 1) (by omega) (by omega) _ (TL_step hT (by omega) ?_ (fun _ => ⟨?_, ?_⟩) (fun z => absurd hlt z) (fun _ => ?_) (fun z => absurd hk z))) (by rw [nI_succ]) rfl rfl
                · intro a z1 z2 z3; rw [wI_ne _ _ _ z2, wI_ne _ _ _ z1]
                · rw [wI_ne _ _ _ (by decide), wI_same, hv]
                · rw [wI_same, wI_ne _ _ _ (by decide), hv]
                · rw [wI_ne _ _ _ (by decide), wI_ne _ _ _ (by decide)]
              · refine XF.to (ih (i + 1) (by omega) (by omega) _ (TL_step hT (by omega) ?_ (fun _ => ⟨?_, ?_⟩) (fun z => absurd hlt z) (fun z => absurd z hk) (fun _ => ?_))) (by rw [nI_succ]) rfl rfl
                · intro a z1 z2 z3; rw [wI_ne _ _ _ z3, wI_ne _ _ _ z2, wI_ne _ _ _ z1]
                · rw [wI_ne _ _ _ (by decide), wI_ne _ _ _ (by decide), wI_same, hv]
                · rw [wI_ne _ _ _ (by decide), wI_same, wI_ne _ _ _ (by decide), hv]
                · rw [wI_same, wI_ne _ _ _ (by decide), wI_ne _ _ _ (by decide)]
            · refine ⟨by rw [hix]; exact vp_in_nI (by omega) (by decide), by rw [wI_same, upd_same]; decide, ?_⟩
              rw [wI_same, upd_same, hix, nI_clamp (show 400 * i + τ < 2 ^ 31 by omega)]
              have hv : (1 : Int32) = nI (sHl E τ S i) := by unfold sHl; rw [if_neg (by omega), if_neg (by omega), show (if τ = 0 then 0 else S.2 6 (400 * i + (τ - 1))) = 1 by omega]; rfl
              refine ⟨fun hk => ?_, fun hk => ?_⟩
              · refine XF.to (ih (i + 1) (by omega) (by omega) _ (TL_step hT (by omega) ?_ (fun _ => ⟨?_, ?_⟩) (fun z => absurd hlt z) (fun _ => ?_) (fun z => absurd hk z))) (by rw [nI_succ]) rfl rfl
                · intro a z1 z2 z3; rw [wI_ne _ _ _ z2, wI_ne _ _ _ z1]
                · rw [wI_ne _ _ _ (by decide), wI_same, hv]
                · rw [wI_same, wI_ne _ _ _ (by decide), hv]
                · rw [wI_ne _ _ _ (by decide), wI_ne _ _ _ (by decide)]
              · refine XF.to (ih (i + 1) (by omega) (by omega) _ (TL_step hT (by omega) ?_ (fun _ => ⟨?_, ?_⟩) (fun z => absurd hlt z) (fun z => absurd z hk) (fun _ => ?_))) (by rw [nI_succ]) rfl rfl
                · intro a z1 z2 z3; rw [wI_ne _ _ _ z3, wI_ne _ _ _ z2, wI_ne _ _ _ z1]
                · rw [wI_ne _ _ _ (by decide), wI_ne _ _ _ (by decide), wI_same, hv]
                · rw [wI_ne _ _ _ (by decide), wI_same, wI_ne _ _ _ (by decide), hv]
                · rw [wI_same, wI_ne _ _ _ (by decide), wI_ne _ _ _ (by decide)]
theorem Ztells (hG : SH G) {K : xI} {E : aE} {S : aS} {τ rw : Nat} (kp : Int32) (hE : EI E) (hS : MS K E rw) (hSI : SI E S τ) (hτ : τ < 400) (hD : MD K E S τ) : XF fV l C mX10_tells 0 (xent mX10_tells [.ref 69, .int kp]) [] G K (fun _ K' => TL K K' E S τ kp 4) :=
  VX10_tells hG K kp (Ltells hG hE hS hSI hτ hD (fun K' a => a) 5 0 (by omega) (by omega) K ⟨fun _ _ _ _ => rfl, fun j hj => absurd hj (by omega), fun _ _ => rfl, fun _ _ => rfl, fun _ => rfl, fun _ => ⟨fun j hj => absurd hj (by omega), fun _ _ => rfl⟩⟩)
end MRun
