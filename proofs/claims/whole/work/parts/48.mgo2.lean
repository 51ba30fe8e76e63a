/-! the reference's run is the plain one: its loops -/
section MRun
variable {l : Launch} {C : xC} {G : xG}
/-- where a run stands when a tick begins -/
def MT (K : xI) (E : aE) (S : aS) (rw τ p : Nat) : Prop := MS K E rw ∧ MD K E S τ ∧ MN K E S ∧ SI E S (τ - 1) ∧ DI E S p ∧ TI E τ p
theorem SI_at {E : aE} {S : aS} {τ : Nat} (h : SI E S (τ - 1)) (hτ : τ < 400) : SI E S τ := by
  by_cases hz : τ = 0
  · subst hz; exact h
  · have := SI_next h (by omega)
    rwa [show τ - 1 + 1 = τ by omega] at this
set_option maxHeartbeats 4000000 in
theorem Lgo_163 (hG : SH G) {K0 : xI} {E : aE} {τ rw : Nat} {x1 x2 x3 x4 x5 : Int32} (hE : EI E) (hS0 : MS K0 E rw) (hτ : τ < 400) {Q : Unit → xI → Prop} {R : aS × Nat}
    (hX : ∀ K, FS K0 K → MD K E R.1 τ → MN K E R.1 → (∃ Qc : Unit → xI → Prop, XF fV l C mX10_sends 0 (xent mX10_sends [.ref 69]) [] G K Qc ∧ ∀ (u_234 : Unit) (I_234 : xI), Qc u_234 I_234 → (∃ Qc : Unit → xI → Prop, XF fV l C mX10_tells 0 (xent mX10_tells [.ref 69, .int x5]) [] G I_234 Qc ∧ ∀ (u_240 : Unit) (I_240 : xI), Qc u_240 I_240 → XF fV l C mX10_go 142 [some (.ref 69), some (.int x1), some (.int x2), some (.int x3), some (.int x4), some (.int x5), some (.int (nI R.2))] [] G (wI I_240 69 22 ((I_240 69 22) + 1)) Q))) :
    ∀ (m p : Nat) (S : aS) (K : xI), m = E 0 5 - p → SI E S τ → DI E S p → (∀ k, p ≤ k → k < E 0 5 → τ ≤ E 8 k) → FS K0 K → MD K E S τ → MN K E S → sDue E τ m S p = R → XF fV l C mX10_go 163 [some (.ref 69), some (.int x1), some (.int x2), some (.int x3), some (.int x4), some (.int x5), some (.int (nI p))] [] G K Q := by
  have hn4 := hE.2.1
  have hc := hE.2.2.2.1
  intro m
  induction m with
  | zero =>
    intro p S K hm hI hd ht hF hD hM hR
    have hS := MS_FS hS0 hF
    have hp : p = E 0 5 := by have := hd.1; omega
    have hR2 : R = (S, p) := hR.symm
    subst hR2
    refine VX10_go_163 hG K x1 x2 x3 x4 x5 (nI p) ⟨by rw [hS.2.2.1.2.1]; exact vp_in_nI hS.2.2.1.1 (by decide), ?_⟩
    rw [hS.2.2.1.2.1, nI_clamp (by have := hS.2.2.1.1; omega)]
    refine pk_le (E 0 5) p (fun _ => hX K hF hD hM) (fun z => absurd z (by omega)) hS.2.2.1.2.2 rfl
  | succ m ih =>
    intro p S K hm hI hd ht hF hD hM hR
    have hS := MS_FS hS0 hF
    have hr4 := hS.2.2.1.1
    obtain ⟨hl, h40⟩ := hE.2.2.2.2.1 p (by omega)
    refine VX10_go_163 hG K x1 x2 x3 x4 x5 (nI p) ⟨by rw [hS.2.2.1.2.1]; exact vp_in_nI hr4 (by decide), ?_⟩
    rw [hS.2.2.1.2.1, nI_clamp (show rw < 2 ^ 31 by omega)]
    refine pk_le (E 0 5) p (fun z => absurd z (by omega)) (fun hlt => ?_) hS.2.2.1.2.2 rfl
    rw [ix80, nI_clamp (show 80 * rw + p < 2 ^ 31 by omega)]
    refine ⟨vp_in_nI (by omega) (by decide), ?_⟩
    rw [(hS.2.2.2.1 p hlt).1, (hS.2.2.2.1 p hlt).2, hD.1]
    refine pk_eq (E 8 p) τ (fun he => ?_) (fun he => ?_) rfl rfl (by omega) (by omega)
    · unfold sDue at hR
      rw [if_pos (by omega)] at hR
      obtain ⟨d1, d2⟩ := due1_inv hE hI hd hτ hlt
      refine ⟨_, XF.of (YX10_isHeld hG K (nI (E 9 p)) (vp_in_nI (by omega) (by decide))), ?_⟩
      rintro v I' ⟨rfl, rfl⟩
      rw [nI_clamp (show E 9 p < 2 ^ 31 by omega)]
      refine bI_split (fun hh => ?_) (fun hh => ?_)
      · have hh2 : ¬ sHd E (E 9 p) := fun z => hh ((held_iff hE hS hl).mpr z)
        rw [if_neg hh2] at hR d1 d2
        refine ⟨_, Zcomes hG hE hS hI hd.2.2.2 hD hlt (hd.2.1 _ hh2) hτ, ?_⟩
        rintro - K1 ⟨w1, w2, w3⟩
        refine XF.to (ih (p + 1) _ K1 (by omega) d1 d2 (fun k z1 z2 => ht k (by omega) z2) (hF.trans w2) w1 ?_ hR) (by rw [nI_succ]) rfl rfl
        intro j hj hhj
        obtain ⟨N, a1, a2⟩ := hM j hj hhj
        have hjp : j ≠ E 9 p := by intro z; subst z; exact hh2 hhj
        rw [off_P, uN_k _ _ _ hjp]
        exact ⟨N, by rw [w3]; exact a1, a2⟩
      · rw [if_pos ((held_iff hE hS hl).mp hh)] at hR d1 d2
        exact XF.to (ih (p + 1) _ I' (by omega) d1 d2 (fun k z1 z2 => ht k (by omega) z2) hF hD hM hR) (by rw [nI_succ]) rfl rfl
    · unfold sDue at hR
      have := ht p (Nat.le_refl _) hlt
      rw [if_neg (by omega)] at hR
      subst hR
      exact hX K hF hD hM
set_option maxHeartbeats 4000000 in
theorem Lgo_142 (hG : SH G) {E : aE} {rw : Nat} {x1 x2 x3 x4 x5 : Int32} (hE : EI E) {Q : Unit → xI → Prop} : ∀ (m τ p : Nat) (S : aS) (K0 K : xI), m + τ = 400 → MT K E S rw τ p → FT K0 K → (x5 = 0 → K 95 = K0 95) → (¬ x5 = 0 → ML K E S τ)
    → (∀ K', MS K' E rw → FT K0 K' → (x5 = 0 → K' 95 = K0 95) → MD K' E (sRun E m S p τ).1 (sRun E m S p τ).2 → SI E (sRun E m S p τ).1 ((sRun E m S p τ).2 - 1) → (¬ x5 = 0 → ML K' E (sRun E m S p τ).1 (sRun E m S p τ).2) → Q () K')
    → XF fV l C mX10_go 142 [some (.ref 69), some (.int x1), some (.int x2), some (.int x3), some (.int x4), some (.int x5), some (.int (nI p))] [] G K Q := by
  have hn4 := hE.2.1
  have hB := hE.2.2.1
  intro m
  induction m with
  | zero =>
    intro τ p S K0 K hm hMT hF h87 hL hQ
    obtain ⟨hS, hD, hM, hI, hd, ht⟩ := hMT
    refine VX10_go_142 hG K x1 x2 x3 x4 x5 (nI p) (pk_le 400 τ (fun _ => ?_) (fun z => absurd z (by omega)) rfl hD.1)
    exact hQ K hS hF h87 hD hI hL
  | succ m ih =>
    intro τ p S K0 K hm hMT hF h87 hL hQ
    obtain ⟨hS, hD, hM, hI0, hd, ht⟩ := hMT
    have hτ : τ < 400 := by omega
    have hI := SI_at hI0 hτ
    have htot := hI.2.2.2.2.2.1
    refine VX10_go_142 hG K x1 x2 x3 x4 x5 (nI p) (pk_le 400 τ (fun z => absurd z (by omega)) (fun _ => ?_) rfl hD.1)
    refine ⟨_, XF.of (YX10_isLeft hG K (mRw_of hE hS) hn4), ?_⟩
    rintro v I' ⟨rfl, rfl⟩
    have hle := left_iff hE hS (by omega) hD hM hd ht (by omega)
    unfold sX10_isLeft
    refine bI_split (fun hh => ?_) (fun hh => ?_)
    · have hz : sUnd E S + sTot S = 0 := Classical.byContradiction (fun z => hh (hle.mpr z))
      have e : sRun E (m + 1) S p τ = (S, τ) := by unfold sRun; rw [if_pos hz]
      rw [e] at hQ
      exact hQ I' hS hF h87 hD hI0 hL
    · have hz : ¬ sUnd E S + sTot S = 0 := hle.mp hh
      have e : sRun E (m + 1) S p τ = sRun E m (sTick E S p τ).1 (sTick E S p τ).2 (τ + 1) := by
        conv => lhs; unfold sRun
        rw [if_neg hz]
      rw [e] at hQ
      have hkt : ∀ k, k < p → E 8 k ≤ τ := fun k hk => Nat.le_of_lt (ht.1 k hk)
      obtain ⟨i1, i2, i3, i4⟩ := tick_inv hE hI hd hkt hτ
      obtain ⟨a1, a2⟩ := helds_inv hE hI hd hτ (E 0 0)
      obtain ⟨b1, b2, b3, b4⟩ := due_inv hE hτ _ _ p rfl a1 a2 hkt
      refine ⟨_, Zsenders hG hE hS hI hd hτ hD hM, ?_⟩
      rintro - K1 ⟨f1, m1, n1⟩
      have hS1 := MS_FS hS f1
      refine Lgo_163 hG (K0 := K1) hE hS1 hτ (R := sDue E τ (E 0 5 - p) (sHelds E τ S (E 0 0)) p) ?_ (E 0 5 - p) p _ K1 rfl a1 a2 ht.2 (FS.refl _) m1 n1 rfl
      intro K2 f2 m2 n2
      have hS2 := MS_FS hS1 f2
      refine ⟨_, Zsends hG hE hS2 b1 b2.2.2.2 hτ m2, ?_⟩
      rintro - K3 ⟨f3, n3, m3⟩
      have hS3 := MS_FS hS2 f3
      have c1 := SI_sends hE b1 hτ (E 0 0) hn4
      refine ⟨_, Ztells hG x5 hE hS3 c1 hτ m3, ?_⟩
      rintro - K4 hT
      have f123 : FS I' K3 := (f1.trans f2).trans f3
      have f4 : FT K3 (wI K4 69 22 (K4 69 22 + 1)) := by
        refine ⟨fun a ha => ?_, fun i hi => ?_⟩
        · rw [wI_ne _ _ _ (by omega), hT.1 a (by omega) (by omega) (by omega)]
        · rw [wI_same, upd_ne _ _ hi, hT.1 69 (by decide) (by decide) (by decide)]
      have f14 : FT I' (wI K4 69 22 (K4 69 22 + 1)) := (FT.of f123).trans f4
      refine ih (τ + 1) _ _ K0 _ (by omega) ⟨MS_FT hS f14, MD_end hE hτ m3 hT, ?_, i1, i2, ?_, ?_⟩ (hF.trans f14) ?_ ?_ hQ
      · intro j hj hhj
        obtain ⟨N, q1, q2⟩ := n2 j hj hhj
        refine ⟨N, ?_, ?_⟩
        · rw [wI_ne _ _ _ (by decide), hT.1 88 (by decide) (by decide) (by decide), n3]; exact q1
        · have e5 : (sTick E S p τ).1.2 5 = (sDue E τ (E 0 5 - p) (sHelds E τ S (E 0 0)) p).1.2 5 := by
            show (sTells E τ _ _).2 5 = _
            rw [tells_f _ _ _ (by decide), sends_f _ _ _ (by decide) (by decide)]
          rw [show (sTells E τ (sSends E τ (sDue E τ (E 0 5 - p) (sHelds E τ S (E 0 0)) p).1 (E 0 0)) (E 0 0)).2 5 = (sTick E S p τ).1.2 5 from rfl, e5]
          exact q2
      · exact fun k hk => Nat.lt_succ_of_le (i3 k hk)
      · exact fun k z1 z2 => i4 k z1 z2
      · intro z
        rw [wI_ne _ _ _ (by decide), hT.2.2.2.2.1 z, f123 95 (by decide)]
        exact h87 z
      · intro z
        refine ML_end hτ (S := S) (K := K3) ?_ hT z (fun j hj t ht2 => tick_at hE hI hd hkt hτ j ht2) i1
        intro j hj t ht2
        rw [f123 95 (by decide)]
        exact hL z j hj t ht2
end MRun
