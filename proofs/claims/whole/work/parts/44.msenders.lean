/-! the reference's run is the plain one: the senders' turn -/
theorem MD_80 {K : xI} {E : aE} {S : aS} {τ : Nat} (h : MD K E S τ) (i : Nat) (v : Int32) : MD (wI K 88 i v) E S τ := by
  unfold MD mQu MF MH at h ⊢
  rw [wI_ne _ _ _ (show (69 : Nat) ≠ 88 by decide), wI_ne _ _ _ (show (85 : Nat) ≠ 88 by decide), wI_ne _ _ _ (show (86 : Nat) ≠ 88 by decide), wI_ne _ _ _ (show (87 : Nat) ≠ 88 by decide), wI_ne _ _ _ (show (89 : Nat) ≠ 88 by decide), wI_ne _ _ _ (show (90 : Nat) ≠ 88 by decide), wI_ne _ _ _ (show (91 : Nat) ≠ 88 by decide), wI_ne _ _ _ (show (92 : Nat) ≠ 88 by decide), wI_ne _ _ _ (show (93 : Nat) ≠ 88 by decide), wI_ne _ _ _ (show (94 : Nat) ≠ 88 by decide)]
  exact h
theorem sub1 (x y : Int32) : x - 1 - y = x - (y + 1) := by
  rw [Int32.sub_eq_add_neg, Int32.sub_eq_add_neg, Int32.sub_eq_add_neg, Int32.neg_add, Int32.add_assoc, Int32.add_comm (-1)]
  rw [Int32.sub_eq_add_neg]
theorem heard_pos {τ g : Nat} (h : g < τ) : nI τ - 1 - nI g = nI (τ - 1 - g) := by
  rw [sub1, nI_1, pk_sub (by omega)]
  congr 1
  omega
theorem heard_neg {τ g : Nat} (h : τ ≤ g) (hg : g < 2 ^ 29) : nI τ - 1 - nI g < 0 := by
  rw [sub1, nI_1]
  exact pk_sneg (by omega) (by omega)
section MRun
variable {l : Launch} {C : xC} {G : xG}
set_option maxHeartbeats 4000000 in
theorem Lsenders (hG : SH G) {K0 : xI} {E : aE} {S : aS} {τ p rw : Nat} (hE : EI E) (hS0 : MS K0 E rw) (hSI : SI E S τ) (hDI0 : DI E S p) (hτ : τ < 400) {Q : Unit → xI → Prop} (hQ : ∀ K, FS K0 K → MD K E (sHelds E τ S (E 0 0)) τ → MN K E (sHelds E τ S (E 0 0)) → Q () K) : ∀ (k i : Nat), i ≤ E 0 0 → E 0 0 < i + k → ∀ K, FS K0 K → MD K E (sHelds E τ S i) τ → MN K E (sHelds E τ S i) → XF fV l C mX10_senders 2 [some (.ref 69), some (.int (nI i)), none, none, none] [] G K Q := by
  have hn4 := hE.2.1
  have hc := hE.2.2.2.1
  intro k
  induction k with
  | zero =>
    intro i h1 h2
    exact absurd h2 (by omega)
  | succ k ih =>
    intro i h1 h2 K hF hD hM
    have hS := MS_FS hS0 hF
    refine VX10_senders_2 hG K (nI i) (pk_le (E 0 0) i (fun hle => ?_) (fun hlt => ?_) hS.1 rfl)
    · have : i = E 0 0 := by omega
      subst this
      exact hQ K hF hD hM
    · refine ⟨vp_in_nI (by omega) (by decide), ?_⟩
      obtain ⟨hI, hDI⟩ := helds_inv hE hSI hDI0 hτ i
      have kcl : (nI i).toNatClampNeg = i := nI_clamp (by omega)
      rw [kcl]
      have hnext : sHelds E τ S (i + 1) = sHeld1 E τ (sHelds E τ S i) i := rfl
      refine ⟨_, XF.of (YX10_isHeld hG K (nI i) (vp_in_nI (by omega) (by decide))), ?_⟩
      rintro v I' ⟨rfl, rfl⟩
      rw [kcl]
      have hHi := held_iff hE hS hlt
      refine bI_split (fun hH => ?_) (fun hH => ?_)
      · refine ⟨_, XF.of (YX10_isHeld hG I' (nI i) (vp_in_nI (by omega) (by decide))), ?_⟩
        rintro v I2 ⟨rfl, rfl⟩
        rw [kcl]
        refine bI_split (fun _ => ?_) (fun z => absurd z hH)
        have e : sHelds E τ S (i + 1) = sHelds E τ S i := by
          rw [hnext]
          unfold sHeld1
          rw [if_neg (fun z => hH (hHi.mpr z.1))]
        exact XF.to (ih (i + 1) (by omega) (by omega) I2 hF (by rw [e]; exact hD) (by rw [e]; exact hM)) (by rw [nI_succ]) rfl rfl
      · have hHd := hHi.mp hH
        obtain ⟨N, hN1, hN2, hN3, hN4⟩ := hM i hlt hHd
        obtain ⟨-, -, -, -, -, -, -, hlag⟩ := hE.2.2.2.2.2.2.1 i hlt
        have hge : (sHelds E τ S i).2 5 i ≤ sNx E (sHelds E τ S i) i := fdn_ge E i _ _
        have hPi := hDI.2.2.2 i
        have hle : sNx E (sHelds E τ S i) i ≤ E 0 5 := by have := fdn_le E i (E 0 5 - (sHelds E τ S i).2 5 i) ((sHelds E τ S i).2 5 i); unfold sNx; omega
        have hat : sNx E (sHelds E τ S i) i < E 0 5 → E 9 (sNx E (sHelds E τ S i) i) = i := fun z => fdn_at E i _ _ (by unfold sNx at z; omega)
        have hno : ∀ k, (sHelds E τ S i).2 5 i ≤ k → k < sNx E (sHelds E τ S i) i → E 9 k ≠ i := fdn_no E i _ _
        have hpos : mPos I' rw (E 0 5) i N = sNx E (sHelds E τ S i) i := by
          show fnd (I' 83) (80 * rw) (nI i) (E 0 5 - N) N = _
          rw [fnd_fdn hE hS hlt _ _ (by omega)]
          exact (fdn_skip (N - (sHelds E τ S i).2 5 i) _ N _ (by omega) hN3 hN4).symm
        have hW : tX10_waiting I' rw (E 0 5) i N = wI I' 88 i (nI (sNx E (sHelds E τ S i) i)) := by unfold tX10_waiting; rw [hpos]
        have hsW : sX10_waiting I' rw (E 0 5) i N = if sNx E (sHelds E τ S i) i < E 0 5 then (if I' 69 22 < I' 82 (80 * rw + sNx E (sHelds E τ S i) i) then (-1) else nI (sNx E (sHelds E τ S i) i)) else (-1) := by unfold sX10_waiting; rw [hpos]
        have hv1 : ¬ sX10_waiting I' rw (E 0 5) i N < 0 → sNx E (sHelds E τ S i) i < E 0 5 ∧ E 8 (sNx E (sHelds E τ S i) i) ≤ τ ∧ sX10_waiting I' rw (E 0 5) i N = nI (sNx E (sHelds E τ S i) i) := by
          intro hv
          rw [hsW] at hv ⊢
          by_cases z1 : sNx E (sHelds E τ S i) i < E 0 5
          · rw [if_pos z1] at hv ⊢
            have hb := (hE.2.2.2.2.1 _ z1).2
            rw [hD.1, (hS.2.2.2.1 _ z1).2] at hv ⊢
            by_cases z2 : nI τ < nI (E 8 (sNx E (sHelds E τ S i) i))
            · rw [if_pos z2] at hv; exact absurd (by decide) hv
            · rw [if_neg z2]
              exact ⟨z1, Nat.le_of_not_lt (fun q => z2 ((nI_ltI (by omega) (by omega)).mpr q)), rfl⟩
          · rw [if_neg z1] at hv; exact absurd (by decide) hv
        have hv2 : sNx E (sHelds E τ S i) i < E 0 5 → E 8 (sNx E (sHelds E τ S i) i) ≤ τ → ¬ sX10_waiting I' rw (E 0 5) i N < 0 := by
          intro z1 z2
          have hb := (hE.2.2.2.2.1 _ z1).2
          rw [hsW, if_pos z1, hD.1, (hS.2.2.2.1 _ z1).2, if_neg (nI_nlt z2 (by omega))]
          exact nI_pos (by omega)
        have hpost : ¬ (sNx E (sHelds E τ S i) i < E 0 5 ∧ E 8 (sNx E (sHelds E τ S i) i) ≤ τ) → sHelds E τ S (i + 1) = sHelds E τ S i := by
          intro z
          rw [hnext]
          unfold sHeld1
          rw [if_neg (fun q => z ⟨q.2.2.1, q.2.2.2⟩)]
        have hyes : ¬ sStop E τ (sHelds E τ S i) i → sNx E (sHelds E τ S i) i < E 0 5 → E 8 (sNx E (sHelds E τ S i) i) ≤ τ → sHelds E τ S (i + 1) = sOff E (sHelds E τ S i) τ (sNx E (sHelds E τ S i) i) := by
          intro z z1 z2
          rw [hnext]
          unfold sHeld1
          rw [if_pos ⟨hHd, z, z1, z2⟩]
        have hF1 : ∀ v, FS I' (wI I' 88 i v) := fun v a ha => wI_ne _ _ _ (by omega)
        have hMN0 : MN (wI I' 88 i (nI (sNx E (sHelds E τ S i) i))) E (sHelds E τ S i) := by
          intro j hj hhj
          by_cases hji : j = i
          · subst hji
            exact ⟨_, by rw [wI_same, upd_same], hge, hle, hno⟩
          · obtain ⟨N2, a1, a2⟩ := hM j hj hhj
            exact ⟨N2, by rw [wI_same, upd_ne _ _ hji]; exact a1, a2⟩
        have hMN1 : ∀ K3 : xI, sNx E (sHelds E τ S i) i < E 0 5 → K3 88 = upd (upd (I' 88) i (nI (sNx E (sHelds E τ S i) i))) i (nI (sNx E (sHelds E τ S i) i + 1)) → MN K3 E (sOff E (sHelds E τ S i) τ (sNx E (sHelds E τ S i) i)) := by
          intro K3 z1 w3 j hj hhj
          rw [off_P, uN_i, hat z1, w3]
          by_cases hji : j = i
          · subst hji
            rw [if_pos rfl]
            exact ⟨_, by rw [upd_same], Nat.le_refl _, by omega, fun k q1 q2 => absurd q2 (by omega)⟩
          · rw [if_neg hji]
            obtain ⟨N2, a1, a2⟩ := hM j hj hhj
            exact ⟨N2, by rw [upd_ne _ _ hji, upd_ne _ _ hji]; exact a1, a2⟩
        have hlg2 : I' 76 i = nI (E 7 i) := (hS.2.2.2.2.2.2.2 i hlt).2.2.2.2.2.2
        rw [hD.1, hlg2]
        refine ⟨fun hneg => ?_, fun hneg => ?_⟩
        · have hst : ¬ sStop E τ (sHelds E τ S i) i := by
            intro z
            rw [heard_pos z.1] at hneg
            exact nI_pos (by omega) hneg
          refine ⟨_, XF.of (YX10_isHeld hG I' (nI i) (vp_in_nI (by omega) (by decide))), ?_⟩
          rintro v I2 ⟨rfl, rfl⟩
          rw [kcl]
          refine bI_split (fun z => absurd hH z) (fun _ => ?_)
          refine ⟨_, XF.of (YX10_waiting hG I2 (mRw_of hE hS) (lx := i) (by omega) hN1 hN3), ?_⟩
          rintro v K1 ⟨rfl, rfl⟩
          refine ⟨fun hv => ?_, fun hv => ?_⟩
          · have e : sHelds E τ S (i + 1) = sHelds E τ S i := hpost (fun z => hv2 z.1 z.2 hv)
            exact XF.to (ih (i + 1) (by omega) (by omega) (wI I2 88 i (nI (sNx E (sHelds E τ S i) i))) (hF.trans (hF1 _)) (by rw [e]; exact MD_80 hD _ _) (by rw [e]; exact hMN0)) (by rw [nI_succ]) rfl hW
          · obtain ⟨z1, z2, z3⟩ := hv1 hv
            have e : sHelds E τ S (i + 1) = sOff E (sHelds E τ S i) τ (sNx E (sHelds E τ S i) i) := hyes hst z1 z2
            rw [z3, nI_1, hW]
            refine ⟨_, Zcomes hG hE (MS_FS hS ((hF1 _).trans (fun a ha => wI_ne _ _ _ (by omega)))) hI hDI.2.2.2 (MD_80 (MD_80 hD _ _) _ _) z1 (by rw [hat z1]; exact hge) hτ, ?_⟩
            rintro - K3 ⟨w1, w2, w3⟩
            exact XF.to (ih (i + 1) (by omega) (by omega) K3 ((hF.trans (hF1 _)).trans (FS.trans (fun a ha => wI_ne _ _ _ (by omega)) w2)) (by rw [e]; exact w1) (by rw [e]; exact hMN1 K3 z1 (by rw [w3, wI_same, wI_same]))) (by rw [nI_succ]) rfl rfl
        · have hg : E 7 i < τ := Nat.lt_of_not_le (fun z => hneg (heard_neg z (by omega)))
          have hix : (400 : Int32) * nI i + (nI τ - 1 - nI (E 7 i)) = nI (400 * i + (τ - 1 - E 7 i)) := by rw [heard_pos hg, show (400 : Int32) = nI 400 from rfl, pk_mul, nI_add]
          rw [hix]
          refine ⟨vp_in_nI (by omega) (by decide), ?_⟩
          rw [nI_clamp (by omega)]
          obtain ⟨hh1, hh2⟩ := (hD.2.2.2.2 i hlt).2 (τ - 1 - E 7 i) (by omega)
          rw [hh1]
          refine pk_eq _ 0 (fun hz => ?_) (fun hz => ?_) rfl rfl (by omega) (by omega)
          · have hst : ¬ sStop E τ (sHelds E τ S i) i := fun z => z.2 hz
            refine ⟨_, XF.of (YX10_isHeld hG I' (nI i) (vp_in_nI (by omega) (by decide))), ?_⟩
            rintro v I2 ⟨rfl, rfl⟩
            rw [kcl]
            refine bI_split (fun z => absurd hH z) (fun _ => ?_)
            refine ⟨_, XF.of (YX10_waiting hG I2 (mRw_of hE hS) (lx := i) (by omega) hN1 hN3), ?_⟩
            rintro v K1 ⟨rfl, rfl⟩
            refine ⟨fun hv => ?_, fun hv => ?_⟩
            · have e : sHelds E τ S (i + 1) = sHelds E τ S i := hpost (fun z => hv2 z.1 z.2 hv)
              exact XF.to (ih (i + 1) (by omega) (by omega) (wI I2 88 i (nI (sNx E (sHelds E τ S i) i))) (hF.trans (hF1 _)) (by rw [e]; exact MD_80 hD _ _) (by rw [e]; exact hMN0)) (by rw [nI_succ]) rfl hW
            · obtain ⟨z1, z2, z3⟩ := hv1 hv
              have e : sHelds E τ S (i + 1) = sOff E (sHelds E τ S i) τ (sNx E (sHelds E τ S i) i) := hyes hst z1 z2
              rw [z3, nI_1, hW]
              refine ⟨_, Zcomes hG hE (MS_FS hS ((hF1 _).trans (fun a ha => wI_ne _ _ _ (by omega)))) hI hDI.2.2.2 (MD_80 (MD_80 hD _ _) _ _) z1 (by rw [hat z1]; exact hge) hτ, ?_⟩
              rintro - K3 ⟨w1, w2, w3⟩
              exact XF.to (ih (i + 1) (by omega) (by omega) K3 ((hF.trans (hF1 _)).trans (FS.trans (fun a ha => wI_ne _ _ _ (by omega)) w2)) (by rw [e]; exact w1) (by rw [e]; exact hMN1 K3 z1 (by rw [w3, wI_same, wI_same]))) (by rw [nI_succ]) rfl rfl
          · refine ⟨_, XF.of (YX10_isHeld hG I' (nI i) (vp_in_nI (by omega) (by decide))), ?_⟩
            rintro v I2 ⟨rfl, rfl⟩
            rw [kcl]
            refine bI_split (fun z => absurd hH z) (fun _ => ?_)
            have e : sHelds E τ S (i + 1) = sHelds E τ S i := by
              rw [hnext]
              unfold sHeld1
              rw [if_neg (fun q => q.2.1 ⟨hg, hz⟩)]
            exact XF.to (ih (i + 1) (by omega) (by omega) I2 hF (by rw [e]; exact hD) (by rw [e]; exact hM)) (by rw [nI_succ]) rfl rfl
theorem Zsenders (hG : SH G) {K : xI} {E : aE} {S : aS} {τ p rw : Nat} (hE : EI E) (hS : MS K E rw) (hSI : SI E S τ) (hDI : DI E S p) (hτ : τ < 400) (hD : MD K E S τ) (hM : MN K E S) : XF fV l C mX10_senders 0 (xent mX10_senders [.ref 69]) [] G K (fun _ K' => FS K K' ∧ MD K' E (sHelds E τ S (E 0 0)) τ ∧ MN K' E (sHelds E τ S (E 0 0))) :=
  VX10_senders hG K (Lsenders hG hE hS hSI hDI hτ (fun K' a b c => ⟨a, b, c⟩) (E 0 0 + 1) 0 (by omega) (by omega) K (FS.refl K) hD hM)
/-- what the sender of a line leaves: the letter at the head goes -/
def mSd (K : xI) (j : Nat) : xI := wI (wI (tX10_ends K (K 85 (80 * nI j + K 87 j).toNatClampNeg).toNatClampNeg 0) 87 j (K 87 j + 1)) 86 j (K 86 j - 1)
end MRun
