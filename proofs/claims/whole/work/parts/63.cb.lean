/-! the class's run is the plain one: the letters of a tick (run b) -/
def CNb (I : xI) (E : aE) (S : aS) : Prop := ∀ j, j < E 0 0 → sHd E j → ∃ N, I 35 j = nI N ∧ S.2 5 j ≤ N ∧ N ≤ E 0 5 ∧ ∀ k, S.2 5 j ≤ k → k < N → E 9 k ≠ j
def CBb (I : xI) (E : aE) (S : aS) (τ : Nat) : Prop := ∀ j, j < E 0 0 → (∀ t, t < τ → S.2 6 (400 * j + t) ≤ 1) ∧ (E 1 j = 2 → ∀ b, b ≤ 5 → (I 34 j >>> (nI b &&& 31)) &&& 1 = nI (if b < τ then S.2 6 (400 * j + (τ - 1 - b)) else 0))
section CRun
variable {l : Launch} {C : xC} {G : xG}
theorem Zwaitsb (hG : SH G) {I : xI} {E : aE} {S : aS} {τ j : Nat} (hE : EI E) (hL : CL I G E) (hD : CDb I E S τ) (hj : j < E 0 0) : XF fI l C mX5_waits 0 (xent mX5_waits [.ref 26, .int (nI j)]) [] G I (fun v I' => (v = 0 ↔ ¬ sHd E j) ∧ I' = I) := by
  have hn4 := hE.2.1
  have h4 := hE.2.2.2.2.2.2.2.2.2
  obtain ⟨c1, c2, c3, c4, -⟩ := hL.2.2 j hj
  refine VX5_waitsb hG I (nI j) ?_
  rw [nI_clamp (show j < 2 ^ 31 by omega)]
  refine pk_eq (1 - E 0 4) 0 (fun z => ?_) (fun z => ?_) hD.2.1 rfl
  · exact ⟨⟨fun _ q => by have := q.2; omega, fun _ => rfl⟩, rfl⟩
  · refine ⟨vp_in_nI (by omega) (by decide), c1, fun q => ?_, fun q => ?_⟩
    · exact ⟨⟨fun q2 => absurd q2 (by decide), fun q2 => absurd ⟨c4.mp q, by omega⟩ q2⟩, rfl⟩
    · exact ⟨⟨fun _ q2 => q (c4.mpr q2.1), fun _ => rfl⟩, rfl⟩
theorem Zhaltedb (hG : SH G) {I : xI} {E : aE} {S : aS} {τ j : Nat} (hE : EI E) (hL : CL I G E) (hB : CBb I E S τ) (hj : j < E 0 0) (hh : sHd E j) : XF fI l C mX5_isHalted 0 (xent mX5_isHalted [.ref 26, .int (nI j)]) [] G I (fun v I' => (v = 0 ↔ ¬ sStop E τ S j) ∧ I' = I) := by
  have hn4 := hE.2.1
  obtain ⟨c1, c2, c3, c4, c5, c6, c7, c8⟩ := hL.2.2 j hj
  obtain ⟨-, -, -, -, -, -, -, hlag⟩ := hE.2.2.2.2.2.2.1 j hj
  obtain ⟨b1, b2⟩ := hB j hj
  refine VX5_isHaltedb hG I (nI j) ?_
  rw [nI_clamp (show j < 2 ^ 31 by omega), (c8 hh.1).2.2, b2 hh.1 _ hlag]
  refine ⟨vp_in_nI (by omega) (by decide), c1, fun _ => ?_, fun z => absurd (c4.mpr hh.1) z⟩
  have hle : (if E 7 j < τ then S.2 6 (400 * j + (τ - 1 - E 7 j)) else 0) ≤ 1 := by
    split
    · exact b1 _ (by omega)
    · omega
  refine pk_eq _ 1 (fun z => ?_) (fun z => ?_) rfl rfl (by omega) (by omega)
  · refine ⟨⟨fun q => absurd q (by decide), fun q => absurd ?_ q⟩, rfl⟩
    by_cases hlt : E 7 j < τ
    · rw [if_pos hlt] at z; exact ⟨hlt, by omega⟩
    · rw [if_neg hlt] at z; omega
  · refine ⟨⟨fun _ q => ?_, fun _ => rfl⟩, rfl⟩
    rw [if_pos q.1] at z hle
    have := q.2
    omega
set_option maxHeartbeats 4000000 in
theorem Lnextb (hG : SH G) {I : xI} {E : aE} {S : aS} {τ j w : Nat} (hE : EI E) (hW : CW I G E w) (hD : CDb I E S τ) (hj : j < E 0 0) (hτ : τ < 400) : ∀ (f m : Nat), m ≤ E 0 5 → E 0 5 < m + f → S.2 5 j ≤ m → (∀ k, S.2 5 j ≤ k → k < m → E 9 k ≠ j) → XF fI l C mX5_nextWaiting 7 [some (.ref 26), some (.ref w), some (.int (nI j)), some (.int (nI m))] [] G I (fun v I' => (v = (-1) ∧ ¬ (sNx E S j < E 0 5 ∧ E 8 (sNx E S j) ≤ τ) ∧ ∃ N, I' = wI I 35 j (nI N) ∧ S.2 5 j ≤ N ∧ N ≤ E 0 5 ∧ ∀ k, S.2 5 j ≤ k → k < N → E 9 k ≠ j) ∨ (v = nI (sNx E S j) ∧ sNx E S j < E 0 5 ∧ E 8 (sNx E S j) ≤ τ ∧ I' = wI I 35 j (nI (sNx E S j)))) := by
  have hn4 := hE.2.1
  have hc := hE.2.2.2.1
  obtain ⟨w1, w2, w3, w4, w5⟩ := hW
  have kj : (nI j).toNatClampNeg = j := nI_clamp (by omega)
  intro f
  induction f with
  | zero => intro m h1 h2; exact absurd h2 (by omega)
  | succ f ih =>
    intro m h1 h2 h3 h4
    have km : (nI m).toNatClampNeg = m := nI_clamp (by omega)
    refine VX5_nextWaitingb_7 hG w1 w2 I (nI j) (nI m) ?_
    rw [kj, km, wI_ne _ _ _ (show w ≠ 35 by omega), wI_ne _ _ _ (show w + 1 ≠ 35 by omega), w4, hD.2.2.1]
    refine pk_le (E 0 5) m (fun hle => ?_) (fun hlt => ?_) rfl rfl
    · have hm : m = E 0 5 := by omega
      refine ⟨vp_in_nI (by omega) (by decide), fun _ => ?_, fun z => absurd (nI_le hle (by omega)) z⟩
      refine Or.inl ⟨rfl, fun z => ?_, m, rfl, h3, h1, h4⟩
      have := nx_ge h3 h1 h4
      omega
    · refine ⟨vp_in_nI (by omega) (by decide), ?_⟩
      rw [(w5 m hlt).1, (w5 m hlt).2]
      obtain ⟨q1, q2⟩ := hE.2.2.2.2.1 m hlt
      have hnl : ¬ nI (E 0 5) ≤ nI m := nI_ge hlt (by omega)
      refine pk_lt τ (E 8 m) (fun ht => ?_) (fun ht => ?_) rfl rfl (by omega) (by omega)
      · refine ⟨vp_in_nI (by omega) (by decide), fun z => absurd z hnl, fun _ => ⟨fun _ => ?_, fun z => absurd (nI_lt ht (by omega)) z⟩⟩
        refine Or.inl ⟨rfl, fun z => ?_, m, rfl, h3, h1, h4⟩
        have := hE.2.2.2.2.2.1 m _ (nx_ge h3 h1 h4) z.1
        omega
      · refine pk_eq (E 9 m) j (fun he => ?_) (fun he => ?_) rfl rfl (by omega) (by omega)
        · refine ⟨vp_in_nI (by omega) (by decide), fun z => absurd z hnl, fun _ => ⟨fun z => absurd z (nI_nlt (by omega) (by omega)), fun _ => ?_⟩⟩
          have := nx_eq h3 hlt h4 he
          rw [this]
          exact Or.inr ⟨rfl, hlt, ht, rfl⟩
        · refine XF.to (ih (m + 1) (by omega) (by omega) (by omega) ?_) (by rw [nI_succ]) rfl rfl
          intro k z1 z2
          by_cases hkm : k = m
          · subst hkm; exact he
          · exact h4 k z1 (by omega)
theorem Znextb (hG : SH G) {I : xI} {E : aE} {S : aS} {τ j w : Nat} (hE : EI E) (hW : CW I G E w) (hD : CDb I E S τ) (hN : CNb I E S) (hj : j < E 0 0) (hh : sHd E j) (hτ : τ < 400) : XF fI l C mX5_nextWaiting 0 (xent mX5_nextWaiting [.ref 26, .ref w, .int (nI j)]) [] G I (fun v I' => (v = (-1) ∧ ¬ (sNx E S j < E 0 5 ∧ E 8 (sNx E S j) ≤ τ) ∧ ∃ N, I' = wI I 35 j (nI N) ∧ S.2 5 j ≤ N ∧ N ≤ E 0 5 ∧ ∀ k, S.2 5 j ≤ k → k < N → E 9 k ≠ j) ∨ (v = nI (sNx E S j) ∧ sNx E S j < E 0 5 ∧ E 8 (sNx E S j) ≤ τ ∧ I' = wI I 35 j (nI (sNx E S j)))) := by
  have hn4 := hE.2.1
  obtain ⟨N, n1, n2, n3, n4⟩ := hN j hj hh
  refine VX5_nextWaitingb hG hW.1 hW.2.1 I (nI j) ⟨vp_in_nI (by omega) (by decide), ?_⟩
  rw [nI_clamp (show j < 2 ^ 31 by omega), n1]
  exact Lnextb hG hE hW hD hj hτ (E 0 5 + 1) N n3 (by omega) n2 n4
def FHb (I I' : xI) : Prop := FC 26 I I' ∧ I' 34 = I 34 ∧ (∀ i, i ≠ 16 → i ≠ 17 → i ≠ 18 → I' 26 i = I 26 i)
theorem FHb.refl (I : xI) : FHb I I := ⟨FC.refl _ _, rfl, fun _ _ _ _ => rfl⟩
theorem FHb.trans {I1 I2 I3 : xI} (h1 : FHb I1 I2) (h2 : FHb I2 I3) : FHb I1 I3 := ⟨h1.1.trans h2.1, h2.2.1.trans h1.2.1, fun i a b c => (h2.2.2 i a b c).trans (h1.2.2 i a b c)⟩
theorem FHb.of {I1 I2 : xI} (h : FOb I1 I2) : FHb I1 I2 := ⟨h.1, h.2.1, h.2.2.2⟩
theorem FHb.w (I : xI) (j : Nat) (v : Int32) : FHb I (wI I 35 j v) := ⟨fun a ha => wI_ne _ _ _ (by omega), wI_ne _ _ _ (by decide), fun i _ _ _ => by rw [wI_ne _ _ _ (by decide)]⟩
theorem CBb_ext {I I' : xI} {E : aE} {S S' : aS} {τ : Nat} (h : CBb I E S τ) (e1 : I' 34 = I 34) (e2 : S'.2 6 = S.2 6) : CBb I' E S' τ := by
  unfold CBb at h ⊢
  rw [e1, e2]
  exact h
set_option maxHeartbeats 4000000 in
theorem Lheldb (hG : SH G) {I0 : xI} {E : aE} {S : aS} {τ p w : Nat} (hE : EI E) (hL0 : CL I0 G E) (hW0 : CW I0 G E w) (hB0 : CBb I0 E S τ) (hSI : SI E S τ) (hDI0 : DI E S p) (hτ : τ < 400) : ∀ (k i : Nat), i ≤ E 0 0 → E 0 0 < i + k → ∀ I, FHb I0 I → CDb I E (sHelds E τ S i) τ → CNb I E (sHelds E τ S i) → I 26 16 = nI (sUnd E (sHelds E τ S i)) → XF fV l C mX5_offerHeld 2 [some (.ref 26), some (.ref w), some (.int (nI i)), none] [] G I (fun _ I' => FHb I0 I' ∧ CDb I' E (sHelds E τ S (E 0 0)) τ ∧ CNb I' E (sHelds E τ S (E 0 0)) ∧ I' 26 16 = nI (sUnd E (sHelds E τ S (E 0 0)))) := by
  have hn4 := hE.2.1
  have hc := hE.2.2.2.1
  intro k
  induction k with
  | zero => intro i h1 h2; exact absurd h2 (by omega)
  | succ k ih =>
    intro i h1 h2 I hF hD hN hU
    have hL := CL_FC hL0 hF.1 (by decide) (by decide)
    have hW := CW_FC hW0 hF.1 (by decide)
    have hB := CBb_ext (S' := sHelds E τ S i) hB0 hF.2.1 (helds_H E S τ i)
    refine VX5_offerHeldb_2 hG hW.1 hW.2.1 I (nI i) (pk_le (E 0 0) i (fun hle => ?_) (fun hlt => ?_) hL.1 rfl)
    · have : i = E 0 0 := by omega
      subst this
      exact ⟨hF, hD, hN, hU⟩
    · obtain ⟨hI, hDI⟩ := helds_inv hE hSI hDI0 hτ i
      have kcl : (nI i).toNatClampNeg = i := nI_clamp (by omega)
      have hnext : sHelds E τ S (i + 1) = sHeld1 E τ (sHelds E τ S i) i := rfl
      refine ⟨_, Zwaitsb hG hE hL hD hlt, ?_⟩
      rintro v I1 ⟨v1, rfl⟩
      refine ⟨fun hv => ?_, fun hv => ?_⟩
      · have hh := v1.mp hv
        have e : sHelds E τ S (i + 1) = sHelds E τ S i := by
          rw [hnext]; unfold sHeld1; rw [if_neg (fun z => hh z.1)]
        exact XF.to (ih (i + 1) (by omega) (by omega) I1 hF (by rw [e]; exact hD) (by rw [e]; exact hN) (by rw [e]; exact hU)) (by rw [nI_succ]) rfl rfl
      · have hh : sHd E i := Classical.byContradiction (fun z => hv (v1.mpr z))
        refine ⟨_, Zhaltedb hG hE hL hB hlt hh, ?_⟩
        rintro v2 I2 ⟨v3, rfl⟩
        refine ⟨fun hv2 => ?_, fun hv2 => ?_⟩
        · have hst := v3.mp hv2
          refine ⟨_, Znextb hG hE hW hD hN hlt hh hτ, ?_⟩
          rintro v4 I3 (⟨rfl, z1, N, rfl, z2, z3, z4⟩ | ⟨rfl, z1, z2, rfl⟩)
          · refine ⟨fun _ => ?_, fun z => absurd rfl z⟩
            have e : sHelds E τ S (i + 1) = sHelds E τ S i := by
              rw [hnext]; unfold sHeld1; rw [if_neg (fun z => z1 z.2.2)]
            refine XF.to (ih (i + 1) (by omega) (by omega) _ (hF.trans (FHb.w _ _ _)) ?_ ?_ ?_) (by rw [nI_succ]) rfl rfl
            · rw [e]
              exact CDb_q hD (fun a _ _ y _ => wI_ne _ _ _ y) (fun x _ _ _ => by rw [wI_ne _ _ _ (by decide)])
            · rw [e]
              intro j hj hhj
              by_cases hji : j = i
              · subst hji
                exact ⟨N, by rw [wI_same, upd_same], z2, z3, z4⟩
              · obtain ⟨N2, a1, a2⟩ := hN j hj hhj
                exact ⟨N2, by rw [wI_same, upd_ne _ _ hji]; exact a1, a2⟩
            · rw [e, wI_ne _ _ _ (by decide)]; exact hU
          · have hge : (sHelds E τ S i).2 5 i ≤ sNx E (sHelds E τ S i) i := fdn_ge E i _ _
            have hPi := hDI.2.2.2 i
            have hat : E 9 (sNx E (sHelds E τ S i) i) = i := fdn_at E i _ _ (by unfold sNx at z1; omega)
            have hno : ∀ k, (sHelds E τ S i).2 5 i ≤ k → k < sNx E (sHelds E τ S i) i → E 9 k ≠ i := fdn_no E i _ _
            refine ⟨fun z => absurd (show nI (sNx E (sHelds E τ S i) i) < 0 by rw [z]; decide) (nI_pos (by omega)), fun _ => ?_⟩
            refine ⟨vp_in_nI (by omega) (by decide), ?_⟩
            rw [kcl, nI_1]
            have e : sHelds E τ S (i + 1) = sOff E (sHelds E τ S i) τ (sNx E (sHelds E τ S i) i) := by
              rw [hnext]; unfold sHeld1; rw [if_pos ⟨hh, hst, z1, z2⟩]
            have hFw : FHb I2 (wI (wI I2 35 i (nI (sNx E (sHelds E τ S i) i))) 35 i (nI (sNx E (sHelds E τ S i) i + 1))) := (FHb.w _ _ _).trans (FHb.w _ _ _)
            refine ⟨_, Zofferb hG hE hI (CL_FC hL hFw.1 (by decide) (by decide)) (CDb_q hD (fun a _ _ y _ => by rw [wI_ne _ _ _ y, wI_ne _ _ _ y]) (fun x _ _ _ => by rw [wI_ne _ _ _ (by decide), wI_ne _ _ _ (by decide)])) z1 (by rw [hat]; exact hge) hτ, ?_⟩
            rintro - I4 ⟨y1, y2, y3⟩
            refine XF.to (ih (i + 1) (by omega) (by omega) I4 ((hF.trans hFw).trans (FHb.of y2)) (by rw [e]; exact y1) ?_ ?_) (by rw [nI_succ]) rfl rfl
            · rw [e]
              intro j hj hhj
              rw [off_P, uN_i, hat, y2.2.2.1, wI_same, wI_same]
              by_cases hji : j = i
              · subst hji
                rw [if_pos rfl]
                exact ⟨_, by rw [upd_same], Nat.le_refl _, by omega, fun k q1 q2 => absurd q2 (by omega)⟩
              · rw [if_neg hji]
                obtain ⟨N2, a1, a2⟩ := hN j hj hhj
                exact ⟨N2, by rw [upd_ne _ _ hji, upd_ne _ _ hji]; exact a1, a2⟩
            · rw [e, y3, wI_ne _ _ _ (by decide), wI_ne _ _ _ (by decide), hU, ← und_off (τ := τ) z1 (by rw [hat]; exact hge) (by rw [hat]; exact hno), nI_pred]
        · have hst : sStop E τ (sHelds E τ S i) i := Classical.byContradiction (fun z => hv2 (v3.mpr z))
          have e : sHelds E τ S (i + 1) = sHelds E τ S i := by
            rw [hnext]; unfold sHeld1; rw [if_neg (fun z => z.2.1 hst)]
          exact XF.to (ih (i + 1) (by omega) (by omega) I2 hF (by rw [e]; exact hD) (by rw [e]; exact hN) (by rw [e]; exact hU)) (by rw [nI_succ]) rfl rfl
theorem Zheldb (hG : SH G) {I : xI} {E : aE} {S : aS} {τ p w : Nat} (hE : EI E) (hL : CL I G E) (hW : CW I G E w) (hB : CBb I E S τ) (hSI : SI E S τ) (hDI : DI E S p) (hτ : τ < 400) (hD : CDb I E S τ) (hN : CNb I E S) (hU : I 26 16 = nI (sUnd E S)) : XF fV l C mX5_offerHeld 0 (xent mX5_offerHeld [.ref 26, .ref w]) [] G I (fun _ I' => FHb I I' ∧ CDb I' E (sHelds E τ S (E 0 0)) τ ∧ CNb I' E (sHelds E τ S (E 0 0)) ∧ I' 26 16 = nI (sUnd E (sHelds E τ S (E 0 0)))) :=
  VX5_offerHeldb hG hW.1 hW.2.1 I (Lheldb hG hE hL hW hB hSI hDI hτ (E 0 0 + 1) 0 (by omega) (by omega) I (FHb.refl I) hD hN hU)
def FDb (I I' : xI) : Prop := FC 26 I I' ∧ I' 34 = I 34 ∧ I' 35 = I 35 ∧ (∀ i, i ≠ 13 → i ≠ 16 → i ≠ 17 → i ≠ 18 → I' 26 i = I 26 i)
set_option maxHeartbeats 4000000 in
theorem Ldueb (hG : SH G) {I0 : xI} {E : aE} {τ w : Nat} (hE : EI E) (hL0 : CL I0 G E) (hW0 : CW I0 G E w) (hτ : τ < 400) {R : aS × Nat} : ∀ (m p : Nat) (S : aS) (I : xI), m = E 0 5 - p → SI E S τ → DI E S p → FDb I0 I → CDb I E S τ → I 26 13 = nI p → I 26 16 = nI (sUnd E S) → sDue E τ m S p = R → XF fV l C mX5_offerDue 0 [some (.ref 26), some (.ref w)] [] G I (fun _ I' => FDb I0 I' ∧ CDb I' E R.1 τ ∧ I' 26 13 = nI R.2 ∧ I' 26 16 = nI (sUnd E R.1)) := by
  have hn4 := hE.2.1
  have hc := hE.2.2.2.1
  intro m
  induction m with
  | zero =>
    intro p S I hm hI hd hF hD h13 hU hR
    have hW := CW_FC hW0 hF.1 (by decide)
    have hp : p = E 0 5 := by have := hd.1; omega
    have hR2 : R = (S, p) := hR.symm
    subst hR2
    refine VX5_offerDueb_0 hG hW.1 hW.2.1 I (pk_le (E 0 5) p (fun _ => ⟨hF, hD, h13, hU⟩) (fun z => absurd z (by omega)) hW.2.2.2.1 h13)
  | succ m ih =>
    intro p S I hm hI hd hF hD h13 hU hR
    have hL := CL_FC hL0 hF.1 (by decide) (by decide)
    have hW := CW_FC hW0 hF.1 (by decide)
    refine VX5_offerDueb_0 hG hW.1 hW.2.1 I (pk_le (E 0 5) p (fun z => absurd z (by omega)) (fun hlt => ?_) hW.2.2.2.1 h13)
    obtain ⟨hl, h40⟩ := hE.2.2.2.2.1 p hlt
    rw [h13, nI_clamp (show p < 2 ^ 31 by omega), (hW.2.2.2.2 p hlt).1, (hW.2.2.2.2 p hlt).2, hD.2.2.1]
    refine ⟨vp_in_nI (by omega) (by decide), ?_⟩
    unfold sDue at hR
    refine pk_lt τ (E 8 p) (fun ht => ?_) (fun ht => ?_) rfl rfl (by omega) (by omega)
    · rw [if_neg (by omega)] at hR
      subst hR
      exact ⟨hF, hD, rfl, hU⟩
    · rw [if_pos ht] at hR
      obtain ⟨i1, i2⟩ := due1_inv hE hI hd hτ hlt
      refine ⟨_, Zwaitsb hG hE hL hD hl, ?_⟩
      rintro v I1 ⟨v1, rfl⟩
      refine ⟨fun hv => ?_, fun hv => ?_⟩
      · have hh := v1.mp hv
        rw [if_neg hh] at hR i1 i2
        rw [h13]
        refine ⟨_, Zofferb hG hE hI hL hD hlt (hd.2.1 _ hh) hτ, ?_⟩
        rintro - I2 ⟨y1, y2, y3⟩
        have h13' : I2 26 13 = nI p := by rw [y2.2.2.2 13 (by decide) (by decide) (by decide)]; exact h13
        refine ih (p + 1) _ _ (by omega) i1 i2 ?_ (CDb_q y1 (fun a z _ _ _ => wI_ne _ _ _ z) (fun x z _ _ => by rw [wI_same, upd_ne _ _ z])) ?_ ?_ hR
        · refine ⟨fun a ha => ?_, ?_, ?_, fun x z1 z2 z3 z4 => ?_⟩
          · rw [wI_ne _ _ _ (by omega), y2.1 a ha, hF.1 a ha]
          · rw [wI_ne _ _ _ (by decide), y2.2.1, hF.2.1]
          · rw [wI_ne _ _ _ (by decide), y2.2.2.1, hF.2.2.1]
          · rw [wI_same, upd_ne _ _ z1, y2.2.2.2 x z2 z3 z4, hF.2.2.2 x z1 z2 z3 z4]
        · rw [wI_same, upd_same, h13', nI_1]
        · rw [wI_same, upd_ne _ _ (by decide), y3, hU, ← und_off (τ := τ) hlt (hd.2.1 _ hh) (fun x z1 z2 z3 => by
            have := hd.2.2.1 x z2 (by rw [z3]; exact hh)
            rw [z3] at this
            omega), nI_pred]
      · have hh : sHd E (E 9 p) := Classical.byContradiction (fun z => hv (v1.mpr z))
        rw [if_pos hh] at hR i1 i2
        refine ih (p + 1) _ _ (by omega) i1 i2 ?_ (CDb_q hD (fun a z _ _ _ => wI_ne _ _ _ z) (fun x z _ _ => by rw [wI_same, upd_ne _ _ z])) ?_ ?_ hR
        · refine ⟨fun a ha => ?_, ?_, ?_, fun x z1 z2 z3 z4 => ?_⟩
          · rw [wI_ne _ _ _ (by omega), hF.1 a ha]
          · rw [wI_ne _ _ _ (by decide), hF.2.1]
          · rw [wI_ne _ _ _ (by decide), hF.2.2.1]
          · rw [wI_same, upd_ne _ _ z1, hF.2.2.2 x z1 z2 z3 z4]
        · rw [wI_same, upd_same, h13, nI_1]
        · rw [wI_same, upd_ne _ _ (by decide)]; exact hU
theorem Zdueb (hG : SH G) {I : xI} {E : aE} {S : aS} {τ p w : Nat} (hE : EI E) (hL : CL I G E) (hW : CW I G E w) (hτ : τ < 400) (hI : SI E S τ) (hd : DI E S p) (hD : CDb I E S τ) (h13 : I 26 13 = nI p) (hU : I 26 16 = nI (sUnd E S)) : XF fV l C mX5_offerDue 0 (xent mX5_offerDue [.ref 26, .ref w]) [] G I (fun _ I' => FDb I I' ∧ CDb I' E (sDue E τ (E 0 5 - p) S p).1 τ ∧ I' 26 13 = nI (sDue E τ (E 0 5 - p) S p).2 ∧ I' 26 16 = nI (sUnd E (sDue E τ (E 0 5 - p) S p).1)) :=
  Ldueb hG hE hL hW hτ (E 0 5 - p) p S I rfl hI hd ⟨FC.refl _ _, rfl, rfl, fun _ _ _ _ _ => rfl⟩ hD h13 hU rfl
end CRun
