/-! the class's run is the plain one: a tick's end (run a) -/
section CRun
variable {l : Launch} {C : xC} {G : xG}
def FBa (I I' : xI) : Prop := FC 8 I I' ∧ I' 16 = I 16 ∧ I' 17 = I 17 ∧ (∀ i, i ≠ 17 → I' 8 i = I 8 i)
set_option maxHeartbeats 4000000 in
theorem Lfirstsa (hG : SH G) {I0 : xI} {E : aE} {S : aS} {τ : Nat} (hE : EI E) (hL0 : CL I0 G E) (hSI : SI E S τ) (hτ : τ < 400) : ∀ (k i : Nat), i ≤ E 0 0 → E 0 0 < i + k → ∀ I, FBa I0 I → CDa I E (sSends E τ S i) τ → XF fV l C mX5_sendFirsts 2 [some (.ref 8), some (.int (nI i))] [] G I (fun _ I' => FBa I0 I' ∧ CDa I' E (sSends E τ S (E 0 0)) τ) := by
  have hn4 := hE.2.1
  have hc := hE.2.2.2.1
  intro k
  induction k with
  | zero => intro i h1 h2; exact absurd h2 (by omega)
  | succ k ih =>
    intro i h1 h2 I hF hD
    have hL := CL_FC hL0 hF.1 (by decide) (by decide)
    refine VX5_sendFirstsa_2 hG I (nI i) (pk_le (E 0 0) i (fun hle => ?_) (fun hlt => ?_) hL.1 rfl)
    · have : i = E 0 0 := by omega
      subst this
      exact ⟨hF, hD⟩
    · have hi4 : i < 4 := by omega
      have hI := SI_sends hE hSI hτ i (by omega)
      have kcl : (nI i).toNatClampNeg = i := nI_clamp (by omega)
      have hnext : sSends E τ S (i + 1) = sSend1 E τ (sSends E τ S i) i := rfl
      have hl12 := len12 hE hI hi4
      obtain ⟨-, -, hpa, hpb, -⟩ := hE.2.2.2.2.2.2.1 i hlt
      obtain ⟨c1, c2, c3, c4, c5, c6, -⟩ := hL.2.2 i hlt
      rw [kcl, qa_len hD hi4, c6, hD.2.2.1]
      refine ⟨vp_in_nI hi4 (by decide), pk_le _ 0 (fun hz => ?_) (fun hz => ?_) rfl rfl (by omega) (by omega)⟩
      · have e : sSends E τ S (i + 1) = sSends E τ S i := by
          rw [hnext]
          unfold sSend1
          rw [if_pos (List.length_eq_zero_iff.mp (by unfold sLen at hz; omega))]
        exact XF.to (ih (i + 1) (by omega) (by omega) I hF (by rw [e]; exact hD)) (by rw [nI_succ]) rfl rfl
      · have hne : ¬ (sSends E τ S i).1 i = [] := by intro z; unfold sLen at hz; rw [z] at hz; simp at hz
        refine ⟨c1, fun hr => ?_, fun hr => ?_⟩
        · have hr2 := (SA_iff hτ hpa hpb).mp hr
          obtain ⟨g, L, hL2⟩ : ∃ g L, (sSends E τ S i).1 i = g :: L := by
            cases hq : (sSends E τ S i).1 i with
            | nil => exact absurd hq hne
            | cons g L => exact ⟨g, L, rfl⟩
          have hgc := (hI.1 i hi4 g (by rw [hL2]; simp)).1
          have e : sSends E τ S (i + 1) = (uQ (sSends E τ S i).1 i L, uN (uN (sSends E τ S i).2 0 g 0) 1 g τ) := by
            rw [hnext]
            unfold sSend1
            rw [if_neg hne, if_pos hr2, hL2]
            rfl
          have htot : sTot (sSends E τ S i) = sTot (sSends E τ S (i + 1)) + 1 := by
            rw [e]
            have q := sTot_uQ (sSends E τ S i).1 (uN (uN (sSends E τ S i).2 0 g 0) 1 g τ) L hi4
            have q2 : sTot ((sSends E τ S i).1, uN (uN (sSends E τ S i).2 0 g 0) 1 g τ) = sTot (sSends E τ S i) := rfl
            have q3 : ((sSends E τ S i).1 i).length = L.length + 1 := by rw [hL2]; simp
            omega
          obtain ⟨d1, d2, d3, d4, d5, d6, d7, d8, d9, d10⟩ := hD
          refine ⟨_, Zfirst hG (QU18 hG hi4) (by rw [← hL2]; exact d7 i hi4), ?_⟩
          rintro v I1 ⟨rfl, r1, r2⟩
          have e8 : I1 8 = I 8 := r2 _ (by omega) (by omega)
          refine ⟨_, Zsettlea hG I1 0 (I1 8 12) (show g < 80 by omega), ?_⟩
          rintro - I2 rfl
          rw [wI_ne _ _ _ (show (8 : Nat) ≠ 13 by decide), wI_ne _ _ _ (show (8 : Nat) ≠ 12 by decide), e8, d3, d5]
          have ne : ∀ a, a ≠ 8 → a ≠ 12 → a ≠ 13 → (wI (wI (wI I1 12 g 0) 13 g (nI τ)) 8 17 (nI (sTot (sSends E τ S i)) - 1)) a = I1 a := fun a z1 z2 z3 => by rw [wI_ne _ _ _ z1, wI_ne _ _ _ z3, wI_ne _ _ _ z2]
          have nq : ∀ x, x ≠ 17 → (wI (wI (wI I1 12 g 0) 13 g (nI τ)) 8 17 (nI (sTot (sSends E τ S i)) - 1)) 8 x = I 8 x := fun x z => by rw [wI_same, upd_ne _ _ z, wI_ne _ _ _ (by decide), wI_ne _ _ _ (by decide), e8]
          refine XF.to (ih (i + 1) (by omega) (by omega) _ ⟨fun a ha => ?_, ?_, ?_, fun x z => ?_⟩ ?_) (by rw [nI_succ]) rfl rfl
          · rw [ne a (by omega) (by omega) (by omega), r2 a (by omega) (by omega), hF.1 a ha]
          · rw [ne _ (by decide) (by decide) (by decide), r2 _ (by omega) (by omega), hF.2.1]
          · rw [ne _ (by decide) (by decide) (by decide), r2 _ (by omega) (by omega), hF.2.2.1]
          · rw [nq x z, hF.2.2.2 x z]
          · refine ⟨by rw [nq _ (by decide)]; exact d1, by rw [nq _ (by decide)]; exact d2, by rw [nq _ (by decide)]; exact d3, by rw [nq _ (by decide)]; exact d4, ?_, ?_, ?_, ?_, ?_, ?_⟩
            · rw [wI_same, upd_same, htot, nI_pred]
            · rw [nq _ (by decide), d6, e]; simp [uN]
            · intro j hj
              by_cases hji : j = i
              · subst hji
                rw [e]
                dsimp only
                rw [uQ_at]
                exact RQ_ext r1 (ne _ (by omega) (by omega) (by omega)) (ne _ (by omega) (by omega) (by omega))
              · rw [e]
                dsimp only
                rw [uQ_ne _ _ hji]
                refine RQ_ext (d7 j hj) ?_ ?_
                · rw [ne _ (by omega) (by omega) (by omega), r2 _ (by omega) (by omega)]
                · rw [ne _ (by omega) (by omega) (by omega), r2 _ (by omega) (by omega)]
            · intro x hx
              obtain ⟨q1, q2, q3, q4, q5⟩ := d8 x hx
              rw [ne 10 (by decide) (by decide) (by decide), ne 11 (by decide) (by decide) (by decide), ne 14 (by decide) (by decide) (by decide), r2 10 (by omega) (by omega), r2 11 (by omega) (by omega), r2 14 (by omega) (by omega), e]
              dsimp only
              refine ⟨q1, by rw [q2]; simp [uN], ?_, ?_, by rw [q5]; simp [uN]⟩
              · rw [wI_ne _ _ _ (by decide), wI_ne _ _ _ (by decide), wI_same, uN_a _ _ _ (by decide), uN_i, r2 12 (by omega) (by omega)]
                by_cases hxg : x = g
                · subst hxg; rw [upd_same, if_pos rfl]; rfl
                · rw [upd_ne _ _ hxg, if_neg hxg]; exact q3
              · rw [wI_ne _ _ _ (by decide), wI_same, wI_ne _ _ _ (by decide), uN_i, uN_a _ _ _ (by decide), r2 13 (by omega) (by omega)]
                by_cases hxg : x = g
                · subst hxg; rw [upd_same, if_pos rfl]
                · rw [upd_ne _ _ hxg, if_neg hxg]; exact q4
            · intro j hj
              rw [ne _ (by decide) (by decide) (by decide), r2 _ (by omega) (by omega), d9 j hj, e]; simp [uN]
            · intro z
              rw [ne _ (by decide) (by decide) (by decide), r2 _ (by omega) (by omega)]; exact d10 z
        · have e : sSends E τ S (i + 1) = sSends E τ S i := by
            rw [hnext]
            unfold sSend1
            rw [if_neg hne, if_neg (fun z => hr ((SA_iff hτ hpa hpb).mpr z))]
          exact XF.to (ih (i + 1) (by omega) (by omega) I hF (by rw [e]; exact hD)) (by rw [nI_succ]) rfl rfl
theorem Zfirstsa (hG : SH G) {I : xI} {E : aE} {S : aS} {τ : Nat} (hE : EI E) (hL : CL I G E) (hSI : SI E S τ) (hτ : τ < 400) (hD : CDa I E S τ) : XF fV l C mX5_sendFirsts 0 (xent mX5_sendFirsts [.ref 8]) [] G I (fun _ I' => FBa I I' ∧ CDa I' E (sSends E τ S (E 0 0)) τ) :=
  VX5_sendFirstsa hG I (Lfirstsa hG hE hL hSI hτ (E 0 0 + 1) 0 (by omega) (by omega) I ⟨FC.refl _ _, rfl, rfl, fun _ _ => rfl⟩ hD)
def TBa (I0 I : xI) (E : aE) (S : aS) (τ i : Nat) : Prop := (∀ a, a ≠ 16 → I a = I0 a) ∧ (∀ j, i ≤ j → I 16 j = I0 16 j) ∧ (∀ j, j < i → j < E 0 0 → E 1 j = 2 → I 16 j = (I0 16 j <<< (1 &&& 31)) ||| nI (sHl E τ S j))
set_option maxHeartbeats 4000000 in
theorem Ltella (hG : SH G) {I0 : xI} {E : aE} {S : aS} {τ : Nat} (hE : EI E) (hL0 : CL I0 G E) (hSI : SI E S τ) (hτ : τ < 400) (hD0 : CDa I0 E S τ) (hB : CBa I0 E S τ) : ∀ (k i : Nat), i ≤ E 0 0 → E 0 0 < i + k → ∀ I, TBa I0 I E S τ i → XF fV l C mX5_tellStates 2 [some (.ref 8), some (.int (nI i)), none, none] [] G I (fun _ I' => TBa I0 I' E S τ (E 0 0)) := by
  have hn4 := hE.2.1
  intro k
  induction k with
  | zero => intro i h1 h2; exact absurd h2 (by omega)
  | succ k ih =>
    intro i h1 h2 I hT
    refine VX5_tellStatesa_2 hG I (nI i) (pk_le (E 0 0) i (fun hle => ?_) (fun hlt => ?_) (by rw [hT.1 3 (by decide)]; exact hL0.1) rfl)
    · have : i = E 0 0 := by omega
      subst this
      exact hT
    · have hi4 : i < 4 := by omega
      have kcl : (nI i).toNatClampNeg = i := nI_clamp (by omega)
      obtain ⟨c1, c2, c3, c4, c5, c6, c7, c8⟩ := hL0.2.2 i hlt
      obtain ⟨-, -, -, -, -, e5, e6, -⟩ := hE.2.2.2.2.2.2.1 i hlt
      have hl12 := len12 hE hSI hi4
      rw [kcl, hT.1 (18 + 2 * i) (by omega), qa_len hD0 hi4, hT.2.1 i (Nat.le_refl _)]
      refine ⟨vp_in_nI hi4 (by decide), c1, fun hh => ?_, fun hh => ?_⟩
      · have hk2 := c4.mp hh
        obtain ⟨k3, k4, k5⟩ := c8 hk2
        obtain ⟨b1, b2⟩ := hB i hlt
        have hb0 := b2 hk2 0 (by omega)
        rw [hb_0] at hb0
        have hprev : (if 0 < τ then S.2 6 (400 * i + (τ - 1 - 0)) else 0) ≤ 1 := by
          split
          · exact b1 _ (by omega)
          · omega
        have step : ∀ (b : Int32) (hb : b = 0 ↔ (if 0 < τ then S.2 6 (400 * i + (τ - 1 - 0)) else 0) = 0), (∃ Qc : Int32 → xI → Prop, XF fI l C mX1_tellsHalt 0 (xent mX1_tellsHalt [.ref (gR G 4 i), .int (nI (sLen S i)), .int b]) [] G I Qc ∧ ∀ (v_62 : Int32) (I_62 : xI), Qc v_62 I_62 → ((v_62 = 0 → XF fV l C mX5_tellStates 2 [some (.ref 8), some (.int (nI i + 1)), none, none] [] G (wI I_62 16 i (((I_62 16 i) <<< (1 &&& 31)) ||| 0)) (fun _ I' => TBa I0 I' E S τ (E 0 0))) ∧ (¬ (v_62 = 0) → XF fV l C mX5_tellStates 2 [some (.ref 8), some (.int (nI i + 1)), none, none] [] G (wI I_62 16 i (((I_62 16 i) <<< (1 &&& 31)) ||| 1)) (fun _ I' => TBa I0 I' E S τ (E 0 0))))) := by
          intro b hb
          have hA : I (gR G 4 i) = I0 (gR G 4 i) := hT.1 _ (by omega)
          refine ⟨fun v I' => v = nI (sHl E τ S i) ∧ I' = I, ?_, ?_⟩
          · refine VX1_tellsHalt hG (c1.held hh) I (nI (sLen S i)) b ?_
            rw [hA, k3, k4]
            refine pk_lt _ _ (fun z => ?_) (fun z => ?_) rfl rfl (by omega) (by omega)
            · refine pk_le _ _ (fun z2 => ?_) (fun z2 => ?_) rfl rfl (by omega) (by omega)
              · refine ⟨?_, rfl⟩; unfold sHl; rw [if_neg (by omega), if_pos z2]; rfl
              · refine ⟨fun z3 => ⟨?_, rfl⟩, fun z3 => ⟨?_, rfl⟩⟩
                · unfold sHl
                  rw [if_neg (by omega), if_neg (by omega)]
                  have := hb.mp z3
                  by_cases ht : τ = 0
                  · rw [if_pos ht]; rfl
                  · rw [if_neg ht]; rw [if_pos (by omega)] at this; rw [Nat.sub_zero] at this; rw [this]; rfl
                · unfold sHl
                  rw [if_neg (by omega), if_neg (by omega)]
                  have hn : ¬ (if 0 < τ then S.2 6 (400 * i + (τ - 1 - 0)) else 0) = 0 := fun q => z3 (hb.mpr q)
                  by_cases ht : τ = 0
                  · rw [if_neg (by omega)] at hn; exact absurd rfl hn
                  · rw [if_neg ht]; rw [if_pos (by omega), Nat.sub_zero] at hn hprev; rw [show S.2 6 (400 * i + (τ - 1)) = 1 by omega]; rfl
            · refine ⟨?_, rfl⟩; unfold sHl; rw [if_pos z]; rfl
          · rintro v I' ⟨rfl, rfl⟩
            have hle : sHl E τ S i ≤ 1 := hl_le (fun hp => by have := b1 (τ - 1) (by omega); exact this)
            have fin : ∀ d, d ≤ 1 → sHl E τ S i = d → XF fV l C mX5_tellStates 2 [some (.ref 8), some (.int (nI i + 1)), none, none] [] G (wI I' 16 i (((I' 16 i) <<< (1 &&& 31)) ||| nI d)) (fun _ I' => TBa I0 I' E S τ (E 0 0)) := by
              intro d hd he
              refine XF.to (ih (i + 1) (by omega) (by omega) _ ⟨fun a z => ?_, fun j hj => ?_, fun j hj hjn hk => ?_⟩) (by rw [nI_succ]) rfl rfl
              · rw [wI_ne _ _ _ z, hT.1 a z]
              · rw [wI_same, upd_ne _ _ (by omega)]; exact hT.2.1 j (by omega)
              · rw [wI_same]
                by_cases hji : j = i
                · subst hji; rw [upd_same, hT.2.1 j (Nat.le_refl _), he]
                · rw [upd_ne _ _ hji]; exact hT.2.2 j (by omega) hjn hk
            refine pk_eq _ 0 (fun z => ?_) (fun z => ?_) rfl rfl (by omega) (by omega)
            · exact fin 0 (by omega) z
            · exact fin 1 (by omega) (by omega)
        rw [hb0]
        refine pk_eq _ 1 (fun z => ?_) (fun z => ?_) rfl rfl (by omega) (by omega)
        · exact step 1 ⟨fun q => absurd q (by decide), fun q => by omega⟩
        · exact step 0 ⟨fun _ => by omega, fun _ => rfl⟩
      · refine XF.to (ih (i + 1) (by omega) (by omega) I ⟨hT.1, fun j hj => hT.2.1 j (by omega), fun j hj hjn hk => ?_⟩) (by rw [nI_succ]) rfl rfl
        by_cases hji : j = i
        · subst hji; exact absurd (c4.mpr hk) hh
        · exact hT.2.2 j (by omega) hjn hk
theorem Ztella (hG : SH G) {I : xI} {E : aE} {S : aS} {τ : Nat} (hE : EI E) (hL : CL I G E) (hSI : SI E S τ) (hτ : τ < 400) (hD : CDa I E S τ) (hB : CBa I E S τ) : XF fV l C mX5_tellStates 0 (xent mX5_tellStates [.ref 8]) [] G I (fun _ I' => TBa I I' E S τ (E 0 0)) :=
  VX5_tellStatesa hG I (Ltella hG hE hL hSI hτ hD hB (E 0 0 + 1) 0 (by omega) (by omega) I ⟨fun _ _ => rfl, fun _ _ => rfl, fun j hj => absurd hj (by omega)⟩)
theorem CBa_end {I I' : xI} {E : aE} {S : aS} {τ : Nat} (hτ : τ < 400) (hB : CBa I E S τ) (hT : TBa I I' E S τ (E 0 0)) : CBa I' E (sTells E τ S (E 0 0)) (τ + 1) := by
  intro j hj
  obtain ⟨b1, b2⟩ := hB j hj
  have hle : sHl E τ S j ≤ 1 := hl_le (fun hp => b1 _ (by omega))
  refine ⟨fun t ht => ?_, fun hk b hb => ?_⟩
  · by_cases htt : t = τ
    · subst htt; rw [tells_6y hτ _ _ hj]; exact hle
    · rw [tells_6n _ _ (fun i hi => by omega)]; exact b1 t (by omega)
  · rw [hT.2.2 j hj hj hk]
    obtain ⟨s1, s2⟩ := hb_shl (I 16 j) hle
    rw [hb_bit _ hb]
    cases b with
    | zero =>
      rw [s1, if_pos (show 0 < τ + 1 by omega), show τ + 1 - 1 - 0 = τ by omega, tells_6y hτ _ _ hj]
      by_cases hd : sHl E τ S j = 1
      · simp [hd]; rfl
      · have : sHl E τ S j = 0 := by omega
        simp [this]; rfl
    | succ b =>
      rw [s2 b (by omega), ← hb_bit _ (show b ≤ 5 by omega), b2 hk b (by omega)]
      by_cases hbt : b < τ
      · rw [if_pos hbt, if_pos (by omega), show τ + 1 - 1 - (b + 1) = τ - 1 - b by omega, tells_6n _ _ (fun i hi => by omega)]
      · rw [if_neg hbt, if_neg (by omega)]
end CRun
