/-! the class's run is the plain one: a letter (run b) -/
def CFb (I : xI) (E : aE) (S : aS) : Prop := ∀ k, k < E 0 5 → I 28 k = nI (E 9 k) ∧ I 29 k = nI (S.2 3 k) ∧ I 30 k = nI (S.2 0 k) ∧ I 31 k = nI (S.2 1 k) ∧ I 32 k = pI (S.2 2 k)
def CDb (I : xI) (E : aE) (S : aS) (τ : Nat) : Prop := I 26 10 = nI (E 0 3) ∧ I 26 11 = nI (1 - E 0 4) ∧ I 26 12 = nI τ ∧ I 26 14 = nI (E 0 5) ∧ I 26 17 = nI (sTot S) ∧ I 26 18 = nI (S.2 4 4) ∧ (∀ j, j < 4 → RQ I (36 + 2 * j) (S.1 j)) ∧ CFb I E S ∧ (∀ j, j < 4 → I 33 j = nI (S.2 4 j)) ∧ (E 0 3 = 1 → I 3 3 = nI (E 0 2))
def FOb (I I' : xI) : Prop := FC 26 I I' ∧ I' 34 = I 34 ∧ I' 35 = I 35 ∧ (∀ i, i ≠ 16 → i ≠ 17 → i ≠ 18 → I' 26 i = I 26 i)
theorem FOb.refl (I : xI) : FOb I I := ⟨FC.refl _ _, rfl, rfl, fun _ _ _ _ => rfl⟩
theorem FOb.trans {I1 I2 I3 : xI} (h1 : FOb I1 I2) (h2 : FOb I2 I3) : FOb I1 I3 := ⟨h1.1.trans h2.1, h2.2.1.trans h1.2.1, h2.2.2.1.trans h1.2.2.1, fun i a b c => (h2.2.2.2 i a b c).trans (h1.2.2.2 i a b c)⟩
theorem CDb_pt {I : xI} {E : aE} {S : aS} {τ : Nat} (l k : Nat) (h : CDb I E S τ) : CDb I E (sPt S l k) τ := by
  unfold CDb CFb at h ⊢
  have e : ∀ a, a ≠ 5 → (sPt S l k).2 a = S.2 a := fun a ha => by funext i; simp [sPt, uN, ha]
  rw [e 0 (by decide), e 1 (by decide), e 2 (by decide), e 3 (by decide), e 4 (by decide)]
  exact h
theorem qb_len {I : xI} {E : aE} {S : aS} {τ : Nat} (h : CDb I E S τ) {j : Nat} (hj : j < 4) : I (36 + 2 * j) 2 = nI (sLen S j) := by
  obtain ⟨hd, -, -, h2, -⟩ := h.2.2.2.2.2.2.1 j hj
  exact h2
section CRun
variable {l : Launch} {C : xC} {G : xG}
theorem Zsettleb (hG : SH G) (I : xI) {k : Nat} (f t : Int32) (hk : k < 80) : XF fV l C mX5_settle 0 (xent mX5_settle [.ref 26, .int (nI k), .int f, .int t]) [] G I (fun _ I' => I' = wI (wI I 30 k f) 31 k t) := by
  refine VX5_settleb hG I (nI k) f t ⟨vp_in_nI hk (by decide), ?_⟩
  rw [nI_clamp (show k < 2 ^ 31 by omega)]
theorem Lroomb (hG : SH G) {I : xI} {E : aE} {S : aS} {τ : Nat} (hE : EI E) (hI : SI E S τ) (hL : CL I G E) (hD : CDb I E S τ) : ∀ (k i : Nat), i ≤ E 0 0 → E 0 0 < i + k → XF fI l C mX5_hasRoomBeside 4 [some (.ref 26), some (.int (nI (sCnt E S i))), some (.int (nI i))] [] G I (fun v I' => v = (if E 0 1 ≤ sCnt E S (E 0 0) then 0 else 1) ∧ I' = I) := by
  have hn4 := hE.2.1
  have hB := hE.2.2.1
  have h48 := cnt48 hE hI
  intro k
  induction k with
  | zero => intro i h1 h2; exact absurd h2 (by omega)
  | succ k ih =>
    intro i h1 h2
    refine VX5_hasRoomBesideb_4 hG I (nI (sCnt E S i)) (nI i) (pk_le (E 0 0) i (fun hle => ?_) (fun hlt => ?_) hL.1 rfl)
    · have : i = E 0 0 := by omega
      subst this
      refine pk_le (E 0 1) (sCnt E S (E 0 0)) (fun hc => ?_) (fun hc => ?_) hL.2.1 rfl
      · rw [if_pos hc]; exact ⟨rfl, rfl⟩
      · rw [if_neg (by omega)]; exact ⟨rfl, rfl⟩
    · rw [nI_clamp (show i < 2 ^ 31 by omega)]
      refine ⟨vp_in_nI (by omega) (by decide), (hL.2.2 i hlt).1, ?_⟩
      have h12 := len12 hE hI (show i < 4 by omega)
      have hp : sPart E i ≤ 12 := by
        obtain ⟨e1, -, -, -, e4, -⟩ := hE.2.2.2.2.2.2.1 i hlt
        unfold sPart
        split <;> omega
      rw [kpt_eq hL hlt, qb_len hD (show i < 4 by omega)]
      refine XF.to (ih (i + 1) (by omega) (by omega)) ?_ rfl rfl
      have : nI (sCnt E S i) + (if nI (sLen S i) < nI (sPart E i) then nI (sPart E i) else nI (sLen S i)) = nI (sCnt E S (i + 1)) := by
        show _ = nI (sCnt E S i + max (sLen S i) (sPart E i))
        rw [← nI_add]
        congr 1
        by_cases hc : sLen S i < sPart E i
        · rw [if_pos (nI_lt hc (by omega))]; congr 1; omega
        · rw [if_neg (nI_nlt (by omega) (by omega))]; congr 1; omega
      rw [this, nI_succ]
theorem Zroomb (hG : SH G) {I : xI} {E : aE} {S : aS} {τ : Nat} (hE : EI E) (hI : SI E S τ) (hL : CL I G E) (hD : CDb I E S τ) : XF fI l C mX5_hasRoomBeside 0 (xent mX5_hasRoomBeside [.ref 26]) [] G I (fun v I' => v = (if E 0 1 ≤ sCnt E S (E 0 0) then 0 else 1) ∧ I' = I) :=
  VX5_hasRoomBesideb hG I (Lroomb hG hE hI hL hD (E 0 0 + 1) 0 (by omega) (by omega))
theorem CFb_push {I : xI} {E : aE} {S : aS} {τ lo k : Nat} (h : CFb I E S) (hτ : τ < 400) : CFb (wI (wI (wI I 30 ((S.1 lo).getLastD 0) 2) 31 ((S.1 lo).getLastD 0) (nI τ)) 32 ((S.1 lo).getLastD 0) (nI k)) E (sPush S τ lo k) := by
  intro i hi
  obtain ⟨a1, a2, a3, a4, a5⟩ := h i hi
  generalize hg : (S.1 lo).getLastD 0 = g at *
  have e : (sPush S τ lo k).2 = uN (uN (uN S.2 0 g 2) 1 g τ) 2 g (k + 1) := by unfold sPush; rw [hg]
  rw [e]
  refine ⟨?_, ?_, ?_, ?_, ?_⟩
  · rw [wI_ne _ _ _ (by decide), wI_ne _ _ _ (by decide), wI_ne _ _ _ (by decide)]; exact a1
  · rw [wI_ne _ _ _ (by decide), wI_ne _ _ _ (by decide), wI_ne _ _ _ (by decide), uN_a _ _ _ (by decide), uN_a _ _ _ (by decide), uN_a _ _ _ (by decide)]; exact a2
  · rw [wI_ne _ _ _ (by decide), wI_ne _ _ _ (by decide), wI_same, uN_a _ _ _ (by decide), uN_a _ _ _ (by decide), uN_i]
    by_cases hig : i = g
    · subst hig; rw [upd_same, if_pos rfl]; rfl
    · rw [upd_ne _ _ hig, if_neg hig]; exact a3
  · rw [wI_ne _ _ _ (by decide), wI_same, wI_ne _ _ _ (by decide), uN_a _ _ _ (by decide), uN_i, uN_a _ _ _ (by decide)]
    by_cases hig : i = g
    · subst hig; rw [upd_same, if_pos rfl]
    · rw [upd_ne _ _ hig, if_neg hig]; exact a4
  · rw [wI_same, wI_ne _ _ _ (by decide), wI_ne _ _ _ (by decide), uN_i, uN_a _ _ _ (by decide), uN_a _ _ _ (by decide)]
    by_cases hig : i = g
    · subst hig; rw [upd_same, if_pos rfl]; simp [pI]
    · rw [upd_ne _ _ hig, if_neg hig]; exact a5
set_option maxHeartbeats 4000000 in
theorem Lpushb (hG : SH G) {I : xI} {E : aE} {S : aS} {τ k lx : Nat} (hE : EI E) (hI : SI E S τ) (hL : CL I G E) (hD : CDb I E S τ) (hk : k < E 0 5) (hlx : lx < 4) (hτ : τ < 400) : ∀ (m i : Nat), i + 1 ≤ E 0 0 → E 0 0 < i + m → XF fI l C mX5_pushesOut 5 [some (.ref 26), some (.int (nI k)), some (.int (nI (sLen S lx))), some (.int (nI (sLg S i))), some (.int (nI (i + 1)))] [] G I (fun v I' => (v = 1 ∧ sLen S lx + 1 < sLen S (sLg S (E 0 0 - 1)) ∧ CDb I' E (sPush S τ (sLg S (E 0 0 - 1)) k) τ ∧ FOb I I' ∧ I' 26 16 = I 26 16) ∨ (v = 0 ∧ ¬ sLen S lx + 1 < sLen S (sLg S (E 0 0 - 1)) ∧ I' = I)) := by
  have hn4 := hE.2.1
  have hc := hE.2.2.2.1
  intro m
  induction m with
  | zero => intro i h1 h2; exact absurd h2 (by omega)
  | succ m ih =>
    intro i h1 h2
    have hlg := sLg_le S i
    have kl : (nI (sLg S i)).toNatClampNeg = sLg S i := nI_clamp (by omega)
    refine VX5_pushesOutb_5 hG I (nI k) (nI (sLen S lx)) (nI (sLg S i)) (nI (i + 1)) (pk_le (E 0 0) (i + 1) (fun hle => ?_) (fun hlt => ?_) hL.1 rfl)
    · have hin : i = E 0 0 - 1 := by omega
      rw [← hin, kl]
      have hlo4 : sLg S i < 4 := by omega
      have a := len12 hE hI hlo4
      have b := len12 hE hI hlx
      refine ⟨vp_in_nI hlo4 (by decide), ?_⟩
      rw [qb_len hD hlo4, nI_1]
      refine pk_lt _ _ (fun hlt => ?_) (fun hge => ?_) rfl rfl (by omega) (by omega)
      · obtain ⟨d1, d2, d3, d4, d5, d6, d7, d8, d9, d10⟩ := hD
        have hne : 0 < (S.1 (sLg S i)).length := by unfold sLen at hlt; omega
        refine ⟨_, Zlast hG (QU36 hG hlo4) (d7 _ hlo4) hne, ?_⟩
        rintro v I1 ⟨rfl, r1, r2⟩
        have hg80 : (S.1 (sLg S i)).getLastD 0 < 80 := by
          have hne' : S.1 (sLg S i) ≠ [] := by intro e; rw [e] at hne; simp at hne
          obtain ⟨g, Lq, hLq⟩ : ∃ g Lq, S.1 (sLg S i) = Lq ++ [g] := ⟨_, _, (List.dropLast_concat_getLast hne').symm⟩
          have hm : (S.1 (sLg S i)).getLastD 0 ∈ S.1 (sLg S i) := by rw [hLq]; simp
          have := (hI.1 _ hlo4 _ hm).1
          omega
        have e8 : I1 26 = I 26 := r2 _ (by omega) (by omega)
        refine ⟨_, Zsettleb hG _ 2 (I1 26 12) hg80, ?_⟩
        rintro - I2 rfl
        refine ⟨vp_in_nI hg80 (by decide), Or.inl ⟨rfl, hlt, ?_, ?_, ?_⟩⟩
        · rw [nI_clamp (show (S.1 (sLg S i)).getLastD 0 < 2 ^ 31 by omega), e8, d3]
          have hI1 : CFb (wI I1 26 17 (I 26 17 - 1)) E S := by
            intro x hx
            rw [wI_ne _ _ _ (by decide), wI_ne _ _ _ (by decide), wI_ne _ _ _ (by decide), wI_ne _ _ _ (by decide), wI_ne _ _ _ (by decide), r2 _ (by omega) (by omega), r2 _ (by omega) (by omega), r2 _ (by omega) (by omega), r2 _ (by omega) (by omega), r2 _ (by omega) (by omega)]
            exact d8 x hx
          have hps := SI_push hE hI hk hlo4 (show 0 < sLen S (sLg S i) from hne) hτ
          refine ⟨?_, ?_, ?_, ?_, ?_, ?_, ?_, CFb_push hI1 hτ, ?_, ?_⟩
          · rw [wI_ne _ _ _ (by decide), wI_ne _ _ _ (by decide), wI_ne _ _ _ (by decide), wI_same, upd_ne _ _ (by decide), e8]; exact d1
          · rw [wI_ne _ _ _ (by decide), wI_ne _ _ _ (by decide), wI_ne _ _ _ (by decide), wI_same, upd_ne _ _ (by decide), e8]; exact d2
          · rw [wI_ne _ _ _ (by decide), wI_ne _ _ _ (by decide), wI_ne _ _ _ (by decide), wI_same, upd_ne _ _ (by decide), e8]; exact d3
          · rw [wI_ne _ _ _ (by decide), wI_ne _ _ _ (by decide), wI_ne _ _ _ (by decide), wI_same, upd_ne _ _ (by decide), e8]; exact d4
          · rw [wI_ne _ _ _ (by decide), wI_ne _ _ _ (by decide), wI_ne _ _ _ (by decide), wI_same, upd_same, d5, ← hps.2, nI_pred]
          · rw [wI_ne _ _ _ (by decide), wI_ne _ _ _ (by decide), wI_ne _ _ _ (by decide), wI_same, upd_ne _ _ (by decide), e8, d6, show (sPush S τ (sLg S i) k).2 4 = S.2 4 from by funext x; simp [sPush, uN]]
          · intro j hj
            by_cases hjl : j = sLg S i
            · subst hjl
              rw [show (sPush S τ (sLg S i) k).1 (sLg S i) = (S.1 (sLg S i)).dropLast from by simp [sPush, uQ]]
              refine RQ_ext r1 ?_ ?_
              · rw [wI_ne _ _ _ (by omega), wI_ne _ _ _ (by omega), wI_ne _ _ _ (by omega), wI_ne _ _ _ (by omega)]
              · rw [wI_ne _ _ _ (by omega), wI_ne _ _ _ (by omega), wI_ne _ _ _ (by omega), wI_ne _ _ _ (by omega)]
            · rw [show (sPush S τ (sLg S i) k).1 j = S.1 j from by simp [sPush, uQ, hjl]]
              refine RQ_ext (d7 j hj) ?_ ?_
              · rw [wI_ne _ _ _ (by omega), wI_ne _ _ _ (by omega), wI_ne _ _ _ (by omega), wI_ne _ _ _ (by omega), r2 _ (by omega) (by omega)]
              · rw [wI_ne _ _ _ (by omega), wI_ne _ _ _ (by omega), wI_ne _ _ _ (by omega), wI_ne _ _ _ (by omega), r2 _ (by omega) (by omega)]
          · intro j hj
            rw [wI_ne _ _ _ (by decide), wI_ne _ _ _ (by decide), wI_ne _ _ _ (by decide), wI_ne _ _ _ (by decide), r2 _ (by omega) (by omega), show (sPush S τ (sLg S i) k).2 4 = S.2 4 from by funext x; simp [sPush, uN]]
            exact d9 j hj
          · intro z
            rw [wI_ne _ _ _ (by decide), wI_ne _ _ _ (by decide), wI_ne _ _ _ (by decide), wI_ne _ _ _ (by decide), r2 _ (by omega) (by omega)]
            exact d10 z
        · refine ⟨fun a ha => ?_, ?_, ?_, fun x z1 z2 z3 => ?_⟩
          · rw [wI_ne _ _ _ (by omega), wI_ne _ _ _ (by omega), wI_ne _ _ _ (by omega), wI_ne _ _ _ (by omega), r2 _ (by omega) (by omega)]
          · rw [wI_ne _ _ _ (by decide), wI_ne _ _ _ (by decide), wI_ne _ _ _ (by decide), wI_ne _ _ _ (by decide), r2 _ (by omega) (by omega)]
          · rw [wI_ne _ _ _ (by decide), wI_ne _ _ _ (by decide), wI_ne _ _ _ (by decide), wI_ne _ _ _ (by decide), r2 _ (by omega) (by omega)]
          · rw [wI_ne _ _ _ (by decide), wI_ne _ _ _ (by decide), wI_ne _ _ _ (by decide), wI_same, upd_ne _ _ z2, e8]
        · rw [wI_ne _ _ _ (by decide), wI_ne _ _ _ (by decide), wI_ne _ _ _ (by decide), wI_same, upd_ne _ _ (by decide), e8]
      · exact Or.inr ⟨rfl, by omega, rfl⟩
    · have hi4 : i + 1 < 4 := by omega
      have hlo4 : sLg S i < 4 := by omega
      have a := len12 hE hI hlo4
      have b := len12 hE hI hi4
      have ki : (nI (i + 1)).toNatClampNeg = i + 1 := nI_clamp (by omega)
      refine ⟨vp_in_nI hi4 (by decide), vp_in_nI hlo4 (by decide), ?_⟩
      rw [kl, ki, qb_len hD hlo4, qb_len hD hi4]
      have hnx : sLg S (i + 1) = if sLen S (i + 1) < sLen S (sLg S i) then sLg S i else i + 1 := rfl
      refine pk_lt _ _ (fun hl => ?_) (fun hl => ?_) rfl rfl (by omega) (by omega)
      · refine XF.to (ih (i + 1) (by omega) (by omega)) ?_ rfl rfl
        rw [hnx, if_pos hl, nI_1]
      · refine XF.to (ih (i + 1) (by omega) (by omega)) ?_ rfl rfl
        rw [hnx, if_neg (by omega), nI_1]
theorem Zpushb (hG : SH G) {I : xI} {E : aE} {S : aS} {τ k lx : Nat} (hE : EI E) (hI : SI E S τ) (hL : CL I G E) (hD : CDb I E S τ) (hk : k < E 0 5) (hlx : lx < 4) (hτ : τ < 400) : XF fI l C mX5_pushesOut 0 (xent mX5_pushesOut [.ref 26, .int (nI k), .int (nI (sLen S lx))]) [] G I (fun v I' => (v = 1 ∧ sLen S lx + 1 < sLen S (sLg S (E 0 0 - 1)) ∧ CDb I' E (sPush S τ (sLg S (E 0 0 - 1)) k) τ ∧ FOb I I' ∧ I' 26 16 = I 26 16) ∨ (v = 0 ∧ ¬ sLen S lx + 1 < sLen S (sLg S (E 0 0 - 1)) ∧ I' = I)) :=
  VX5_pushesOutb hG I (nI k) (nI (sLen S lx)) (Lpushb hG hE hI hL hD hk hlx hτ (E 0 0 + 1) 0 (by have := hE.1; omega) (by omega))
end CRun
