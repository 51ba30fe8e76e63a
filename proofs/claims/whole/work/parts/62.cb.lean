/-! the class's run is the plain one: an offered letter (run b) -/
section CRun
variable {l : Launch} {C : xC} {G : xG}
set_option maxHeartbeats 4000000 in
theorem Zadmitsb (hG : SH G) {I : xI} {E : aE} {S : aS} {τ k : Nat} (hE : EI E) (hI : SI E S τ) (hL : CL I G E) (hD : CDb I E S τ) (hk : k < E 0 5) (hτ : τ < 400) : XF fI l C mX5_admits 0 (xent mX5_admits [.ref 26, .int (nI k)]) [] G I (fun v I' => (v = 0 ↔ sAdm E S (E 9 k) = 0) ∧ CDb I' E (if sAdm E S (E 9 k) = 2 then sPush S τ (sLg S (E 0 0 - 1)) k else S) τ ∧ FOb I I' ∧ I' 26 16 = I 26 16) := by
  have hn4 := hE.2.1
  have hc := hE.2.2.2.1
  have hB := hE.2.2.1
  obtain ⟨hln, -⟩ := hE.2.2.2.2.1 k hk
  have hl4 : E 9 k < 4 := by omega
  obtain ⟨ea, er, -⟩ := hE.2.2.2.2.2.2.2
  obtain ⟨e1, e2, -, -, e4, -⟩ := hE.2.2.2.2.2.2.1 _ hln
  obtain ⟨c1, c2, c3, c4, c5, c6, c7, c8⟩ := hL.2.2 _ hln
  have a := len12 hE hI hl4
  have ht := hI.2.2.2.2.2.1
  have hlx := (hD.2.2.2.2.2.2.2.1 k hk).1
  have hfree : I 3 2 - I 26 17 = nI (E 0 1 - sTot S) := by rw [hL.2.1, hD.2.2.2.2.1, pk_sub ht]
  refine VX5_admitsb hG I (nI k) ?_
  rw [nI_clamp (show k < 2 ^ 31 by omega), hlx, nI_clamp (show E 9 k < 2 ^ 31 by omega), hfree, qb_len hD hl4, c5]
  refine ⟨vp_in_nI (by omega) (by decide), vp_in_nI hl4 (by decide), ?_⟩
  have fin : ∀ v : Int32, (v = 0 ↔ sAdm E S (E 9 k) = 0) → sAdm E S (E 9 k) ≠ 2 → (v = 0 ↔ sAdm E S (E 9 k) = 0) ∧ CDb I E (if sAdm E S (E 9 k) = 2 then sPush S τ (sLg S (E 0 0 - 1)) k else S) τ ∧ FOb I I ∧ I 26 16 = I 26 16 := by
    intro v h1 h2
    rw [if_neg h2]
    exact ⟨h1, hD, FOb.refl I, rfl⟩
  refine pk_eq (E 0 3) 0 (fun r0 => ?_) (fun r0 => ?_) hD.1 rfl
  · have hadm : sAdm E S (E 9 k) = if E 2 (E 9 k) ≤ sLen S (E 9 k) then 0 else if E 0 1 ≤ sTot S then 0 else 1 := by unfold sAdm; rw [if_pos r0]
    refine ⟨c1, pk_le _ _ (fun z => ?_) (fun z => ?_) rfl rfl (by omega) (by omega)⟩
    · exact fin 0 (by rw [hadm, if_pos z]; simp) (by rw [hadm, if_pos z]; omega)
    · refine pk_le _ 0 (fun z2 => ?_) (fun z2 => ?_) rfl rfl (by omega) (by omega)
      · exact fin 0 (by rw [hadm, if_neg (by omega), if_pos (by omega)]; simp) (by rw [hadm, if_neg (by omega), if_pos (by omega)]; omega)
      · exact fin 1 (by rw [hadm, if_neg (by omega), if_neg (by omega)]; decide) (by rw [hadm, if_neg (by omega), if_neg (by omega)]; omega)
  · refine pk_eq (E 0 3) 1 (fun r1 => ?_) (fun r1 => ?_) hD.1 rfl
    · have hadm : sAdm E S (E 9 k) = if E 0 2 * (E 0 1 - sTot S) ≤ 16 * sLen S (E 9 k) then 0 else if E 0 1 ≤ sTot S then 0 else 1 := by unfold sAdm; rw [if_neg r0, if_pos r1]
      have hml : E 0 2 * (E 0 1 - sTot S) ≤ 160 * 12 := Nat.mul_le_mul ea (by omega)
      rw [hD.2.2.2.2.2.2.2.2.2 r1, pk_mul, show (16 : Int32) = nI 16 from rfl, pk_mul]
      refine pk_le _ _ (fun z => ?_) (fun z => ?_) rfl rfl (by omega) (by omega)
      · exact fin 0 (by rw [hadm, if_pos z]; simp) (by rw [hadm, if_pos z]; omega)
      · refine pk_le _ 0 (fun z2 => ?_) (fun z2 => ?_) rfl rfl (by omega) (by omega)
        · exact fin 0 (by rw [hadm, if_neg (by omega), if_pos (by omega)]; simp) (by rw [hadm, if_neg (by omega), if_pos (by omega)]; omega)
        · exact fin 1 (by rw [hadm, if_neg (by omega), if_neg (by omega)]; decide) (by rw [hadm, if_neg (by omega), if_neg (by omega)]; omega)
    · refine pk_eq (E 0 3) 2 (fun r2 => ?_) (fun r2 => ?_) hD.1 rfl
      · have hadm : sAdm E S (E 9 k) = if sTot S < E 0 1 then 1 else if sLen S (E 9 k) + 1 < sLen S (sLg S (E 0 0 - 1)) then 2 else 0 := by unfold sAdm; rw [if_neg r0, if_neg r1, if_neg (by omega)]
        refine pk_lt 0 _ (fun z => ?_) (fun z => ?_) rfl rfl (by omega) (by omega)
        · exact fin 1 (by rw [hadm, if_pos (by omega)]; decide) (by rw [hadm, if_pos (by omega)]; omega)
        · refine ⟨_, Zpushb hG hE hI hL hD hk hl4 hτ, ?_⟩
          rintro v I1 (⟨rfl, p1, p2, p3, p4⟩ | ⟨rfl, p1, rfl⟩)
          · refine ⟨fun z => absurd z (by decide), fun _ => ?_⟩
            have : sAdm E S (E 9 k) = 2 := by rw [hadm, if_neg (by omega), if_pos p1]
            refine ⟨by rw [this]; decide, by rw [if_pos this]; exact p2, p3, p4⟩
          · refine ⟨fun _ => ?_, fun z => absurd rfl z⟩
            have : sAdm E S (E 9 k) = 0 := by rw [hadm, if_neg (by omega), if_neg p1]
            exact fin 0 (by rw [this]; simp) (by rw [this]; omega)
      · have r3 : E 0 3 = 3 := by omega
        have hadm : sAdm E S (E 9 k) = if E 1 (E 9 k) ≠ 0 ∧ sLen S (E 9 k) < E 4 (E 9 k) then 1 else if E 0 1 ≤ sCnt E S (E 0 0) then 0 else 1 := by unfold sAdm; rw [if_neg r0, if_neg r1, if_pos r3]
        have hpq : (sLen S (E 9 k) < sPart E (E 9 k)) ↔ (E 1 (E 9 k) ≠ 0 ∧ sLen S (E 9 k) < E 4 (E 9 k)) := by
          unfold sPart
          by_cases z : E 1 (E 9 k) = 0
          · rw [if_pos z]; omega
          · rw [if_neg z]; omega
        have hp12 : sPart E (E 9 k) ≤ 12 := by unfold sPart; split <;> omega
        rw [kpt_eq hL hln]
        refine ⟨c1, pk_lt _ _ (fun z => ?_) (fun z => ?_) rfl rfl (by omega) (by omega)⟩
        · have z2 := hpq.mp z
          exact fin 1 (by rw [hadm, if_pos z2]; decide) (by rw [hadm, if_pos z2]; omega)
        · have z2 : ¬ (E 1 (E 9 k) ≠ 0 ∧ sLen S (E 9 k) < E 4 (E 9 k)) := fun q => by have := hpq.mpr q; omega
          refine ⟨_, Zroomb hG hE hI hL hD, ?_⟩
          rintro v I1 ⟨rfl, rfl⟩
          by_cases z3 : E 0 1 ≤ sCnt E S (E 0 0)
          · rw [if_pos z3]
            refine ⟨fun _ => ?_, fun q => absurd rfl q⟩
            exact fin 0 (by rw [hadm, if_neg z2, if_pos z3]; simp) (by rw [hadm, if_neg z2, if_pos z3]; omega)
          · rw [if_neg z3]
            refine ⟨fun q => absurd q (by decide), fun _ => ?_⟩
            exact fin 1 (by rw [hadm, if_neg z2, if_neg z3]; decide) (by rw [hadm, if_neg z2, if_neg z3]; omega)
set_option maxHeartbeats 4000000 in
theorem Ztakeb (hG : SH G) {I : xI} {E : aE} {S : aS} {τ k : Nat} (hE : EI E) (hD : CDb I E S τ) (hk : k < E 0 5) (ht : sTot S < E 0 1) (hpk : ∀ j, j < 4 → S.2 4 j ≤ 12) (hp4 : S.2 4 4 ≤ 12) : XF fV l C mX5_take 0 (xent mX5_take [.ref 26, .int (nI k)]) [] G I (fun _ I' => CDb I' E (sTake S τ k (E 9 k)) τ ∧ FOb I I' ∧ I' 26 16 = I 26 16) := by
  have hn4 := hE.2.1
  have hc := hE.2.2.2.1
  have hB := hE.2.2.1
  obtain ⟨hln, -⟩ := hE.2.2.2.2.1 k hk
  have hl4 : E 9 k < 4 := by omega
  have hlen : sLen S (E 9 k) < 12 := by have := len_le_tot S hl4; omega
  have hlx := (hD.2.2.2.2.2.2.2.1 k hk).1
  obtain ⟨d1, d2, d3, d4, d5, d6, d7, d8, d9, d10⟩ := hD
  refine VX5_takeb hG I (nI k) ?_
  rw [nI_clamp (show k < 2 ^ 31 by omega), hlx, nI_clamp (show E 9 k < 2 ^ 31 by omega)]
  generalize hl : E 9 k = lx at *
  refine ⟨vp_in_nI (by omega) (by decide), vp_in_nI hl4 (by decide), _, Zadd hG (QU36 hG hl4) (d7 lx hl4) hlen k, ?_⟩
  rintro - I1 ⟨r1, r2⟩
  have e8 : I1 26 = I 26 := r2 _ (by omega) (by omega)
  have e3 : I1 29 = I 29 := r2 _ (by omega) (by omega)
  have e7 : I1 33 = I 33 := r2 _ (by omega) (by omega)
  have hsz : I1 (36 + 2 * lx) 2 = nI (sLen S lx + 1) := by
    obtain ⟨-, -, -, q, -⟩ := r1
    rw [q]
    simp [sLen]
  have hpl := hpk lx hl4
  rw [wI_ne _ _ _ (show 36 + 2 * lx ≠ 26 by omega), wI_ne _ _ _ (show 36 + 2 * lx ≠ 29 by omega), hsz, e8, e7, d9 lx hl4, d5, d6, d3, nI_1, nI_max2 (by omega) (by omega), nI_max2 (by omega) (by omega)]
  have ne : ∀ a, a ≠ 26 → a ≠ 29 → a ≠ 33 → a ≠ 36 + 2 * lx → a ≠ 36 + 2 * lx + 1 → (wI (wI (wI (wI I1 29 k (nI τ)) 26 17 (nI (sTot S + 1))) 33 lx (nI (max (S.2 4 lx) (sLen S lx + 1)))) 26 18 (nI (max (S.2 4 4) (sTot S + 1)))) a = I a := by
    intro a z1 z2 z3 z4 z5
    rw [wI_ne _ _ _ z1, wI_ne _ _ _ z3, wI_ne _ _ _ z1, wI_ne _ _ _ z2, r2 a z4 z5]
  have e0 : (sTake S τ k lx).2 0 = S.2 0 := by funext i; simp [sTake, uN]
  have e1 : (sTake S τ k lx).2 1 = S.2 1 := by funext i; simp [sTake, uN]
  have e2 : (sTake S τ k lx).2 2 = S.2 2 := by funext i; simp [sTake, uN]
  have e3' : (sTake S τ k lx).2 3 = uN S.2 3 k τ 3 := by funext i; simp [sTake, uN]
  have e44 : (sTake S τ k lx).2 4 4 = max (S.2 4 4) (sTot S + 1) := by simp [sTake, uN]
  have e4j : ∀ j, j < 4 → (sTake S τ k lx).2 4 j = if j = lx then max (S.2 4 lx) (sLen S lx + 1) else S.2 4 j := by
    intro j hj
    have : j ≠ 4 := by omega
    simp [sTake, uN, this]
  have htt : sTot (sTake S τ k lx) = sTot S + 1 := by
    have := sTot_uQ S.1 (sTake S τ k lx).2 (S.1 lx ++ [k]) hl4
    simp only [List.length_append, List.length_singleton] at this
    have q1 : sTot (sTake S τ k lx) = sTot (uQ S.1 lx (S.1 lx ++ [k]), (sTake S τ k lx).2) := rfl
    have q2 : sTot (S.1, (sTake S τ k lx).2) = sTot S := rfl
    omega
  refine ⟨⟨?_, ?_, ?_, ?_, ?_, ?_, ?_, ?_, ?_, ?_⟩, ⟨?_, ?_, ?_, ?_⟩, ?_⟩
  · rw [wI_same, upd_ne _ _ (by decide), wI_ne _ _ _ (by decide), wI_same, upd_ne _ _ (by decide), wI_ne _ _ _ (by decide), e8]; exact d1
  · rw [wI_same, upd_ne _ _ (by decide), wI_ne _ _ _ (by decide), wI_same, upd_ne _ _ (by decide), wI_ne _ _ _ (by decide), e8]; exact d2
  · rw [wI_same, upd_ne _ _ (by decide), wI_ne _ _ _ (by decide), wI_same, upd_ne _ _ (by decide), wI_ne _ _ _ (by decide), e8]; exact d3
  · rw [wI_same, upd_ne _ _ (by decide), wI_ne _ _ _ (by decide), wI_same, upd_ne _ _ (by decide), wI_ne _ _ _ (by decide), e8]; exact d4
  · rw [wI_same, upd_ne _ _ (by decide), wI_ne _ _ _ (by decide), wI_same, upd_same, htt]
  · rw [wI_same, upd_same, e44]
  · intro j hj
    by_cases hjl : j = lx
    · subst hjl
      rw [show (sTake S τ k j).1 j = S.1 j ++ [k] from by simp [sTake, uQ]]
      refine RQ_ext r1 ?_ ?_
      · rw [wI_ne _ _ _ (by omega), wI_ne _ _ _ (by omega), wI_ne _ _ _ (by omega), wI_ne _ _ _ (by omega)]
      · rw [wI_ne _ _ _ (by omega), wI_ne _ _ _ (by omega), wI_ne _ _ _ (by omega), wI_ne _ _ _ (by omega)]
    · rw [show (sTake S τ k lx).1 j = S.1 j from by simp [sTake, uQ, hjl]]
      exact RQ_ext (d7 j hj) (ne _ (by omega) (by omega) (by omega) (by omega) (by omega)) (ne _ (by omega) (by omega) (by omega) (by omega) (by omega))
  · intro i hi
    obtain ⟨q1, q2, q3, q4, q5⟩ := d8 i hi
    rw [ne 28 (by omega) (by omega) (by omega) (by omega) (by omega), ne 30 (by omega) (by omega) (by omega) (by omega) (by omega), ne 31 (by omega) (by omega) (by omega) (by omega) (by omega), ne 32 (by omega) (by omega) (by omega) (by omega) (by omega), e0, e1, e2, e3', uN_i]
    refine ⟨q1, ?_, q3, q4, q5⟩
    rw [wI_ne _ _ _ (by decide), wI_ne _ _ _ (by decide), wI_ne _ _ _ (by decide), wI_same, e3]
    by_cases hik : i = k
    · subst hik; rw [upd_same, if_pos rfl]
    · rw [upd_ne _ _ hik, if_neg hik]; exact q2
  · intro j hj
    rw [wI_ne _ _ _ (by decide), wI_same, wI_ne _ _ _ (by decide), wI_ne _ _ _ (by decide), e7, e4j j hj]
    by_cases hjl : j = lx
    · subst hjl; rw [upd_same, if_pos rfl]
    · rw [upd_ne _ _ hjl, if_neg hjl]; exact d9 j hj
  · intro z
    rw [ne 3 (by omega) (by omega) (by omega) (by omega) (by omega)]
    exact d10 z
  · intro a ha
    exact ne a (by omega) (by omega) (by omega) (by omega) (by omega)
  · exact ne 34 (by omega) (by omega) (by omega) (by omega) (by omega)
  · exact ne 35 (by omega) (by omega) (by omega) (by omega) (by omega)
  · intro i z1 z2 z3
    rw [wI_same, upd_ne _ _ z3, wI_ne _ _ _ (by decide), wI_same, upd_ne _ _ z2, wI_ne _ _ _ (by decide), e8]
  · rw [wI_same, upd_ne _ _ (by decide), wI_ne _ _ _ (by decide), wI_same, upd_ne _ _ (by decide), wI_ne _ _ _ (by decide), e8]
theorem CDb_q {I I' : xI} {E : aE} {S : aS} {τ : Nat} (h : CDb I E S τ) (h1 : ∀ a, a ≠ 26 → a ≠ 34 → a ≠ 35 → a < 26 + 18 → I' a = I a) (h2 : ∀ i, i ≠ 13 → i ≠ 15 → i ≠ 16 → I' 26 i = I 26 i) : CDb I' E S τ := by
  obtain ⟨d1, d2, d3, d4, d5, d6, d7, d8, d9, d10⟩ := h
  refine ⟨by rw [h2 10 (by decide) (by decide) (by decide)]; exact d1, by rw [h2 11 (by decide) (by decide) (by decide)]; exact d2, by rw [h2 12 (by decide) (by decide) (by decide)]; exact d3, by rw [h2 14 (by decide) (by decide) (by decide)]; exact d4, by rw [h2 17 (by decide) (by decide) (by decide)]; exact d5, by rw [h2 18 (by decide) (by decide) (by decide)]; exact d6, fun j hj => RQ_ext (d7 j hj) (h1 _ (by omega) (by omega) (by omega) (by omega)) (h1 _ (by omega) (by omega) (by omega) (by omega)), fun k hk => ?_, fun j hj => ?_, fun z => ?_⟩
  · rw [h1 28 (by decide) (by decide) (by decide) (by decide), h1 29 (by decide) (by decide) (by decide) (by decide), h1 30 (by decide) (by decide) (by decide) (by decide), h1 31 (by decide) (by decide) (by decide) (by decide), h1 32 (by decide) (by decide) (by decide) (by decide)]
    exact d8 k hk
  · rw [h1 33 (by decide) (by decide) (by decide) (by decide)]; exact d9 j hj
  · rw [h1 3 (by decide) (by decide) (by decide) (by decide)]; exact d10 z
set_option maxHeartbeats 4000000 in
theorem Zofferb (hG : SH G) {I : xI} {E : aE} {S : aS} {τ k : Nat} (hE : EI E) (hI : SI E S τ) (hL : CL I G E) (hD : CDb I E S τ) (hk : k < E 0 5) (hp : S.2 5 (E 9 k) ≤ k) (hτ : τ < 400) : XF fV l C mX5_offer 0 (xent mX5_offer [.ref 26, .int (nI k)]) [] G I (fun _ I' => CDb I' E (sOff E S τ k) τ ∧ FOb I I' ∧ I' 26 16 = I 26 16 - 1) := by
  have hn4 := hE.2.1
  have hn1 := hE.1
  have hB := hE.2.2.1
  have hc := hE.2.2.2.1
  have had := adm_le E S (E 9 k)
  have hF0 : FC 26 I (wI I 26 16 (I 26 16 - 1)) := fun a ha => wI_ne _ _ _ (by omega)
  have hFO : FOb I (wI I 26 16 (I 26 16 - 1)) := ⟨hF0, wI_ne _ _ _ (by decide), wI_ne _ _ _ (by decide), fun i z1 z2 z3 => by rw [wI_same, upd_ne _ _ z1]⟩
  have hD0 : CDb (wI I 26 16 (I 26 16 - 1)) E S τ := CDb_q hD (fun a z1 _ _ _ => wI_ne _ _ _ z1) (fun i z1 z2 z3 => by rw [wI_same, upd_ne _ _ z3])
  refine VX5_offerb hG I (nI k) ⟨_, Zadmitsb hG hE hI (CL_FC hL hF0 (by decide) (by decide)) hD0 hk hτ, ?_⟩
  rintro v I1 ⟨v1, v2, v3, v4⟩
  have h16 : I1 26 16 = I 26 16 - 1 := by rw [v4, wI_same, upd_same]
  refine ⟨fun hv => ?_, fun hv => ?_⟩
  · have h0 := v1.mp hv
    rw [if_neg (by omega)] at v2
    refine ⟨_, Zsettleb hG I1 1 (I1 26 12) (show k < 80 by omega), ?_⟩
    rintro - I2 rfl
    unfold sOff
    rw [if_pos h0]
    have e : ∀ a, a ≠ 5 → a ≠ 0 → a ≠ 1 → (sRef (sPt S (E 9 k) k) τ k).2 a = S.2 a := fun a z1 z2 z3 => by funext i; simp [sRef, sPt, uN, z1, z2, z3]
    obtain ⟨d1, d2, d3, d4, d5, d6, d7, d8, d9, d10⟩ := v2
    have ne : ∀ a, a ≠ 30 → a ≠ 31 → (wI (wI I1 30 k 1) 31 k (I1 26 12)) a = I1 a := fun a z1 z2 => by rw [wI_ne _ _ _ z2, wI_ne _ _ _ z1]
    refine ⟨⟨?_, ?_, ?_, ?_, ?_, ?_, ?_, ?_, ?_, ?_⟩, (hFO.trans v3).trans ⟨fun a ha => ne a (by omega) (by omega), ne _ (by decide) (by decide), ne _ (by decide) (by decide), fun i _ _ _ => by rw [ne _ (by decide) (by decide)]⟩, ?_⟩
    · rw [ne _ (by decide) (by decide)]; exact d1
    · rw [ne _ (by decide) (by decide)]; exact d2
    · rw [ne _ (by decide) (by decide)]; exact d3
    · rw [ne _ (by decide) (by decide)]; exact d4
    · rw [ne _ (by decide) (by decide)]; exact d5
    · rw [ne _ (by decide) (by decide), e 4 (by decide) (by decide) (by decide)]; exact d6
    · intro j hj
      exact RQ_ext (d7 j hj) (ne _ (by omega) (by omega)) (ne _ (by omega) (by omega))
    · intro i hi
      obtain ⟨q1, q2, q3, q4, q5⟩ := d8 i hi
      rw [ne 28 (by decide) (by decide), ne 29 (by decide) (by decide), ne 32 (by decide) (by decide), e 3 (by decide) (by decide) (by decide), e 2 (by decide) (by decide) (by decide), show (sRef (sPt S (E 9 k) k) τ k).2 0 = uN S.2 0 k 1 0 from by funext i; simp [sRef, sPt, uN], show (sRef (sPt S (E 9 k) k) τ k).2 1 = uN S.2 1 k τ 1 from by funext i; simp [sRef, sPt, uN], uN_i, uN_i]
      refine ⟨q1, q2, ?_, ?_, q5⟩
      · rw [wI_ne _ _ _ (by decide), wI_same]
        by_cases hik : i = k
        · subst hik; rw [upd_same, if_pos rfl]; rfl
        · rw [upd_ne _ _ hik, if_neg hik]; exact q3
      · rw [wI_same, wI_ne _ _ _ (by decide)]
        by_cases hik : i = k
        · subst hik; rw [upd_same, if_pos rfl]; exact d3
        · rw [upd_ne _ _ hik, if_neg hik]; exact q4
    · intro j hj
      rw [ne _ (by decide) (by decide), e 4 (by decide) (by decide) (by decide)]; exact d9 j hj
    · intro z
      rw [ne _ (by decide) (by decide)]; exact d10 z
    · rw [ne _ (by decide) (by decide)]; exact h16
  · have h0 : ¬ sAdm E S (E 9 k) = 0 := fun z => hv (v1.mpr z)
    have hoff : SI E (sOff E S τ k) τ := SI_off hE hI hk hp hτ
    unfold sOff at hoff ⊢
    rw [if_neg h0] at hoff ⊢
    by_cases h1 : sAdm E S (E 9 k) = 1
    · rw [if_pos h1] at hoff ⊢
      rw [if_neg (by omega)] at v2
      have htot : sTot S < E 0 1 := by
        have := hoff.2.2.2.2.2.1
        have q := sTot_uQ S.1 (sTake (sPt S (E 9 k) k) τ k (E 9 k)).2 (S.1 (E 9 k) ++ [k]) (show E 9 k < 4 by have := hE.2.2.2.2.1 k hk; omega)
        simp only [List.length_append, List.length_singleton] at q
        have q1 : sTot (sTake (sPt S (E 9 k) k) τ k (E 9 k)) = sTot (uQ S.1 (E 9 k) (S.1 (E 9 k) ++ [k]), (sTake (sPt S (E 9 k) k) τ k (E 9 k)).2) := rfl
        have q2 : sTot (S.1, (sTake (sPt S (E 9 k) k) τ k (E 9 k)).2) = sTot S := rfl
        omega
      have e4 : (sPt S (E 9 k) k).2 4 = S.2 4 := by funext i; simp [sPt, uN]
      refine ⟨_, Ztakeb hG hE (CDb_pt (E 9 k) k v2) hk htot (fun j hj => by rw [e4]; have := hI.2.2.2.2.2.2.2.1 j hj; omega) (by rw [e4]; have := hI.2.2.2.2.2.2.2.2.2.1; omega), ?_⟩
      rintro - I2 ⟨w1, w2, w3⟩
      exact ⟨w1, (hFO.trans v3).trans w2, by rw [w3, h16]⟩
    · have h2 : sAdm E S (E 9 k) = 2 := by omega
      rw [if_neg h1] at hoff ⊢
      rw [if_pos h2] at v2
      have hlt := adm_2 h2
      have hlo4 : sLg S (E 0 0 - 1) < 4 := by have := sLg_le S (E 0 0 - 1); omega
      obtain ⟨p1, p2⟩ := SI_push hE hI hk hlo4 (show 0 < sLen S (sLg S (E 0 0 - 1)) by omega) hτ
      rw [push_pt]
      have e4 : (sPt (sPush S τ (sLg S (E 0 0 - 1)) k) (E 9 k) k).2 4 = (sPush S τ (sLg S (E 0 0 - 1)) k).2 4 := by funext i; simp [sPt, uN]
      refine ⟨_, Ztakeb hG hE (CDb_pt (E 9 k) k v2) hk (show sTot (sPush S τ (sLg S (E 0 0 - 1)) k) < E 0 1 by have := hI.2.2.2.2.2.1; omega) (fun j hj => by rw [e4]; have := p1.2.2.2.2.2.2.2.1 j hj; omega) (by rw [e4]; have := p1.2.2.2.2.2.2.2.2.2.1; omega), ?_⟩
      rintro - I2 ⟨w1, w2, w3⟩
      exact ⟨w1, (hFO.trans v3).trans w2, by rw [w3, h16]⟩
end CRun
