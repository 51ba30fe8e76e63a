/-! the reference's run is the plain one: a tick's end -/
theorem MD_send {K : xI} {E : aE} {S : aS} {τ j : Nat} (hE : EI E) (hI : SI E S τ) (hP : ∀ j, S.2 5 j ≤ E 0 5) (h : MD K E S τ) (hj : j < 4) {g : Nat} {L : List Nat} (hL : S.1 j = g :: L) (hτ : τ < 400) : (K 85 (80 * nI j + K 87 j).toNatClampNeg = nI g ∧ vp_in (80 * nI j + K 87 j) 320) ∧ MD (wI (wI (tX10_ends K g 0) 87 j (K 87 j + 1)) 86 j (K 86 j - 1)) E (uQ S.1 j L, uN (uN S.2 0 g 0) 1 g τ) τ := by
  have hc := hE.2.2.2.1
  obtain ⟨t0, t1, t2, t3, t4⟩ := h
  obtain ⟨s, q1, q2, q3, q4⟩ := t1 j hj
  have hPj := hP j
  have hlen : (S.1 j).length = L.length + 1 := by rw [hL]; simp
  have hix : (80 : Int32) * nI j + K 87 j = nI (80 * j + s) := by rw [q1, show (80 : Int32) = nI 80 from rfl, pk_mul, nI_add]
  have hgm : g ∈ S.1 j := by rw [hL]; simp
  obtain ⟨g1, -⟩ := hI.1 j hj g hgm
  have hg0 : K 85 (80 * j + s) = nI g := by
    have := q4 0 (by omega)
    simpa [hL] using this
  refine ⟨⟨by rw [hix, nI_clamp (by omega)]; exact hg0, by rw [hix]; exact vp_in_nI (by omega) (by decide)⟩, ?_⟩
  have ne : ∀ a, a ≠ 86 → a ≠ 87 → a ≠ 91 → a ≠ 92 → (wI (wI (tX10_ends K g 0) 87 j (K 87 j + 1)) 86 j (K 86 j - 1)) a = K a := by
    intro a h1 h2 h3 h4
    rw [wI_ne _ _ _ h1, wI_ne _ _ _ h2, ends_ne _ _ _ h3 h4]
  refine ⟨?_, ?_, ?_, ?_, ?_⟩
  · rw [ne 69 (by decide) (by decide) (by decide) (by decide)]; exact t0
  · intro i hi
    obtain ⟨s2, a1, a2, a3, a4⟩ := t1 i hi
    by_cases hij : i = j
    · subst hij
      have eq : uQ S.1 i L i = L := uQ_at _ _ _
      refine ⟨s + 1, ?_, ?_, ?_, ?_⟩
      · rw [wI_ne _ _ _ (by decide), wI_same, upd_same, q1, nI_1]
      · dsimp only; rw [wI_same, upd_same, q2, eq, hlen, nI_pred]
      · dsimp only; rw [eq]
        show s + 1 + L.length ≤ uN (uN S.2 0 g 0) 1 g τ 5 i
        rw [uN_a _ _ _ (by decide), uN_a _ _ _ (by decide)]
        omega
      · rw [ne 85 (by decide) (by decide) (by decide) (by decide)]
        intro t ht
        simp only [eq] at ht ⊢
        have := q4 (t + 1) (by omega)
        rw [show 80 * i + (s + 1) + t = 80 * i + s + (t + 1) by omega, this]
        congr 1
        simp [hL]
    · have eq : uQ S.1 j L i = S.1 i := uQ_ne _ _ hij
      refine ⟨s2, ?_, ?_, ?_, ?_⟩
      · rw [wI_ne _ _ _ (by decide), wI_same, upd_ne _ _ hij, ends_ne _ _ _ (by decide) (by decide)]; exact a1
      · dsimp only; rw [wI_same, upd_ne _ _ hij, wI_ne _ _ _ (by decide), ends_ne _ _ _ (by decide) (by decide), eq]; exact a2
      · dsimp only; rw [eq]
        show _ ≤ uN (uN S.2 0 g 0) 1 g τ 5 i
        rw [uN_a _ _ _ (by decide), uN_a _ _ _ (by decide)]
        exact a3
      · rw [ne 85 (by decide) (by decide) (by decide) (by decide)]
        intro t ht
        simp only [eq] at ht ⊢
        exact a4 t ht
  · intro i hi
    obtain ⟨b1, b2, b3⟩ := t2 i hi
    rw [ne 93 (by decide) (by decide) (by decide) (by decide), wI_ne _ _ _ (show (91 : Nat) ≠ 86 by decide), wI_ne _ _ _ (show (91 : Nat) ≠ 87 by decide), wI_ne _ _ _ (show (92 : Nat) ≠ 86 by decide), wI_ne _ _ _ (show (92 : Nat) ≠ 87 by decide)]
    unfold sFt tX10_ends
    dsimp only
    rw [wI_ne _ _ _ (show (91 : Nat) ≠ 92 by decide), wI_same, wI_same, wI_ne _ _ _ (show (92 : Nat) ≠ 91 by decide)]
    by_cases hig : i = g
    · subst hig
      have h4 : ¬ τ = 400 := by omega
      refine ⟨?_, ?_, ?_⟩
      · rw [upd_same]; simp [uN, h4]; rfl
      · rw [upd_same, t0]; simp [uN]
      · rw [b3]; simp [uN]
    · refine ⟨?_, ?_, ?_⟩
      · rw [upd_ne _ _ hig, b1]; simp [uN, hig, sFt]
      · rw [upd_ne _ _ hig, b2]; simp [uN, hig]
      · rw [b3]; simp [uN]
  · intro i hi
    rw [ne 94 (by decide) (by decide) (by decide) (by decide), t3 i hi]
    simp [uN]
  · unfold MH
    rw [ne 89 (by decide) (by decide) (by decide) (by decide), ne 90 (by decide) (by decide) (by decide) (by decide)]
    simp only [uN]
    unfold MH at t4
    simpa using t4
theorem sub_r {τ p : Nat} (hτ : τ < 400) (h1 : 1 ≤ p) (h5 : p ≤ 5) : (nI τ + 1 - (nI τ + 1) / nI p * nI p = 0) ↔ (τ + 1) % p = 0 := by
  rw [nI_1, pk_rem (by omega) (by omega) (by omega), show (0 : Int32) = nI 0 from rfl, nI_eq (by have := Nat.mod_lt (τ + 1) (show p > 0 by omega); omega) (by omega)]
section MRun
variable {l : Launch} {C : xC} {G : xG}
set_option maxHeartbeats 4000000 in
theorem Lsends (hG : SH G) {K0 : xI} {E : aE} {S : aS} {τ rw : Nat} (hE : EI E) (hS0 : MS K0 E rw) (hSI : SI E S τ) (hP : ∀ j, S.2 5 j ≤ E 0 5) (hτ : τ < 400) {Q : Unit → xI → Prop} (hQ : ∀ K, FS K0 K → K 88 = K0 88 → MD K E (sSends E τ S (E 0 0)) τ → Q () K) : ∀ (k i : Nat), i ≤ E 0 0 → E 0 0 < i + k → ∀ K, FS K0 K → K 88 = K0 88 → MD K E (sSends E τ S i) τ → XF fV l C mX10_sends 2 [some (.ref 69), some (.int (nI i))] [] G K Q := by
  have hn4 := hE.2.1
  have hc := hE.2.2.2.1
  intro k
  induction k with
  | zero =>
    intro i h1 h2
    exact absurd h2 (by omega)
  | succ k ih =>
    intro i h1 h2 K hF h80 hD
    have hS := MS_FS hS0 hF
    refine VX10_sends_2 hG K (nI i) (pk_le (E 0 0) i (fun hle => ?_) (fun hlt => ?_) hS.1 rfl)
    · have : i = E 0 0 := by omega
      subst this
      exact hQ K hF h80 hD
    · refine ⟨vp_in_nI (by omega) (by decide), ?_⟩
      have hI := SI_sends hE hSI hτ i (by omega)
      have hP2 : ∀ j, (sSends E τ S i).2 5 j ≤ E 0 5 := by rw [sends_f _ _ _ (by decide) (by decide)]; exact hP
      have kcl : (nI i).toNatClampNeg = i := nI_clamp (by omega)
      have hnext : sSends E τ S (i + 1) = sSend1 E τ (sSends E τ S i) i := rfl
      have hl12 := len12 hE hI (show i < 4 by omega)
      obtain ⟨-, -, hpa, hpb, -⟩ := hE.2.2.2.2.2.2.1 i hlt
      rw [kcl, m78 hD (show i < 4 by omega), (hS.2.2.2.2.2.2.2 i hlt).2.2.1, hD.1]
      refine pk_le (sLen (sSends E τ S i) i) 0 (fun hz => ?_) (fun hz => ?_) rfl rfl
      · have e : sSends E τ S (i + 1) = sSends E τ S i := by
          rw [hnext]
          unfold sSend1
          rw [if_pos (List.length_eq_zero_iff.mp (by unfold sLen at hz; omega))]
        exact XF.to (ih (i + 1) (by omega) (by omega) K hF h80 (by rw [e]; exact hD)) (by rw [nI_succ]) rfl rfl
      · have hne : ¬ (sSends E τ S i).1 i = [] := by intro z; unfold sLen at hz; rw [z] at hz; simp at hz
        refine ⟨nI_ne0 (by omega) (by omega), fun hr => ?_, fun hr => ?_⟩
        · have hr2 := (sub_r hτ hpa hpb).mp hr
          obtain ⟨g, L, hL⟩ : ∃ g L, (sSends E τ S i).1 i = g :: L := by
            cases hq : (sSends E τ S i).1 i with
            | nil => exact absurd hq hne
            | cons g L => exact ⟨g, L, rfl⟩
          obtain ⟨⟨d1, d2⟩, d3⟩ := MD_send hE hI hP2 hD (show i < 4 by omega) hL hτ
          have hgc := (hI.1 i (by omega) g (by rw [hL]; simp)).1
          have e : sSends E τ S (i + 1) = (uQ (sSends E τ S i).1 i L, uN (uN (sSends E τ S i).2 0 g 0) 1 g τ) := by
            rw [hnext]
            unfold sSend1
            rw [if_neg hne, if_pos hr2, hL]
            rfl
          refine ⟨d2, ?_⟩
          rw [d1]
          refine ⟨_, XF.of (v := ()) (YX10_ends hG K (nI g) 0 (vp_in_nI (by omega) (by decide))), ?_⟩
          rintro - K1 ⟨-, rfl⟩
          rw [nI_clamp (show g < 2 ^ 31 by omega), ends_ne _ _ _ (show (87 : Nat) ≠ 91 by decide) (by decide), ends_ne _ _ _ (show (86 : Nat) ≠ 91 by decide) (by decide)]
          refine XF.to (ih (i + 1) (by omega) (by omega) _ (hF.trans (fun a ha => ?_)) ?_ (by rw [e]; exact d3)) (by rw [nI_succ]) rfl rfl
          · rw [wI_ne _ _ _ (by omega), wI_ne _ _ _ (by omega), ends_ne _ _ _ (by omega) (by omega)]
          · rw [wI_ne _ _ _ (by decide), wI_ne _ _ _ (by decide), ends_ne _ _ _ (by decide) (by decide)]; exact h80
        · have e : sSends E τ S (i + 1) = sSends E τ S i := by
            rw [hnext]
            unfold sSend1
            rw [if_neg hne, if_neg (fun z => hr ((sub_r hτ hpa hpb).mpr z))]
          exact XF.to (ih (i + 1) (by omega) (by omega) K hF h80 (by rw [e]; exact hD)) (by rw [nI_succ]) rfl rfl
theorem Zsends (hG : SH G) {K : xI} {E : aE} {S : aS} {τ rw : Nat} (hE : EI E) (hS : MS K E rw) (hSI : SI E S τ) (hP : ∀ j, S.2 5 j ≤ E 0 5) (hτ : τ < 400) (hD : MD K E S τ) : XF fV l C mX10_sends 0 (xent mX10_sends [.ref 69]) [] G K (fun _ K' => FS K K' ∧ K' 88 = K 88 ∧ MD K' E (sSends E τ S (E 0 0)) τ) :=
  VX10_sends hG K (Lsends hG hE hS hSI hP hτ (fun K' a b c => ⟨a, b, c⟩) (E 0 0 + 1) 0 (by omega) (by omega) K (FS.refl K) rfl hD)
end MRun
