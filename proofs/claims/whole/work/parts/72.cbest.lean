/-! the class: the most that can be taken -/
/-- the most by best foresight -/
def bst (E : aE) : Nat := cnt (kR (E 8) (fin440 E).2 (E 0 1) (E 0 5)) (E 0 5)
/-- what a stay's end is told as -/
def lvI (Y : Nat → Bool) (lv : Nat → Nat) (i : Nat) : Int32 := if Y i = true then nI (lv i) else (-1)
theorem lvI_lt {Y : Nat → Bool} {lv : Nat → Nat} {i t : Nat} (h : lv i < 1000) (ht : t < 1000) : (lvI Y lv i < nI t) ↔ ¬ (Y i = true ∧ t ≤ lv i) := by
  unfold lvI
  by_cases hY : Y i = true
  · rw [if_pos hY, nI_ltI (by omega) (by omega)]
    exact ⟨fun z q => by omega, fun z => Nat.lt_of_not_le (fun q => z ⟨hY, q⟩)⟩
  · rw [if_neg hY]
    refine ⟨fun _ q => hY q.1, fun _ => ?_⟩
    rw [Int32.lt_iff_toInt_lt, nI_toInt (by omega), show (-1 : Int32).toInt = -1 from rfl]
    omega
theorem lvI_le {Y : Nat → Bool} {lv : Nat → Nat} {i j : Nat} (h : lv i < 1000) (hj : lv j < 1000) : (lvI Y lv i ≤ lvI Y lv j) ↔ kV Y lv i ≤ kV Y lv j := by
  unfold lvI kV
  have hm : (-1 : Int32).toInt = -1 := rfl
  by_cases hi : Y i = true <;> by_cases hj2 : Y j = true
  · rw [if_pos hi, if_pos hj2, if_pos hi, if_pos hj2, nI_leI (by omega) (by omega)]; omega
  · rw [if_pos hi, if_neg hj2, if_pos hi, if_neg hj2, Int32.le_iff_toInt_le, nI_toInt (by omega), hm]; omega
  · rw [if_neg hi, if_pos hj2, if_neg hi, if_pos hj2, Int32.le_iff_toInt_le, nI_toInt (by omega), hm]; omega
  · rw [if_neg hi, if_neg hj2, if_neg hi, if_neg hj2, Int32.le_iff_toInt_le]; omega
section CFo
variable {l : Launch} {C : xC} {G : xG}
theorem Lstays (hG : SH G) {I : xI} {Y : Nat → Bool} {lv : Nat → Nat} {t k : Nat} (hk : k < 80) (ht : t < 1000) (hlv : ∀ i, i ≤ k → lv i < 1000) (hI : ∀ i, i ≤ k → I 45 i = lvI Y lv i) : ∀ (m i : Nat), i ≤ k + 1 → k + 1 < i + m → XF fI l C mX0_staysAt 5 [some (.ref 44), some (.int (nI t)), some (.int (nI k)), some (.int (nI (kO Y lv t i))), some (.int (nI i))] [] G I (fun v I' => v = nI (kO Y lv t (k + 1)) ∧ I' = I) := by
  intro m
  induction m with
  | zero => intro i h1 h2; exact absurd h2 (by omega)
  | succ m ih =>
    intro i h1 h2
    refine VX0_staysAt_5 hG I (nI t) (nI k) (nI (kO Y lv t i)) (nI i) (pk_lt k i (fun hlt => ?_) (fun hle => ?_) rfl rfl)
    · have : i = k + 1 := by omega
      subst this
      exact ⟨rfl, rfl⟩
    · rw [nI_clamp (show i < 2 ^ 31 by omega), hI i hle]
      refine ⟨vp_in_nI (by omega) (by decide), fun hc => ?_, fun hc => ?_⟩
      · have hc' := (lvI_lt (hlv i hle) ht).mp hc
        refine XF.to (ih (i + 1) (by omega) (by omega)) ?_ rfl rfl
        have : kO Y lv t (i + 1) = kO Y lv t i := by
          unfold kO
          rw [cnt_succ, if_neg]
          · rfl
          · simpa using hc'
        rw [this, nI_succ]
      · have hc' : Y i = true ∧ t ≤ lv i := Classical.byContradiction (fun z => hc ((lvI_lt (hlv i hle) ht).mpr z))
        refine XF.to (ih (i + 1) (by omega) (by omega)) ?_ rfl rfl
        have : kO Y lv t (i + 1) = kO Y lv t i + 1 := by
          unfold kO
          rw [cnt_succ, if_pos]
          simpa using hc'
        rw [this, nI_succ, nI_succ]
theorem Zstays (hG : SH G) {I : xI} {Y : Nat → Bool} {lv : Nat → Nat} {t k : Nat} (hk : k < 80) (ht : t < 1000) (hlv : ∀ i, i ≤ k → lv i < 1000) (hI : ∀ i, i ≤ k → I 45 i = lvI Y lv i) : XF fI l C mX0_staysAt 0 (xent mX0_staysAt [.ref 44, .int (nI t), .int (nI k)]) [] G I (fun v I' => v = nI (kO Y lv t (k + 1)) ∧ I' = I) :=
  VX0_staysAt hG I (nI t) (nI k) (Lstays hG hk ht hlv hI (k + 2) 0 (by omega) (by omega))
theorem Llong (hG : SH G) {I : xI} {Y : Nat → Bool} {lv : Nat → Nat} {k : Nat} (hk : k < 80) (hlv : ∀ i, i ≤ k → lv i < 1000) (hI : ∀ i, i ≤ k → I 45 i = lvI Y lv i) : ∀ (m i : Nat), i ≤ k → k < i + m → XF fI l C mX0_longestStay 4 [some (.ref 44), some (.int (nI k)), some (.int (nI (kM (kV Y lv) i))), some (.int (nI (i + 1)))] [] G I (fun v I' => v = nI (kM (kV Y lv) k) ∧ I' = I) := by
  intro m
  induction m with
  | zero => intro i h1 h2; exact absurd h2 (by omega)
  | succ m ih =>
    intro i h1 h2
    have hm := kM_le (kV Y lv) i
    refine VX0_longestStay_4 hG I (nI k) (nI (kM (kV Y lv) i)) (nI (i + 1)) (pk_lt k (i + 1) (fun hlt => ?_) (fun hle => ?_) rfl rfl)
    · have : i = k := by omega
      subst this
      exact ⟨rfl, rfl⟩
    · rw [nI_clamp (show i + 1 < 2 ^ 31 by omega), nI_clamp (show kM (kV Y lv) i < 2 ^ 31 by omega), hI _ hle, hI _ (show kM (kV Y lv) i ≤ k by omega)]
      refine ⟨vp_in_nI (by omega) (by decide), vp_in_nI (by omega) (by decide), fun hc => ?_, fun hc => ?_⟩
      · have hc' := (lvI_le (hlv _ hle) (hlv _ (show kM (kV Y lv) i ≤ k by omega))).mp hc
        refine XF.to (ih (i + 1) hle (by omega)) ?_ rfl rfl
        have : kM (kV Y lv) (i + 1) = kM (kV Y lv) i := by unfold kM; rw [if_neg (by omega)]; cases i <;> rfl
        rw [this, nI_1]
      · have hc' : ¬ kV Y lv (i + 1) ≤ kV Y lv (kM (kV Y lv) i) := fun z => hc ((lvI_le (hlv _ hle) (hlv _ (show kM (kV Y lv) i ≤ k by omega))).mpr z)
        refine XF.to (ih (i + 1) hle (by omega)) ?_ rfl rfl
        have : kM (kV Y lv) (i + 1) = i + 1 := by
          show (if kV Y lv (kM (kV Y lv) i) < kV Y lv (i + 1) then i + 1 else kM (kV Y lv) i) = i + 1
          rw [if_pos (by omega)]
        rw [this, nI_1]
theorem Zlong (hG : SH G) {I : xI} {Y : Nat → Bool} {lv : Nat → Nat} {k : Nat} (hk : k < 80) (hlv : ∀ i, i ≤ k → lv i < 1000) (hI : ∀ i, i ≤ k → I 45 i = lvI Y lv i) : XF fI l C mX0_longestStay 0 (xent mX0_longestStay [.ref 44, .int (nI k)]) [] G I (fun v I' => v = nI (kM (kV Y lv) k) ∧ I' = I) :=
  VX0_longestStay hG I (nI k) (Llong hG hk hlv hI (k + 1) 0 (by omega) (by omega))
theorem lv_440 {E : aE} (hE : EI E) {i : Nat} (hi : i < E 0 5) : (fin440 E).2 i < 440 := by
  obtain ⟨m, t, q1, q2⟩ := lv_mem (x := i) (evs E 0 440) sZ (WF_evs hE 440) (Or.inr (by rw [arr_evs, pT_0, Nat.zero_add, Nat.sub_zero, pT_40 hE (by omega), List.mem_range'_1]; omega)) (by rw [all_gone hE]; simp)
  show (aRun E sZ (evs E 0 440)).2 i < 440
  rw [q2]
  have := (sv_tick q1).2.1
  omega
set_option maxHeartbeats 4000000 in
theorem Lmost (hG : SH G) {I0 : xI} {E : aE} {w : Nat} (hE : EI E) (hL0 : CL I0 G E) (hW0 : CW I0 G E w) : ∀ (m k : Nat), k ≤ E 0 5 → E 0 5 < k + m → ∀ I, FK I0 I → (∀ i, i < k → I 45 i = lvI (kR (E 8) (fin440 E).2 (E 0 1) k) (fin440 E).2 i) → (∀ i, k ≤ i → i < E 0 5 → I 45 i = nI ((fin440 E).2 i)) → XF fI l C mX0_mostTaken 9 [some (.ref 44), some (.ref w), some (.int (nI (cnt (kR (E 8) (fin440 E).2 (E 0 1) k) k))), some (.int (nI k))] [] G I (fun v I' => v = nI (bst E) ∧ FK I0 I') := by
  have hc := hE.2.2.2.1
  have hB := hE.2.2.1
  intro m
  induction m with
  | zero => intro k h1 h2; exact absurd h2 (by omega)
  | succ m ih =>
    intro k h1 h2 I hF hI1 hI2
    have hL := CL_FK hL0 hF
    have hW := CW_FK hW0 hF
    refine VX0_mostTaken_9 hG hW.1 hW.2.1 I _ (nI k) (pk_le (E 0 5) k (fun hle => ?_) (fun hlt => ?_) hW.2.2.2.1 rfl)
    · have : k = E 0 5 := by omega
      subst this
      exact ⟨rfl, hF⟩
    · rw [nI_clamp (show k < 2 ^ 31 by omega), (hW.2.2.2.2 k hlt).1]
      have h40 := (hE.2.2.2.2.1 k hlt).2
      have hlv : ∀ i, i ≤ k → (fin440 E).2 i < 1000 := fun i hi => by have := lv_440 hE (show i < E 0 5 by omega); omega
      have hIA : ∀ i, i ≤ k → I 45 i = lvI (kA (kR (E 8) (fin440 E).2 (E 0 1) k) k) (fin440 E).2 i := by
        intro i hi
        unfold lvI kA
        by_cases hik : i = k
        · subst hik; rw [if_pos rfl, if_pos rfl]; exact hI2 i (Nat.le_refl _) hlt
        · rw [if_neg hik]; exact hI1 i (by omega)
      have hk81 : kO (kA (kR (E 8) (fin440 E).2 (E 0 1) k) k) (fin440 E).2 (E 8 k) (k + 1) ≤ k + 1 := cnt_le _ _
      have hcA : cnt (kA (kR (E 8) (fin440 E).2 (E 0 1) k) k) (k + 1) = cnt (kR (E 8) (fin440 E).2 (E 0 1) k) k + 1 := by
        rw [cnt_succ, cnt_ext (q := kR (E 8) (fin440 E).2 (E 0 1) k) (fun i hi => by unfold kA; rw [if_neg (by omega)]), if_pos (by simp [kA])]
      have hstep : kR (E 8) (fin440 E).2 (E 0 1) (k + 1) = if E 0 1 < kO (kA (kR (E 8) (fin440 E).2 (E 0 1) k) k) (fin440 E).2 (E 8 k) (k + 1) then kD (kA (kR (E 8) (fin440 E).2 (E 0 1) k) k) (kM (kV (kA (kR (E 8) (fin440 E).2 (E 0 1) k) k) (fin440 E).2) k) else kA (kR (E 8) (fin440 E).2 (E 0 1) k) k := rfl
      refine ⟨vp_in_nI (by omega) (by decide), _, Zstays hG (show k < 80 by omega) (show E 8 k < 1000 by omega) hlv hIA, ?_⟩
      rintro v I1 ⟨rfl, rfl⟩
      refine pk_le _ (E 0 1) (fun hle => ?_) (fun hgt => ?_) rfl hL.2.1 (by omega) (by omega)
      · rw [if_neg (by omega)] at hstep
        refine XF.to (ih (k + 1) (by omega) (by omega) I1 hF (fun i hi => by rw [hstep]; exact hIA i (by omega)) (fun i h3 h4 => hI2 i (by omega) h4)) ?_ rfl rfl
        rw [hstep, hcA, nI_succ, nI_succ]
      · rw [if_pos hgt] at hstep
        have hmk := kM_kept (Nat.lt_of_le_of_lt (Nat.zero_le _) hgt)
        have hml := kM_le (kV (kA (kR (E 8) (fin440 E).2 (E 0 1) k) k) (fin440 E).2) k
        refine ⟨_, Zlong hG (show k < 80 by omega) hlv hIA, ?_⟩
        rintro v I2 ⟨rfl, rfl⟩
        refine ⟨vp_in_nI (by omega) (by decide), ?_⟩
        generalize hY : kA (kR (E 8) (fin440 E).2 (E 0 1) k) k = Y at *
        generalize hM : kM (kV Y (fin440 E).2) k = mx at *
        rw [nI_clamp (show mx < 2 ^ 31 by omega)]
        have hcD : cnt (kD Y mx) (k + 1) + 1 = cnt Y (k + 1) := by
          have := kD_cnt (show mx < k + 1 by omega) hmk.1 (fun _ => true)
          simp only [Bool.and_true] at this
          rw [if_pos trivial] at this
          exact this
        refine XF.to (ih (k + 1) (by omega) (by omega) _ (fun a z1 z2 z3 z4 => by rw [wI_ne _ _ _ z1, hF a z1 z2 z3 z4]) (fun i hi => ?_) (fun i h3 h4 => ?_)) ?_ rfl rfl
        · rw [hstep, wI_same]
          unfold lvI kD
          by_cases him : i = mx
          · subst him; rw [upd_same, if_pos rfl, if_neg (by decide)]
          · rw [upd_ne _ _ him, if_neg him]; exact hIA i (by omega)
        · rw [wI_same, upd_ne _ _ (by omega)]; exact hI2 i (by omega) h4
        · rw [hstep, nI_succ k, show cnt (kD Y mx) (k + 1) = cnt (kR (E 8) (fin440 E).2 (E 0 1) k) k by omega, nI_1, pk_m1]
theorem Zmost (hG : SH G) {I : xI} {E : aE} {w : Nat} (hE : EI E) (hL : CL I G E) (hW : CW I G E w) : XF fI l C mX0_mostTaken 0 (xent mX0_mostTaken [.ref 44, .ref w]) [] G I (fun v I' => v = nI (bst E) ∧ FK I I') := by
  refine VX0_mostTaken hG hW.1 hW.2.1 I ⟨_, VX0_pairLettersWithTicks hG hW.1 hW.2.1 I (Lpair2 hG hE hL hW 5 0 (by omega) (by omega) I (fun _ _ _ _ _ => rfl) (fun j hj => absurd hj (by omega))), ?_⟩
  rintro - I1 ⟨f1, k1⟩
  exact Lmost hG hE hL hW (E 0 5 + 1) 0 (by omega) (by omega) I1 f1 (fun i hi => absurd hi (by omega)) (fun i _ hi => k1 i hi)
end CFo
