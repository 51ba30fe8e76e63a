/-! the class: counts; what the calls share -/
theorem bI_le {P Q : Prop} [Decidable P] [Decidable Q] (h : P ↔ Q) : bI P = bI Q := by
  unfold bI
  by_cases hp : P
  · rw [if_pos hp, if_pos (h.mp hp)]
  · rw [if_neg hp, if_neg (fun z => hp (h.mpr z))]
def cntF (fa li : Nat → Int32) (ln w : Int32) : Nat → Int32
  | 0 => 0
  | k + 1 => cntF fa li ln w k + (if fa k = w then (if ln = (-1) then 1 else (if li k = ln then 1 else 0)) else 0)
theorem cntR_F (I : xI) (ln w : Int32) : ∀ k, cntR I ln w k = cntF (I 96) (I 99) ln w k := by
  intro k
  induction k with
  | zero => rfl
  | succ k ih => unfold cntR cntF; rw [ih]
theorem cntF_ext {fa li fa' li' : Nat → Int32} (ln w : Int32) : ∀ k, (∀ i, i < k → fa i = fa' i ∧ li i = li' i) → cntF fa li ln w k = cntF fa' li' ln w k := by
  intro k
  induction k with
  | zero => intro _; rfl
  | succ k ih => intro h; unfold cntF; rw [ih (fun i hi => h i (by omega)), (h k (by omega)).1, (h k (by omega)).2]
section CCo
variable {l : Launch} {C : xC} {G : xG}
theorem Zwithin (hG : SH G) (I : xI) (v lo hi : Int32) : XF fI l C mX9_isWithin 0 (xent mX9_isWithin [.int v, .int lo, .int hi]) [] G I (fun r I' => r = bI (lo ≤ v ∧ v ≤ hi) ∧ I' = I) := by
  refine VX9_isWithin hG I v lo hi ⟨fun h => ⟨(if_neg (fun z => Int32.not_le.mpr h z.1)).symm, rfl⟩, fun h => ⟨fun h2 => ⟨(if_neg (fun z => Int32.not_le.mpr h2 z.2)).symm, rfl⟩, fun h2 => ⟨(if_pos ⟨Int32.not_lt.mp h, Int32.not_lt.mp h2⟩).symm, rfl⟩⟩⟩
theorem bI01 (P : Prop) [Decidable P] : bI P = 0 ∨ bI P = 1 := by
  unfold bI
  by_cases h : P
  · rw [if_pos h]; exact Or.inr rfl
  · rw [if_neg h]; exact Or.inl rfl
theorem ZsheetNo (hG : SH G) (I : xI) (v : Int32) : XF fI l C mX9_isSheetNumber 0 (xent mX9_isSheetNumber [.int v]) [] G I (fun r I' => r = bI (0 ≤ v ∧ v ≤ 3) ∧ I' = I) := by
  refine VX9_isSheetNumber hG I v ⟨_, Zwithin hG I v 0 3, ?_⟩
  rintro r I1 ⟨rfl, rfl⟩
  exact ⟨bI01 _, rfl, rfl⟩
theorem Zlane (hG : SH G) (I : xI) (v : Int32) : XF fI l C mX9_isLane 0 (xent mX9_isLane [.int v]) [] G I (fun r I' => r = bI (0 ≤ v ∧ v ≤ 2) ∧ I' = I) := by
  refine VX9_isLane hG I v ⟨_, Zwithin hG I v 0 2, ?_⟩
  rintro r I1 ⟨rfl, rfl⟩
  exact ⟨bI01 _, rfl, rfl⟩
theorem ZrowAt (hG : SH G) (I : xI) (v : Int32) : XF fR l C mX9_rowAt 0 (xent mX9_rowAt [.ref 2, .int v]) [] G I (fun a I' => I' = I ∧ ((0 ≤ v ∧ v ≤ 3 ∧ a = 49 + 3 * v.toNatClampNeg) ∨ (¬ (0 ≤ v ∧ v ≤ 3) ∧ a = 0))) := by
  refine VX9_rowAt hG I v ⟨_, Zwithin hG I v 0 3, ?_⟩
  rintro r I1 ⟨rfl, rfl⟩
  exact bI_split (fun h => ⟨rfl, Or.inr ⟨h, rfl⟩⟩) (fun h => ⟨vin_3 h, rfl, Or.inl ⟨h.1, h.2, rfl⟩⟩)
theorem ZlineAt (hG : SH G) (I : xI) {n : Nat} (hn : I 3 1 = nI n) (h4 : n ≤ 4) (v : Int32) : XF fR l C mX6_lineAt 0 (xent mX6_lineAt [.ref 3, .int v]) [] G I (fun a I' => I' = I ∧ ((0 ≤ v ∧ v ≤ I 3 1 - 1 ∧ a = gR G 4 v.toNatClampNeg) ∨ (¬ (0 ≤ v ∧ v ≤ I 3 1 - 1) ∧ a = 0))) := by
  refine VX6_lineAt hG I v ⟨_, Zwithin hG I v 0 (I 3 1 - 1), ?_⟩
  rintro r I1 ⟨rfl, rfl⟩
  exact bI_split (fun h => ⟨rfl, Or.inr ⟨h, rfl⟩⟩) (fun h => ⟨vin_l hn h4 (by decide) h, rfl, Or.inl ⟨h.1, h.2, rfl⟩⟩)
def psum (D : aE) : Nat → Nat
  | 0 => 0
  | j + 1 => psum D j + sPart D j
theorem Lparts (hG : SH G) {I : xI} {E : aE} (hn4 : E 0 0 ≤ 4) (hL : CL I G E) : ∀ (k i : Nat), i ≤ E 0 0 → E 0 0 < i + k → XF fI l C mX6_partsTogether 4 [some (.ref 3), some (.int (nI (psum E i))), some (.int (nI i))] [] G I (fun v I' => v = nI (psum E (E 0 0)) ∧ I' = I) := by
  intro k
  induction k with
  | zero => intro i h1 h2; exact absurd h2 (by omega)
  | succ k ih =>
    intro i h1 h2
    refine VX6_partsTogether_4 hG I _ (nI i) (pk_le (E 0 0) i (fun hle => ?_) (fun hlt => ?_) hL.1 rfl)
    · have : i = E 0 0 := by omega
      subst this
      exact ⟨rfl, rfl⟩
    · rw [nI_clamp (show i < 2 ^ 31 by omega)]
      refine ⟨vp_in_nI (by omega) (by decide), (hL.2.2 i hlt).1, XF.to (ih (i + 1) (by omega) (by omega)) ?_ rfl rfl⟩
      rw [kpt_eq hL hlt, nI_add, nI_1]
      rfl
theorem Zparts (hG : SH G) {I : xI} {E : aE} (hn4 : E 0 0 ≤ 4) (hL : CL I G E) : XF fI l C mX6_partsTogether 0 (xent mX6_partsTogether [.ref 3]) [] G I (fun v I' => v = nI (psum E (E 0 0)) ∧ I' = I) :=
  VX6_partsTogether hG I (Lparts hG hn4 hL (E 0 0 + 1) 0 (by omega) (by omega))
theorem LcountOfa (hG : SH G) {I : xI} {c : Nat} (hc : I 8 14 = nI c) (hc80 : c ≤ 80) (ln w : Int32) : ∀ (f k : Nat), k ≤ c → c < k + f → XF fI l C mX5_countOf 5 [some (.ref 8), some (.int ln), some (.int w), some (.int (cntF (I 12) (I 10) ln w k)), some (.int (nI k))] [] G I (fun v I' => v = cntF (I 12) (I 10) ln w c ∧ I' = I) := by
  intro f
  induction f with
  | zero => intro k h1 h2; exact absurd h2 (by omega)
  | succ f ih =>
    intro k h1 h2
    refine VX5_countOfa_5 hG I ln w _ (nI k) (pk_le c k (fun hle => ?_) (fun hlt => ?_) hc rfl)
    · have : k = c := by omega
      subst this
      exact ⟨rfl, rfl⟩
    · rw [nI_clamp (show k < 2 ^ 31 by omega)]
      have step : ∀ d : Int32, d = (if I 12 k = w then (if ln = (-1) then 1 else (if I 10 k = ln then 1 else 0)) else 0) → XF fI l C mX5_countOf 5 [some (.ref 8), some (.int ln), some (.int w), some (.int (cntF (I 12) (I 10) ln w k + d)), some (.int (nI k + 1))] [] G I (fun v I' => v = cntF (I 12) (I 10) ln w c ∧ I' = I) := by
        intro d hd
        refine XF.to (ih (k + 1) (by omega) (by omega)) ?_ rfl rfl
        rw [hd, nI_1]
        rfl
      have step0 : (0 : Int32) = (if I 12 k = w then (if ln = (-1) then 1 else (if I 10 k = ln then 1 else 0)) else 0) → XF fI l C mX5_countOf 5 [some (.ref 8), some (.int ln), some (.int w), some (.int (cntF (I 12) (I 10) ln w k)), some (.int (nI k + 1))] [] G I (fun v I' => v = cntF (I 12) (I 10) ln w c ∧ I' = I) := by
        intro hd
        exact XF.to (step 0 hd) (by rw [Int32.add_zero]) rfl rfl
      refine ⟨vp_in_nI (by omega) (by decide), fun h1 => ⟨fun h2 => step 1 (by rw [if_pos h1, if_pos h2]), fun h2 => ⟨fun h3 => step 1 (by rw [if_pos h1, if_neg h2, if_pos h3]), fun h3 => step0 (by rw [if_pos h1, if_neg h2, if_neg h3])⟩⟩, fun h1 => step0 (by rw [if_neg h1])⟩
theorem ZcountOfa (hG : SH G) {I : xI} {c : Nat} (hc : I 8 14 = nI c) (hc80 : c ≤ 80) (ln w : Int32) : XF fI l C mX5_countOf 0 (xent mX5_countOf [.ref 8, .int ln, .int w]) [] G I (fun v I' => v = cntF (I 12) (I 10) ln w c ∧ I' = I) :=
  VX5_countOfa hG I ln w (LcountOfa hG hc hc80 ln w (c + 1) 0 (by omega) (by omega))
theorem LcountOfb (hG : SH G) {I : xI} {c : Nat} (hc : I 26 14 = nI c) (hc80 : c ≤ 80) (ln w : Int32) : ∀ (f k : Nat), k ≤ c → c < k + f → XF fI l C mX5_countOf 5 [some (.ref 26), some (.int ln), some (.int w), some (.int (cntF (I 30) (I 28) ln w k)), some (.int (nI k))] [] G I (fun v I' => v = cntF (I 30) (I 28) ln w c ∧ I' = I) := by
  intro f
  induction f with
  | zero => intro k h1 h2; exact absurd h2 (by omega)
  | succ f ih =>
    intro k h1 h2
    refine VX5_countOfb_5 hG I ln w _ (nI k) (pk_le c k (fun hle => ?_) (fun hlt => ?_) hc rfl)
    · have : k = c := by omega
      subst this
      exact ⟨rfl, rfl⟩
    · rw [nI_clamp (show k < 2 ^ 31 by omega)]
      have step : ∀ d : Int32, d = (if I 30 k = w then (if ln = (-1) then 1 else (if I 28 k = ln then 1 else 0)) else 0) → XF fI l C mX5_countOf 5 [some (.ref 26), some (.int ln), some (.int w), some (.int (cntF (I 30) (I 28) ln w k + d)), some (.int (nI k + 1))] [] G I (fun v I' => v = cntF (I 30) (I 28) ln w c ∧ I' = I) := by
        intro d hd
        refine XF.to (ih (k + 1) (by omega) (by omega)) ?_ rfl rfl
        rw [hd, nI_1]
        rfl
      have step0 : (0 : Int32) = (if I 30 k = w then (if ln = (-1) then 1 else (if I 28 k = ln then 1 else 0)) else 0) → XF fI l C mX5_countOf 5 [some (.ref 26), some (.int ln), some (.int w), some (.int (cntF (I 30) (I 28) ln w k)), some (.int (nI k + 1))] [] G I (fun v I' => v = cntF (I 30) (I 28) ln w c ∧ I' = I) := by
        intro hd
        exact XF.to (step 0 hd) (by rw [Int32.add_zero]) rfl rfl
      refine ⟨vp_in_nI (by omega) (by decide), fun h1 => ⟨fun h2 => step 1 (by rw [if_pos h1, if_pos h2]), fun h2 => ⟨fun h3 => step 1 (by rw [if_pos h1, if_neg h2, if_pos h3]), fun h3 => step0 (by rw [if_pos h1, if_neg h2, if_neg h3])⟩⟩, fun h1 => step0 (by rw [if_neg h1])⟩
theorem ZcountOfb (hG : SH G) {I : xI} {c : Nat} (hc : I 26 14 = nI c) (hc80 : c ≤ 80) (ln w : Int32) : XF fI l C mX5_countOf 0 (xent mX5_countOf [.ref 26, .int ln, .int w]) [] G I (fun v I' => v = cntF (I 30) (I 28) ln w c ∧ I' = I) :=
  VX5_countOfb hG I ln w (LcountOfb hG hc hc80 ln w (c + 1) 0 (by omega) (by omega))
def cntA (I : xI) (ln t : Int32) (c : Nat) : Nat := cnt (fun k => decide (I 10 k = ln ∧ ¬ t < I 11 k ∧ ¬ I 13 k ≤ t)) c
theorem LlenAt (hG : SH G) {I : xI} {c : Nat} (hc : I 8 14 = nI c) (hc80 : c ≤ 80) (ln t : Int32) : ∀ (f k : Nat), k ≤ c → c < k + f → XF fI l C mX5_lengthAt 5 [some (.ref 8), some (.int ln), some (.int t), some (.int (nI (cntA I ln t k))), some (.int (nI k))] [] G I (fun v I' => v = nI (cntA I ln t c) ∧ I' = I) := by
  intro f
  induction f with
  | zero => intro k h1 h2; exact absurd h2 (by omega)
  | succ f ih =>
    intro k h1 h2
    refine VX5_lengthAta_5 hG I ln t _ (nI k) (pk_le c k (fun hle => ?_) (fun hlt => ?_) hc rfl)
    · have : k = c := by omega
      subst this
      exact ⟨rfl, rfl⟩
    · rw [nI_clamp (show k < 2 ^ 31 by omega)]
      have no : ¬ (I 10 k = ln ∧ ¬ t < I 11 k ∧ ¬ I 13 k ≤ t) → XF fI l C mX5_lengthAt 5 [some (.ref 8), some (.int ln), some (.int t), some (.int (nI (cntA I ln t k))), some (.int (nI k + 1))] [] G I (fun v I' => v = nI (cntA I ln t c) ∧ I' = I) := by
        intro h
        refine XF.to (ih (k + 1) (by omega) (by omega)) ?_ rfl rfl
        unfold cntA
        rw [cnt_succ, decide_eq_false h, nI_1]
        rfl
      have yes : (I 10 k = ln ∧ ¬ t < I 11 k ∧ ¬ I 13 k ≤ t) → XF fI l C mX5_lengthAt 5 [some (.ref 8), some (.int ln), some (.int t), some (.int (nI (cntA I ln t k) + 1)), some (.int (nI k + 1))] [] G I (fun v I' => v = nI (cntA I ln t c) ∧ I' = I) := by
        intro h
        refine XF.to (ih (k + 1) (by omega) (by omega)) ?_ rfl rfl
        unfold cntA
        rw [cnt_succ, decide_eq_true h, nI_1, nI_1]
        rfl
      refine ⟨vp_in_nI (by omega) (by decide), fun h1 => ⟨fun h2 => no (fun z => z.2.1 h2), fun h2 => ⟨fun h3 => no (fun z => z.2.2 h3), fun h3 => yes ⟨h1, h2, h3⟩⟩⟩, fun h1 => no (fun z => h1 z.1)⟩
theorem ZlenAt (hG : SH G) {I : xI} {c : Nat} (hc : I 8 14 = nI c) (hc80 : c ≤ 80) (ln t : Int32) : XF fI l C mX5_lengthAt 0 (xent mX5_lengthAt [.ref 8, .int ln, .int t]) [] G I (fun v I' => v = nI (cntA I ln t c) ∧ I' = I) :=
  VX5_lengthAta hG I ln t (LlenAt hG hc hc80 ln t (c + 1) 0 (by omega) (by omega))
theorem cntF_sent {fa li : Nat → Int32} {S : aS} : ∀ c, (∀ k, k < c → fa k = nI (sFt S k) ∧ sFt S k ≤ 3) → cntF fa li (-1) 0 c = nI (cnt (fun k => decide (sFt S k = 0)) c) := by
  intro c
  induction c with
  | zero => intro _; rfl
  | succ c ih =>
    intro h
    obtain ⟨h1, h2⟩ := h c (by omega)
    unfold cntF
    rw [ih (fun k hk => h k (by omega)), cnt_succ, h1, if_pos rfl]
    by_cases hz : sFt S c = 0
    · rw [hz, if_pos (show nI 0 = 0 from rfl), if_pos (by decide), nI_1]
    · rw [if_neg (show ¬ nI (sFt S c) = 0 from fun z => hz ((nI_eq (a := sFt S c) (b := 0) (by omega) (by omega)).mp z)), decide_eq_false hz, Int32.add_zero]; rfl
end CCo
