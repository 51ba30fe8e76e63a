/-! the reference's run is the plain one -/
def pI (m : Nat) : Int32 := if m = 0 then (-2) else nI (m - 1)
def sFt (S : aS) (k : Nat) : Nat := if S.2 3 k < 400 ∧ S.2 1 k = 400 then 0 else S.2 0 k
/-- the givens as the reference holds them -/
def MS (K : xI) (E : aE) (rw : Nat) : Prop := K 69 1 = nI (E 0 0) ∧ K 69 0 = nI (E 0 1) ∧ (rw < 4 ∧ K 69 18 = nI rw ∧ K 81 rw = nI (E 0 5)) ∧ (∀ k, k < E 0 5 → K 83 (80 * rw + k) = nI (E 9 k) ∧ K 82 (80 * rw + k) = nI (E 8 k)) ∧ K 69 19 = nI (E 0 3) ∧ K 69 20 = nI (E 0 2) ∧ K 69 21 = nI (E 0 4)
  ∧ (∀ j, j < E 0 0 → K 70 j = nI (E 1 j) ∧ K 71 j = nI (E 2 j) ∧ K 72 j = nI (E 3 j) ∧ K 73 j = nI (E 4 j) ∧ K 74 j = nI (E 5 j) ∧ K 75 j = nI (E 6 j) ∧ K 76 j = nI (E 7 j))
def mQu (K : xI) (S : aS) (j : Nat) : Prop := ∃ s, K 87 j = nI s ∧ K 86 j = nI (S.1 j).length ∧ s + (S.1 j).length ≤ S.2 5 j ∧ ∀ t, (h : t < (S.1 j).length) → K 85 (80 * j + s + t) = nI ((S.1 j)[t])
def MF (K : xI) (E : aE) (S : aS) : Prop := ∀ k, k < E 0 5 → K 91 k = nI (sFt S k) ∧ K 92 k = nI (S.2 1 k) ∧ K 93 k = pI (S.2 2 k)
def MH (K : xI) (E : aE) (S : aS) (τ : Nat) : Prop := ∀ j, j < E 0 0 → K 89 j = nI (if τ = 0 then 0 else S.2 6 (400 * j + (τ - 1))) ∧ ∀ t, t < τ → K 90 (400 * j + t) = nI (S.2 6 (400 * j + t)) ∧ S.2 6 (400 * j + t) ≤ 1
def MD (K : xI) (E : aE) (S : aS) (τ : Nat) : Prop := K 69 22 = nI τ ∧ (∀ j, j < 4 → mQu K S j) ∧ MF K E S ∧ (∀ j, j < 5 → K 94 j = nI (S.2 4 j)) ∧ MH K E S τ
def MN (K : xI) (E : aE) (S : aS) : Prop := ∀ j, j < E 0 0 → sHd E j → ∃ N, K 88 j = nI N ∧ S.2 5 j ≤ N ∧ N ≤ E 0 5 ∧ ∀ k, S.2 5 j ≤ k → k < N → E 9 k ≠ j
def ML (K : xI) (E : aE) (S : aS) (τ : Nat) : Prop := ∀ j, j < 4 → ∀ t, t < 400 → K 95 (400 * j + t) = if t < τ then nI (sAt E S j t) else 0
theorem m78 {K : xI} {E : aE} {S : aS} {τ : Nat} (h : MD K E S τ) {j : Nat} (hj : j < 4) : K 86 j = nI (sLen S j) := by
  obtain ⟨s, -, h2, -⟩ := h.2.1 j hj
  exact h2
theorem mall {K : xI} {E : aE} {S : aS} {τ : Nat} (h : MD K E S τ) : sX10_all K = nI (sTot S) := by
  unfold sX10_all
  rw [m78 h (by decide), m78 h (by decide), m78 h (by decide), m78 h (by decide), nI_add, nI_add, nI_add]
  rfl
theorem len12 {E : aE} {S : aS} {τ : Nat} (hE : EI E) (h : SI E S τ) {j : Nat} (hj : j < 4) : sLen S j ≤ 12 := by
  have := len_le_tot S hj
  have := h.2.2.2.2.2.1
  have := hE.2.2.1
  omega
theorem mlg {K : xI} {E : aE} {S : aS} {τ : Nat} (hE : EI E) (hI : SI E S τ) (h : MD K E S τ) : ∀ j, j < 4 → mLg K j = sLg S j := by
  intro j
  induction j with
  | zero => intro _; rfl
  | succ j ih =>
    intro hj
    have hle := sLg_le S j
    have a := len12 hE hI hj
    have b := len12 hE hI (show sLg S j < 4 by omega)
    unfold mLg sLg
    rw [ih (by omega), m78 h hj, m78 h (show sLg S j < 4 by omega)]
    by_cases hc : sLen S (j + 1) < sLen S (sLg S j)
    · rw [if_pos hc, if_pos ((nI_ltI (by omega) (by omega)).mpr hc)]
    · rw [if_neg hc, if_neg (fun z => hc ((nI_ltI (by omega) (by omega)).mp z))]
theorem mcnt {K : xI} {E : aE} {S : aS} {τ rw : Nat} (hE : EI E) (hI : SI E S τ) (hs : MS K E rw) (h : MD K E S τ) : ∀ j, j ≤ E 0 0 → mCnt K j = nI (sCnt E S j) := by
  have hn4 := hE.2.1
  intro j
  induction j with
  | zero => intro _; rfl
  | succ j ih =>
    intro hj
    obtain ⟨k1, -, -, k4, -⟩ := hs.2.2.2.2.2.2.2 j (by omega)
    obtain ⟨e1, -, -, -, e4, -⟩ := hE.2.2.2.2.2.2.1 j (by omega)
    have a := len12 hE hI (show j < 4 by omega)
    unfold mCnt sCnt mC1 sPart
    rw [ih (by omega), k1, k4, m78 h (show j < 4 by omega)]
    by_cases hk : E 1 j = 0
    · rw [if_pos (by rw [hk]; decide), if_pos hk, nI_add]
      congr 1
      omega
    · rw [if_neg (nI_nle (by omega) (by omega)), if_neg hk]
      by_cases hc : E 4 j ≤ sLen S j
      · rw [if_pos ((nI_leI (by omega) (by omega)).mpr hc), nI_add]
        congr 1
        omega
      · rw [if_neg (fun z => hc ((nI_leI (by omega) (by omega)).mp z)), nI_add]
        congr 1
        omega
theorem sCnt_48 {E : aE} {S : aS} (h : ∀ j, j < 4 → sLen S j ≤ 12 ∧ sPart E j ≤ 12) : ∀ n, n ≤ 4 → sCnt E S n ≤ 12 * n := by
  intro n
  induction n with
  | zero => intro _; exact Nat.le_refl _
  | succ n ih =>
    intro hn
    unfold sCnt
    have := ih (by omega)
    have := h n (by omega)
    omega
theorem sCnt_b {E : aE} {S : aS} : ∀ n, (∀ j, j < n → sLen S j ≤ 12 ∧ sPart E j ≤ 12) → sCnt E S n ≤ 12 * n := by
  intro n
  induction n with
  | zero => intro _; exact Nat.le_refl _
  | succ n ih =>
    intro h
    unfold sCnt
    have := ih (fun j hj => h j (by omega))
    have := h n (by omega)
    omega
theorem cnt48 {E : aE} {S : aS} {τ : Nat} (hE : EI E) (hI : SI E S τ) : sCnt E S (E 0 0) ≤ 48 := by
  have hn4 := hE.2.1
  have := sCnt_b (E := E) (S := S) (E 0 0) (fun j hj => ⟨len12 hE hI (by omega), by
    obtain ⟨e1, -, -, -, e4, -⟩ := hE.2.2.2.2.2.2.1 j hj
    unfold sPart
    split <;> omega⟩)
  omega
/-- what the reference says of an offered letter -/
theorem takes_eval {K : xI} {E : aE} {S : aS} {τ rw : Nat} (hE : EI E) (hI : SI E S τ) (hs : MS K E rw) (h : MD K E S τ) (k : Int32) {lx : Nat} (hl : lx < E 0 0) :
    sX10_takes K (E 0 0) k lx = (if sAdm E S lx = 0 then 0 else 1) ∧ tX10_takes K (E 0 0) k lx = (if sAdm E S lx = 2 then tPush K (sLg S (E 0 0 - 1)) k else K) := by
  have hn4 := hE.2.1
  have hn1 := hE.1
  have hB := hE.2.2.1
  obtain ⟨m1, m0, -, -, m19, m20, -, mj⟩ := id hs
  obtain ⟨k1, k2, -, k4, -⟩ := mj lx hl
  obtain ⟨e1, e2, -, -, e4, -⟩ := hE.2.2.2.2.2.2.1 lx hl
  obtain ⟨ea, er, -⟩ := hE.2.2.2.2.2.2.2
  have a := len12 hE hI (show lx < 4 by omega)
  have ht := hI.2.2.2.2.2.1
  have hlg := sLg_le S (E 0 0 - 1)
  have b := len12 hE hI (show sLg S (E 0 0 - 1) < 4 by omega)
  have hc48 := cnt48 hE hI
  have hfree : K 69 0 - sX10_all K = nI (E 0 1 - sTot S) := by rw [m0, mall h, pk_sub ht]
  have hf0 : (K 69 0 - sX10_all K ≤ 0) ↔ E 0 1 ≤ sTot S := by
    rw [hfree, show (0 : Int32) = nI 0 from rfl, nI_leI (by omega) (by omega)]
    omega
  have hmul : (K 69 20 * (K 69 0 - sX10_all K) ≤ 16 * K 86 lx) ↔ E 0 2 * (E 0 1 - sTot S) ≤ 16 * sLen S lx := by
    have : E 0 2 * (E 0 1 - sTot S) ≤ 160 * 12 := Nat.mul_le_mul ea (by omega)
    rw [hfree, m20, m78 h (show lx < 4 by omega), pk_mul, show (16 : Int32) = nI 16 from rfl, pk_mul, nI_leI (by omega) (by omega)]
  have hmk : (K 71 lx ≤ K 86 lx) ↔ E 2 lx ≤ sLen S lx := by rw [k2, m78 h (show lx < 4 by omega), nI_leI (by omega) (by omega)]
  have hkd : (K 70 lx ≤ 0) ↔ E 1 lx = 0 := by
    rw [k1, show (0 : Int32) = nI 0 from rfl, nI_leI (by omega) (by omega)]
    omega
  have hpt : (K 86 lx < K 73 lx) ↔ sLen S lx < E 4 lx := by rw [k4, m78 h (show lx < 4 by omega), nI_ltI (by omega) (by omega)]
  have hct : (K 69 0 ≤ mCnt K (E 0 0)) ↔ E 0 1 ≤ sCnt E S (E 0 0) := by rw [m0, mcnt hE hI hs h _ (Nat.le_refl _), nI_leI (by omega) (by omega)]
  have hlo : (K 86 lx + 1 < K 86 (mLg K (E 0 0 - 1))) ↔ sLen S lx + 1 < sLen S (sLg S (E 0 0 - 1)) := by
    rw [mlg hE hI h _ (by omega), m78 h (show lx < 4 by omega), m78 h (show sLg S (E 0 0 - 1) < 4 by omega), nI_1, nI_ltI (by omega) (by omega)]
  have r0 : (K 69 19 = 0) ↔ E 0 3 = 0 := by rw [m19, show (0 : Int32) = nI 0 from rfl, nI_eq (by omega) (by omega)]
  have r1 : (K 69 19 = 1) ↔ E 0 3 = 1 := by rw [m19, show (1 : Int32) = nI 1 from rfl, nI_eq (by omega) (by omega)]
  have r3 : (K 69 19 = 3) ↔ E 0 3 = 3 := by rw [m19, show (3 : Int32) = nI 3 from rfl, nI_eq (by omega) (by omega)]
  unfold sX10_takes tX10_takes sAdm
  rw [mlg hE hI h _ (by omega)] at hlo ⊢
  simp only [r0, r1, r3, hf0, hmul, hmk, hkd, hpt, hct, hlo]
  by_cases q0 : E 0 3 = 0
  · simp only [q0, if_true]
    refine ⟨?_, ?_⟩
    · by_cases c1 : E 2 lx ≤ sLen S lx <;> by_cases c2 : E 0 1 ≤ sTot S <;> simp [c1, c2]
    · by_cases c1 : E 2 lx ≤ sLen S lx <;> by_cases c2 : E 0 1 ≤ sTot S <;> simp [c1, c2]
  · simp only [q0, if_false]
    by_cases q1 : E 0 3 = 1
    · simp only [q1, if_true]
      refine ⟨?_, ?_⟩
      · by_cases c1 : E 0 2 * (E 0 1 - sTot S) ≤ 16 * sLen S lx <;> by_cases c2 : E 0 1 ≤ sTot S <;> simp [c1, c2]
      · by_cases c1 : E 0 2 * (E 0 1 - sTot S) ≤ 16 * sLen S lx <;> by_cases c2 : E 0 1 ≤ sTot S <;> simp [c1, c2]
    · simp only [q1, if_false]
      by_cases q3 : E 0 3 = 3
      · simp only [q3, if_true]
        refine ⟨?_, ?_⟩
        · by_cases c1 : E 1 lx = 0 <;> by_cases c3 : sLen S lx < E 4 lx <;> by_cases c2 : E 0 1 ≤ sCnt E S (E 0 0) <;> simp [c1, c2, c3]
        · by_cases c1 : E 1 lx = 0 <;> by_cases c3 : sLen S lx < E 4 lx <;> by_cases c2 : E 0 1 ≤ sCnt E S (E 0 0) <;> simp [c1, c2, c3]
      · simp only [q3, if_false]
        by_cases c2 : E 0 1 ≤ sTot S
        · have c2' : ¬ sTot S < E 0 1 := by omega
          simp only [c2, c2', if_true, if_false]
          by_cases c3 : sLen S lx + 1 < sLen S (sLg S (E 0 0 - 1)) <;> simp [c3]
        · have c2' : sTot S < E 0 1 := by omega
          simp [c2, c2']
