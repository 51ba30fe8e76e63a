/-! a run, by plain numbers and lists -/
abbrev aE : Type := Nat → Nat → Nat
abbrev aS : Type := (Nat → List Nat) × (Nat → Nat → Nat)
def uN (f : Nat → Nat → Nat) (a k v : Nat) : Nat → Nat → Nat := fun b i => if b = a ∧ i = k then v else f b i
def uQ (q : Nat → List Nat) (l : Nat) (L : List Nat) : Nat → List Nat := fun j => if j = l then L else q j
theorem uN_at (f : Nat → Nat → Nat) (a k v : Nat) : uN f a k v a k = v := by simp [uN]
theorem uN_a (f : Nat → Nat → Nat) {a b : Nat} (k v : Nat) (h : b ≠ a) : uN f a k v b = f b := by
  funext i; simp [uN, h]
theorem uN_k (f : Nat → Nat → Nat) (a : Nat) {k i : Nat} (v : Nat) (h : i ≠ k) : uN f a k v a i = f a i := by simp [uN, h]
theorem uN_i (f : Nat → Nat → Nat) (a k v i : Nat) : uN f a k v a i = if i = k then v else f a i := by simp [uN]
theorem uQ_at (q : Nat → List Nat) (l : Nat) (L : List Nat) : uQ q l L l = L := by simp [uQ]
theorem uQ_ne (q : Nat → List Nat) {l j : Nat} (L : List Nat) (h : j ≠ l) : uQ q l L j = q j := by simp [uQ, h]
def sLen (S : aS) (l : Nat) : Nat := (S.1 l).length
def sTot (S : aS) : Nat := (S.1 0).length + (S.1 1).length + (S.1 2).length + (S.1 3).length
def sLg (S : aS) : Nat → Nat
  | 0 => 0
  | j + 1 => if sLen S (j + 1) < sLen S (sLg S j) then sLg S j else j + 1
def sPart (E : aE) (j : Nat) : Nat := if E 1 j = 0 then 0 else E 4 j
def sCnt (E : aE) (S : aS) : Nat → Nat
  | 0 => 0
  | j + 1 => sCnt E S j + max (sLen S j) (sPart E j)
def sAdm (E : aE) (S : aS) (l : Nat) : Nat :=
  if E 0 3 = 0 then (if E 2 l ≤ sLen S l then 0 else if E 0 1 ≤ sTot S then 0 else 1)
  else if E 0 3 = 1 then (if E 0 2 * (E 0 1 - sTot S) ≤ 16 * sLen S l then 0 else if E 0 1 ≤ sTot S then 0 else 1)
  else if E 0 3 = 3 then (if E 1 l ≠ 0 ∧ sLen S l < E 4 l then 1 else if E 0 1 ≤ sCnt E S (E 0 0) then 0 else 1)
  else (if sTot S < E 0 1 then 1 else if sLen S l + 1 < sLen S (sLg S (E 0 0 - 1)) then 2 else 0)
def sPush (S : aS) (τ lo k : Nat) : aS := (uQ S.1 lo (S.1 lo).dropLast, uN (uN (uN S.2 0 ((S.1 lo).getLastD 0) 2) 1 ((S.1 lo).getLastD 0) τ) 2 ((S.1 lo).getLastD 0) (k + 1))
def sTake (S : aS) (τ k l : Nat) : aS := (uQ S.1 l (S.1 l ++ [k]), uN (uN (uN S.2 3 k τ) 4 l (max (S.2 4 l) (sLen S l + 1))) 4 4 (max (S.2 4 4) (sTot S + 1)))
def sRef (S : aS) (τ k : Nat) : aS := (S.1, uN (uN S.2 0 k 1) 1 k τ)
def sPt (S : aS) (l k : Nat) : aS := (S.1, uN S.2 5 l (k + 1))
def sOff (E : aE) (S : aS) (τ k : Nat) : aS :=
  if sAdm E S (E 9 k) = 0 then sRef (sPt S (E 9 k) k) τ k
  else if sAdm E S (E 9 k) = 1 then sTake (sPt S (E 9 k) k) τ k (E 9 k)
  else sTake (sPush (sPt S (E 9 k) k) τ (sLg S (E 0 0 - 1)) k) τ k (E 9 k)
def sSend1 (E : aE) (τ : Nat) (S : aS) (l : Nat) : aS :=
  if S.1 l = [] then S else if (τ + 1) % E 3 l = 0 then (uQ S.1 l (S.1 l).tail, uN (uN S.2 0 ((S.1 l).headD 0) 0) 1 ((S.1 l).headD 0) τ) else S
def sSends (E : aE) (τ : Nat) (S : aS) : Nat → aS
  | 0 => S
  | j + 1 => sSend1 E τ (sSends E τ S j) j
def sHl (E : aE) (τ : Nat) (S : aS) (l : Nat) : Nat := if E 5 l ≤ sLen S l then 1 else if sLen S l ≤ E 6 l then 0 else if τ = 0 then 0 else S.2 6 (400 * l + (τ - 1))
def sTell1 (E : aE) (τ : Nat) (S : aS) (l : Nat) : aS := (S.1, uN S.2 6 (400 * l + τ) (sHl E τ S l))
def sTells (E : aE) (τ : Nat) (S : aS) : Nat → aS
  | 0 => S
  | j + 1 => sTell1 E τ (sTells E τ S j) j
def fdn (E : aE) (l : Nat) : Nat → Nat → Nat
  | 0, p => p
  | m + 1, p => if E 9 p = l then p else fdn E l m (p + 1)
abbrev sHd (E : aE) (l : Nat) : Prop := E 1 l = 2 ∧ E 0 4 = 0
abbrev sStop (E : aE) (τ : Nat) (S : aS) (l : Nat) : Prop := E 7 l < τ ∧ S.2 6 (400 * l + (τ - 1 - E 7 l)) ≠ 0
def sNx (E : aE) (S : aS) (l : Nat) : Nat := fdn E l (E 0 5 - S.2 5 l) (S.2 5 l)
def sHeld1 (E : aE) (τ : Nat) (S : aS) (l : Nat) : aS :=
  if sHd E l ∧ ¬ sStop E τ S l ∧ sNx E S l < E 0 5 ∧ E 8 (sNx E S l) ≤ τ then sOff E S τ (sNx E S l) else S
def sHelds (E : aE) (τ : Nat) (S : aS) : Nat → aS
  | 0 => S
  | j + 1 => sHeld1 E τ (sHelds E τ S j) j
def sDue (E : aE) (τ : Nat) : Nat → aS → Nat → aS × Nat
  | 0, S, p => (S, p)
  | m + 1, S, p => if E 8 p ≤ τ then sDue E τ m (if sHd E (E 9 p) then S else sOff E S τ p) (p + 1) else (S, p)
def cnt (p : Nat → Bool) : Nat → Nat
  | 0 => 0
  | k + 1 => cnt p k + (if p k = true then 1 else 0)
def sUnd (E : aE) (S : aS) : Nat := cnt (fun k => decide (S.2 5 (E 9 k) ≤ k)) (E 0 5)
def sAt (E : aE) (S : aS) (j t : Nat) : Nat := cnt (fun k => decide (E 9 k = j ∧ S.2 3 k ≤ t ∧ t < S.2 1 k)) (E 0 5)
def sTick (E : aE) (S : aS) (p τ : Nat) : aS × Nat :=
  let D := sDue E τ (E 0 5 - p) (sHelds E τ S (E 0 0)) p
  (sTells E τ (sSends E τ D.1 (E 0 0)) (E 0 0), D.2)
def sRun (E : aE) : Nat → aS → Nat → Nat → aS × Nat
  | 0, S, _, τ => (S, τ)
  | m + 1, S, p, τ => if sUnd E S + sTot S = 0 then (S, τ) else sRun E m (sTick E S p τ).1 (sTick E S p τ).2 (τ + 1)
def sIni : aS := (fun _ => [], fun a _ => if a = 0 then 3 else if a = 1 then 400 else if a = 3 then 400 else 0)
theorem cnt_ext {p q : Nat → Bool} : ∀ {n : Nat}, (∀ k, k < n → p k = q k) → cnt p n = cnt q n := by
  intro n
  induction n with
  | zero => intro _; rfl
  | succ n ih =>
    intro h
    unfold cnt
    rw [ih (fun k hk => h k (by omega)), h n (by omega)]
theorem cnt_one {p q : Nat → Bool} {k : Nat} : ∀ {n : Nat}, k < n → (∀ i, i < n → i ≠ k → p i = q i) → cnt p n + (if q k = true then 1 else 0) = cnt q n + (if p k = true then 1 else 0) := by
  intro n
  induction n with
  | zero => intro h; omega
  | succ n ih =>
    intro hk h
    unfold cnt
    by_cases hkn : k = n
    · subst hkn
      rw [cnt_ext (fun i hi => h i (by omega) (by omega))]
      omega
    · have := ih (by omega) (fun i hi hik => h i (by omega) hik)
      rw [h n (by omega) (by omega)]
      omega
theorem cnt_le (p : Nat → Bool) : ∀ n, cnt p n ≤ n := by
  intro n
  induction n with
  | zero => exact Nat.le_refl _
  | succ n ih => unfold cnt; split <;> omega
theorem cnt_0 {p : Nat → Bool} : ∀ {n : Nat}, cnt p n = 0 ↔ ∀ k, k < n → p k = false := by
  intro n
  induction n with
  | zero => exact ⟨fun _ k hk => absurd hk (by omega), fun _ => rfl⟩
  | succ n ih =>
    unfold cnt
    constructor
    · intro h k hk
      by_cases hkn : k = n
      · subst hkn
        cases hp : p k with
        | false => rfl
        | true => rw [hp] at h; simp at h
      · exact ih.mp (by omega) k (by omega)
    · intro h
      rw [ih.mpr (fun k hk => h k (by omega)), h n (by omega)]
      rfl
theorem sLg_le (S : aS) (j : Nat) : sLg S j ≤ j := by
  induction j with
  | zero => exact Nat.le_refl 0
  | succ j ih =>
    unfold sLg
    split
    · omega
    · exact Nat.le_refl _
theorem sTot_uQ (q : Nat → List Nat) (f : Nat → Nat → Nat) {l : Nat} (L : List Nat) (hl : l < 4) : sTot (uQ q l L, f) + (q l).length = sTot (q, f) + L.length := by
  rcases (show l = 0 ∨ l = 1 ∨ l = 2 ∨ l = 3 by omega) with rfl | rfl | rfl | rfl <;> simp only [sTot, uQ, reduceIte] <;> simp <;> omega
theorem len_le_tot (S : aS) {l : Nat} (hl : l < 4) : sLen S l ≤ sTot S := by
  rcases (show l = 0 ∨ l = 1 ∨ l = 2 ∨ l = 3 by omega) with rfl | rfl | rfl | rfl <;> simp only [sTot, sLen] <;> omega
/-- what holds of a run all along -/
def SI (E : aE) (S : aS) (τ : Nat) : Prop :=
  (∀ j, j < 4 → ∀ k, k ∈ S.1 j → k < E 0 5 ∧ E 9 k = j ∧ k < S.2 5 j ∧ S.2 3 k ≤ τ ∧ S.2 1 k = 400 ∧ S.2 0 k = 3)
  ∧ (∀ j, j < 4 → (S.1 j).Nodup)
  ∧ (∀ k, k < E 0 5 → S.2 5 (E 9 k) ≤ k → S.2 0 k = 3 ∧ S.2 1 k = 400 ∧ S.2 3 k = 400 ∧ S.2 2 k = 0)
  ∧ (∀ k, k < E 0 5 → S.2 3 k < 400 → S.2 1 k = 400 → k ∈ S.1 (E 9 k))
  ∧ (∀ k, k < E 0 5 → (S.2 3 k ≤ τ ∨ S.2 3 k = 400) ∧ (S.2 1 k ≤ τ ∨ S.2 1 k = 400) ∧ S.2 0 k ≤ 3 ∧ S.2 2 k ≤ 80)
  ∧ sTot S ≤ E 0 1 ∧ (E 0 3 = 3 → sCnt E S (E 0 0) ≤ E 0 1)
  ∧ (∀ j, j < 4 → sLen S j ≤ S.2 4 j ∧ S.2 4 j ≤ E 0 1) ∧ sTot S ≤ S.2 4 4 ∧ S.2 4 4 ≤ E 0 1
  ∧ (∀ j, j < 4 → sLen S j = sAt E S j τ)
/-- the givens of a run -/
def EI (E : aE) : Prop := 1 ≤ E 0 0 ∧ E 0 0 ≤ 4 ∧ E 0 1 ≤ 12 ∧ E 0 5 ≤ 80 ∧ (∀ k, k < E 0 5 → E 9 k < E 0 0 ∧ E 8 k < 40) ∧ (∀ j k, j ≤ k → k < E 0 5 → E 8 j ≤ E 8 k)
  ∧ (∀ j, j < E 0 0 → E 1 j ≤ 2 ∧ E 2 j ≤ 12 ∧ 1 ≤ E 3 j ∧ E 3 j ≤ 5 ∧ E 4 j ≤ 12 ∧ E 5 j ≤ 12 ∧ E 6 j ≤ 12 ∧ E 7 j ≤ 5) ∧ E 0 2 ≤ 160 ∧ E 0 3 ≤ 3 ∧ E 0 4 ≤ 1
theorem sCnt_ext (E : aE) {S T : aS} : ∀ {n : Nat}, (∀ j, j < n → sLen S j = sLen T j) → sCnt E S n = sCnt E T n := by
  intro n
  induction n with
  | zero => intro _; rfl
  | succ n ih =>
    intro h
    unfold sCnt
    rw [ih (fun j hj => h j (by omega)), h n (by omega)]
theorem sCnt_le (E : aE) {S T : aS} : ∀ {n : Nat}, (∀ j, j < n → sLen S j ≤ sLen T j) → sCnt E S n ≤ sCnt E T n := by
  intro n
  induction n with
  | zero => intro _; exact Nat.le_refl _
  | succ n ih =>
    intro h
    unfold sCnt
    have := ih (fun j hj => h j (by omega))
    have := h n (by omega)
    omega
theorem sCnt_one (E : aE) {S T : aS} {l : Nat} : ∀ {n : Nat}, l < n → (∀ j, j < n → j ≠ l → sLen S j = sLen T j) → sCnt E S n + max (sLen T l) (sPart E l) = sCnt E T n + max (sLen S l) (sPart E l) := by
  intro n
  induction n with
  | zero => intro h; omega
  | succ n ih =>
    intro hl h
    unfold sCnt
    by_cases hln : l = n
    · subst hln
      rw [sCnt_ext E (fun j hj => h j (by omega) (by omega))]
      omega
    · have := ih (by omega) (fun j hj hjl => h j (by omega) hjl)
      rw [h n (by omega) (by omega)]
      omega
theorem nin_q {E : aE} {S : aS} {τ k : Nat} (h : SI E S τ) (hp : S.2 5 (E 9 k) ≤ k) {j : Nat} (hj : j < 4) : k ∉ S.1 j := by
  intro hk
  obtain ⟨-, h2, h3, -⟩ := h.1 j hj k hk
  subst h2
  omega
theorem SI_ref {E : aE} {S : aS} {τ k : Nat} (hE : EI E) (h : SI E S τ) (hk : k < E 0 5) (hp : S.2 5 (E 9 k) ≤ k) (hτ : τ < 400) : SI E (sRef (sPt S (E 9 k) k) τ k) τ := by
  have hl4 : E 9 k < 4 := by have := hE.2.2.2.2.1 k hk; have := hE.2.1; omega
  have hnq := fun {j} => nin_q h hp (j := j)
  obtain ⟨h1, h2, h3, h4, h5, h6, h7, h8, h9, h10, h11⟩ := h
  obtain ⟨u0, u1, u3, u2⟩ := h3 k hk hp
  refine ⟨?_, h2, ?_, ?_, ?_, h6, fun e => Nat.le_trans (Nat.le_of_eq (sCnt_ext E (T := S) (fun j _ => rfl))) (h7 e), ?_, ?_, ?_, ?_⟩
  · intro j hj i hi
    have hik : i ≠ k := fun e => hnq hj (e ▸ hi)
    obtain ⟨a1, a2, a3, a4, a5, a6⟩ := h1 j hj i hi
    refine ⟨a1, a2, ?_, ?_, ?_, ?_⟩
    · by_cases hjl : j = E 9 k
      · subst hjl
        simp [sRef, sPt, uN]
        omega
      · simp [sRef, sPt, uN, hjl]
        exact a3
    · simpa [sRef, sPt, uN] using a4
    · simpa [sRef, sPt, uN, hik] using a5
    · simpa [sRef, sPt, uN, hik] using a6
  · intro i hi hpi
    have hik : i ≠ k := by
      intro e
      subst e
      simp [sRef, sPt, uN] at hpi
      omega
    by_cases hl : E 9 i = E 9 k
    · simp [sRef, sPt, uN, hl] at hpi
      obtain ⟨b1, b2, b3, b4⟩ := h3 i hi (by rw [hl]; omega)
      simp [sRef, sPt, uN, hik]
      exact ⟨b1, b2, b3, b4⟩
    · simp [sRef, sPt, uN, hl] at hpi
      obtain ⟨b1, b2, b3, b4⟩ := h3 i hi hpi
      simp [sRef, sPt, uN, hik]
      exact ⟨b1, b2, b3, b4⟩
  · intro i hi g3 g1
    by_cases hik : i = k
    · subst hik
      simp [sRef, sPt, uN] at g1
      omega
    · simp [sRef, sPt, uN, hik] at g3 g1
      exact h4 i hi g3 g1
  · intro i hi
    have := h5 i hi
    by_cases hik : i = k
    · subst hik
      simp [sRef, sPt, uN]
      omega
    · simp [sRef, sPt, uN, hik]
      exact this
  · intro j hj
    have := h8 j hj
    simpa [sRef, sPt, uN, sLen] using this
  · simpa [sRef, sPt, uN, sTot] using h9
  · simpa [sRef, sPt, uN, sTot] using h10
  · intro j hj
    have := h11 j hj
    have e : sAt E (sRef (sPt S (E 9 k) k) τ k) j τ = sAt E S j τ := by
      unfold sAt
      apply cnt_ext
      intro i hi
      by_cases hik : i = k
      · subst hik
        simp [sRef, sPt, uN, u3]
        omega
      · simp [sRef, sPt, uN, hik]
    rw [e]
    exact this
theorem SI_take {E : aE} {S : aS} {τ k : Nat} (hE : EI E) (h : SI E S τ) (hk : k < E 0 5) (hp : S.2 5 (E 9 k) ≤ k) (hτ : τ < 400) (hB : sTot S < E 0 1) (hC : E 0 3 = 3 → sCnt E (sTake (sPt S (E 9 k) k) τ k (E 9 k)) (E 0 0) ≤ E 0 1) : SI E (sTake (sPt S (E 9 k) k) τ k (E 9 k)) τ := by
  have hl4 : E 9 k < 4 := by have := hE.2.2.2.2.1 k hk; have := hE.2.1; omega
  have hnq := fun {j} => nin_q h hp (j := j)
  obtain ⟨h1, h2, h3, h4, h5, h6, h7, h8, h9, h10, h11⟩ := h
  obtain ⟨u0, u1, u3, u2⟩ := h3 k hk hp
  have ht : sTot (sTake (sPt S (E 9 k) k) τ k (E 9 k)) = sTot S + 1 := by
    have := sTot_uQ S.1 (sTake (sPt S (E 9 k) k) τ k (E 9 k)).2 (S.1 (E 9 k) ++ [k]) hl4
    simp only [List.length_append, List.length_singleton] at this
    have e : sTot (sTake (sPt S (E 9 k) k) τ k (E 9 k)) = sTot (uQ S.1 (E 9 k) (S.1 (E 9 k) ++ [k]), (sTake (sPt S (E 9 k) k) τ k (E 9 k)).2) := rfl
    have e2 : sTot (S.1, (sTake (sPt S (E 9 k) k) τ k (E 9 k)).2) = sTot S := rfl
    omega
  have hlen : ∀ j, j < 4 → sLen (sTake (sPt S (E 9 k) k) τ k (E 9 k)) j = sLen S j + (if j = E 9 k then 1 else 0) := by
    intro j hj
    by_cases hjl : j = E 9 k
    · subst hjl; simp [sLen, sTake, sPt, uQ]
    · simp [sLen, sTake, sPt, uQ, hjl]
  refine ⟨?_, ?_, ?_, ?_, ?_, by omega, hC, ?_, ?_, ?_, ?_⟩
  · intro j hj i hi
    by_cases hjl : j = E 9 k
    · subst hjl
      simp [sTake, sPt, uQ] at hi
      rcases hi with hi | hi
      · have hik : i ≠ k := fun e => hnq hj (e ▸ hi)
        obtain ⟨a1, a2, a3, a4, a5, a6⟩ := h1 _ hj i hi
        refine ⟨a1, a2, ?_, ?_, ?_, ?_⟩
        · simp [sTake, sPt, uN]; omega
        · simpa [sTake, sPt, uN, hik] using a4
        · simpa [sTake, sPt, uN, hik] using a5
        · simpa [sTake, sPt, uN, hik] using a6
      · subst hi
        refine ⟨hk, rfl, ?_, ?_, ?_, ?_⟩
        · simp [sTake, sPt, uN]
        · simp [sTake, sPt, uN]
        · simpa [sTake, sPt, uN] using u1
        · simpa [sTake, sPt, uN] using u0
    · simp [sTake, sPt, uQ, hjl] at hi
      have hik : i ≠ k := fun e => hnq hj (e ▸ hi)
      obtain ⟨a1, a2, a3, a4, a5, a6⟩ := h1 _ hj i hi
      refine ⟨a1, a2, ?_, ?_, ?_, ?_⟩
      · simpa [sTake, sPt, uN, hjl] using a3
      · simpa [sTake, sPt, uN, hik] using a4
      · simpa [sTake, sPt, uN, hik] using a5
      · simpa [sTake, sPt, uN, hik] using a6
  · intro j hj
    by_cases hjl : j = E 9 k
    · subst hjl
      have : (sTake (sPt S (E 9 k) k) τ k (E 9 k)).1 (E 9 k) = S.1 (E 9 k) ++ [k] := by simp [sTake, sPt, uQ]
      rw [this]
      rw [List.nodup_append]
      refine ⟨h2 _ hj, by simp, ?_⟩
      intro a ha b hb
      simp at hb
      subst hb
      intro e
      exact hnq hj (e ▸ ha)
    · simpa [sTake, sPt, uQ, hjl] using h2 j hj
  · intro i hi hpi
    have hik : i ≠ k := by
      intro e
      subst e
      simp [sTake, sPt, uN] at hpi
      omega
    by_cases hl : E 9 i = E 9 k
    · simp [sTake, sPt, uN, hl] at hpi
      obtain ⟨b1, b2, b3, b4⟩ := h3 i hi (by rw [hl]; omega)
      simp [sTake, sPt, uN, hik]
      exact ⟨b1, b2, b3, b4⟩
    · simp [sTake, sPt, uN, hl] at hpi
      obtain ⟨b1, b2, b3, b4⟩ := h3 i hi hpi
      simp [sTake, sPt, uN, hik]
      exact ⟨b1, b2, b3, b4⟩
  · intro i hi g3 g1
    by_cases hik : i = k
    · subst hik
      simp [sTake, sPt, uQ]
    · simp [sTake, sPt, uN, hik] at g3 g1
      have := h4 i hi g3 g1
      by_cases hl : E 9 i = E 9 k
      · rw [hl] at this ⊢
        simp [sTake, sPt, uQ]
        exact Or.inl this
      · simp [sTake, sPt, uQ, hl]
        exact this
  · intro i hi
    have := h5 i hi
    by_cases hik : i = k
    · subst hik
      simp [sTake, sPt, uN]
      omega
    · simp [sTake, sPt, uN, hik]
      exact this
  · intro j hj
    have b1 := h8 j hj
    have b2 := len_le_tot S hj
    rw [hlen j hj]
    by_cases hjl : j = E 9 k
    · subst hjl
      have e4 : E 9 k ≠ 4 := by omega
      simp [sTake, sPt, uN, e4]
      have : sLen (S.1, uN S.2 5 (E 9 k) (k + 1)) (E 9 k) = sLen S (E 9 k) := rfl
      rw [this]
      omega
    · have e4 : j ≠ 4 := by omega
      simp [sTake, sPt, uN, hjl, e4]
      exact b1
  · rw [ht]
    have : sTot (sPt S (E 9 k) k) = sTot S := rfl
    have e : (sTake (sPt S (E 9 k) k) τ k (E 9 k)).2 4 4 = max (S.2 4 4) (sTot S + 1) := by simp [sTake, sPt, uN, sTot]
    rw [e]
    omega
  · have e : (sTake (sPt S (E 9 k) k) τ k (E 9 k)).2 4 4 = max (S.2 4 4) (sTot S + 1) := by simp [sTake, sPt, uN, sTot]
    rw [e]
    omega
  · intro j hj
    rw [hlen j hj, h11 j hj]
    have := cnt_one (p := fun i => decide (E 9 i = j ∧ (sTake (sPt S (E 9 k) k) τ k (E 9 k)).2 3 i ≤ τ ∧ τ < (sTake (sPt S (E 9 k) k) τ k (E 9 k)).2 1 i)) (q := fun i => decide (E 9 i = j ∧ S.2 3 i ≤ τ ∧ τ < S.2 1 i)) hk (by
      intro i hi hik
      simp [sTake, sPt, uN, hik])
    have e1 : decide (E 9 k = j ∧ S.2 3 k ≤ τ ∧ τ < S.2 1 k) = false := by
      rw [u3]
      simp
      omega
    have e2 : decide (E 9 k = j ∧ (sTake (sPt S (E 9 k) k) τ k (E 9 k)).2 3 k ≤ τ ∧ τ < (sTake (sPt S (E 9 k) k) τ k (E 9 k)).2 1 k) = decide (E 9 k = j) := by
      simp [sTake, sPt, uN, u1, hτ]
    simp only [e1, e2] at this
    unfold sAt
    by_cases hjl : j = E 9 k
    · subst hjl
      simp at this ⊢
      omega
    · have hjl' : ¬ E 9 k = j := fun e => hjl e.symm
      simp [hjl, hjl'] at this ⊢
      omega
theorem push_pt (S : aS) (l k τ lo i : Nat) : sPush (sPt S l k) τ lo i = sPt (sPush S τ lo i) l k := by
  unfold sPush sPt
  refine Prod.ext rfl ?_
  funext b x
  simp only [uN]
  by_cases h5 : b = 5
  · subst h5; simp
  · simp [h5]
theorem SI_push {E : aE} {S : aS} {τ k lo : Nat} (hE : EI E) (h : SI E S τ) (hk : k < E 0 5) (hlo : lo < 4) (hne : 0 < sLen S lo) (hτ : τ < 400) : SI E (sPush S τ lo k) τ ∧ sTot (sPush S τ lo k) + 1 = sTot S := by
  have hne' : S.1 lo ≠ [] := by intro e; unfold sLen at hne; rw [e] at hne; simp at hne
  have hc80 := hE.2.2.2.1
  obtain ⟨g, L, hL⟩ : ∃ g L, S.1 lo = L ++ [g] := ⟨_, _, (List.dropLast_concat_getLast hne').symm⟩
  have eg : (S.1 lo).getLastD 0 = g := by rw [hL]; simp
  have ed : (S.1 lo).dropLast = L := by rw [hL]; simp
  have eS : sPush S τ lo k = (uQ S.1 lo L, uN (uN (uN S.2 0 g 2) 1 g τ) 2 g (k + 1)) := by unfold sPush; rw [eg, ed]
  have hgm : g ∈ S.1 lo := by rw [hL]; simp
  have hlenlo : sLen S lo = L.length + 1 := by unfold sLen; rw [hL]; simp
  obtain ⟨h1, h2, h3, h4, h5, h6, h7, h8, h9, h10, h11⟩ := h
  obtain ⟨g1, g2, g3, g4, g5, g6⟩ := h1 lo hlo g hgm
  have hnd : g ∉ L := by
    have := h2 lo hlo
    rw [hL, List.nodup_append] at this
    intro hm
    exact this.2.2 g hm g (by simp) rfl
  have hgj : ∀ j, j < 4 → ∀ i, i ∈ uQ S.1 lo L j → i ∈ S.1 j ∧ i ≠ g := by
    intro j hj i hi
    by_cases hjl : j = lo
    · subst hjl
      rw [uQ_at] at hi
      exact ⟨by rw [hL]; simp [hi], fun e => hnd (e ▸ hi)⟩
    · rw [uQ_ne _ _ hjl] at hi
      refine ⟨hi, fun e => ?_⟩
      subst e
      exact hjl ((h1 j hj _ hi).2.1.symm.trans g2)
  have htot : sTot (sPush S τ lo k) + 1 = sTot S := by
    rw [eS]
    have := sTot_uQ S.1 (uN (uN (uN S.2 0 g 2) 1 g τ) 2 g (k + 1)) L hlo
    have e2 : sTot (S.1, uN (uN (uN S.2 0 g 2) 1 g τ) 2 g (k + 1)) = sTot S := rfl
    unfold sLen at hlenlo
    omega
  have hlen : ∀ j, j < 4 → sLen (sPush S τ lo k) j + (if j = lo then 1 else 0) = sLen S j := by
    intro j hj
    rw [eS]
    by_cases hjl : j = lo
    · subst hjl; rw [hlenlo]; simp [sLen, uQ]
    · simp [sLen, uQ, hjl]
  refine ⟨?_, htot⟩
  have hle : ∀ j, j < 4 → sLen (sPush S τ lo k) j ≤ sLen S j := fun j hj => by have := hlen j hj; omega
  refine ⟨?_, ?_, ?_, ?_, ?_, by omega, fun e => Nat.le_trans (sCnt_le E (fun j hj => hle j (by have := hE.2.1; omega))) (h7 e), ?_, ?_, ?_, ?_⟩
  · intro j hj i hi
    rw [eS] at hi ⊢
    obtain ⟨hi1, hi2⟩ := hgj j hj i hi
    have := h1 j hj i hi1
    simpa [uN, hi2] using this
  · intro j hj
    rw [eS]
    by_cases hjl : j = lo
    · subst hjl
      have := h2 j hj
      rw [hL, List.nodup_append] at this
      simpa [uQ] using this.1
    · simpa [uQ, hjl] using h2 j hj
  · intro i hi hpi
    rw [eS] at hpi ⊢
    have hig : i ≠ g := by
      intro e
      subst e
      simp [uN] at hpi
      rw [g2] at hpi
      omega
    simp [uN] at hpi
    have := h3 i hi hpi
    simpa [uN, hig] using this
  · intro i hi q3 q1
    rw [eS] at q3 q1 ⊢
    by_cases hig : i = g
    · subst hig
      simp [uN] at q1
      omega
    · simp [uN, hig] at q3 q1
      have hm := h4 i hi q3 q1
      by_cases hl : E 9 i = lo
      · rw [hl] at hm ⊢
        rw [hL] at hm
        simp [hig] at hm
        simpa [uQ] using hm
      · simpa [uQ, hl] using hm
  · intro i hi
    rw [eS]
    have := h5 i hi
    by_cases hig : i = g
    · subst hig
      simp [uN]
      omega
    · simpa [uN, hig] using this
  · intro j hj
    have b1 := h8 j hj
    have b2 := hle j hj
    have e4 : (sPush S τ lo k).2 4 j = S.2 4 j := by rw [eS]; simp [uN]
    rw [e4]
    omega
  · have e4 : (sPush S τ lo k).2 4 4 = S.2 4 4 := by rw [eS]; simp [uN]
    rw [e4]
    omega
  · have e4 : (sPush S τ lo k).2 4 4 = S.2 4 4 := by rw [eS]; simp [uN]
    rw [e4]
    exact h10
  · intro j hj
    have a1 := hlen j hj
    have a2 := h11 j hj
    have := cnt_one (p := fun i => decide (E 9 i = j ∧ (sPush S τ lo k).2 3 i ≤ τ ∧ τ < (sPush S τ lo k).2 1 i)) (q := fun i => decide (E 9 i = j ∧ S.2 3 i ≤ τ ∧ τ < S.2 1 i)) g1 (by
      intro i hi hik
      rw [eS]
      simp [uN, hik])
    have e1 : decide (E 9 g = j ∧ S.2 3 g ≤ τ ∧ τ < S.2 1 g) = decide (j = lo) := by
      rw [g5, g2]
      by_cases hjl : j = lo
      · subst hjl; simp [g4, hτ]
      · have : ¬ lo = j := fun e => hjl e.symm
        simp [hjl, this]
    have e2 : decide (E 9 g = j ∧ (sPush S τ lo k).2 3 g ≤ τ ∧ τ < (sPush S τ lo k).2 1 g) = false := by
      rw [eS]
      simp [uN]
    simp only [e1, e2] at this
    unfold sAt at a2 ⊢
    by_cases hjl : j = lo
    · simp [hjl] at this a1 a2 ⊢
      omega
    · simp [hjl] at this a1 a2 ⊢
      omega
theorem sLg_pos {E : aE} {S : aS} {l : Nat} (h : sLen S l + 1 < sLen S (sLg S (E 0 0 - 1))) : 0 < sLen S (sLg S (E 0 0 - 1)) := by omega
theorem q_hi {E : aE} {S : aS} {τ : Nat} (hE : EI E) (h : SI E S τ) {j : Nat} (hj : j < 4) (hn : E 0 0 ≤ j) : S.1 j = [] := by
  cases hq : S.1 j with
  | nil => rfl
  | cons a r =>
    obtain ⟨h1, h2, -⟩ := h.1 j hj a (by rw [hq]; simp)
    have := (hE.2.2.2.2.1 a h1).1
    omega
theorem tot_le_cnt {E : aE} {S : aS} (hn4 : E 0 0 ≤ 4) (hq : ∀ j, j < 4 → E 0 0 ≤ j → S.1 j = []) : sTot S ≤ sCnt E S (E 0 0) := by
  generalize E 0 0 = n at *
  have z : ∀ j, j < 4 → n ≤ j → (S.1 j).length = 0 := fun j hj hn => by rw [hq j hj hn]; rfl
  rcases (show n = 0 ∨ n = 1 ∨ n = 2 ∨ n = 3 ∨ n = 4 by omega) with rfl | rfl | rfl | rfl | rfl
  · have := z 0 (by omega) (by omega); have := z 1 (by omega) (by omega); have := z 2 (by omega) (by omega); have := z 3 (by omega) (by omega)
    simp only [sTot, sCnt, sLen]; omega
  · have := z 1 (by omega) (by omega); have := z 2 (by omega) (by omega); have := z 3 (by omega) (by omega)
    simp only [sTot, sCnt, sLen]; omega
  · have := z 2 (by omega) (by omega); have := z 3 (by omega) (by omega)
    simp only [sTot, sCnt, sLen]; omega
  · have := z 3 (by omega) (by omega)
    simp only [sTot, sCnt, sLen]; omega
  · simp only [sTot, sCnt, sLen]; omega
/-- an offered letter keeps what holds -/
theorem SI_off {E : aE} {S : aS} {τ k : Nat} (hE : EI E) (h : SI E S τ) (hk : k < E 0 5) (hp : S.2 5 (E 9 k) ≤ k) (hτ : τ < 400) : SI E (sOff E S τ k) τ := by
  have hln : E 9 k < E 0 0 := (hE.2.2.2.2.1 k hk).1
  have hn4 : E 0 0 ≤ 4 := hE.2.1
  have hlt : sLen (sTake (sPt S (E 9 k) k) τ k (E 9 k)) (E 9 k) = sLen S (E 9 k) + 1 := by simp [sLen, sTake, sPt, uQ]
  have hco := sCnt_one E (S := sTake (sPt S (E 9 k) k) τ k (E 9 k)) (T := S) hln (fun j _ hj => by simp [sLen, sTake, sPt, uQ, hj])
  rw [hlt] at hco
  unfold sOff
  by_cases h0 : sAdm E S (E 9 k) = 0
  · rw [if_pos h0]; exact SI_ref hE h hk hp hτ
  · rw [if_neg h0]
    by_cases h1 : sAdm E S (E 9 k) = 1
    · rw [if_pos h1]
      have hBC : sTot S < E 0 1 ∧ (E 0 3 = 3 → sCnt E (sTake (sPt S (E 9 k) k) τ k (E 9 k)) (E 0 0) ≤ E 0 1) := by
        unfold sAdm at h1
        by_cases r0 : E 0 3 = 0
        · rw [if_pos r0] at h1
          refine ⟨?_, fun e => by omega⟩
          split at h1
          · omega
          · split at h1 <;> omega
        · rw [if_neg r0] at h1
          by_cases r1 : E 0 3 = 1
          · rw [if_pos r1] at h1
            refine ⟨?_, fun e => by omega⟩
            split at h1
            · omega
            · split at h1 <;> omega
          · rw [if_neg r1] at h1
            by_cases r3 : E 0 3 = 3
            · rw [if_pos r3] at h1
              have hc := h.2.2.2.2.2.2.1 r3
              have hnew : sCnt E (sTake (sPt S (E 9 k) k) τ k (E 9 k)) (E 0 0) ≤ E 0 1 := by
                split at h1
                · next hq =>
                  have : sPart E (E 9 k) = E 4 (E 9 k) := if_neg hq.1
                  omega
                · split at h1
                  · omega
                  · omega
              refine ⟨?_, fun _ => hnew⟩
              have hq2 : ∀ j, j < 4 → E 0 0 ≤ j → (sTake (sPt S (E 9 k) k) τ k (E 9 k)).1 j = [] := by
                intro j hj hnj
                have hjl : j ≠ E 9 k := by omega
                have := q_hi hE h hj hnj
                simpa [sTake, sPt, uQ, hjl] using this
              have ht := tot_le_cnt (S := sTake (sPt S (E 9 k) k) τ k (E 9 k)) hn4 hq2
              have hu := sTot_uQ S.1 (sTake (sPt S (E 9 k) k) τ k (E 9 k)).2 (S.1 (E 9 k) ++ [k]) (show E 9 k < 4 by omega)
              simp only [List.length_append, List.length_singleton] at hu
              have e : sTot (sTake (sPt S (E 9 k) k) τ k (E 9 k)) = sTot (uQ S.1 (E 9 k) (S.1 (E 9 k) ++ [k]), (sTake (sPt S (E 9 k) k) τ k (E 9 k)).2) := rfl
              have e2 : sTot (S.1, (sTake (sPt S (E 9 k) k) τ k (E 9 k)).2) = sTot S := rfl
              omega
            · rw [if_neg r3] at h1
              refine ⟨?_, fun e => by omega⟩
              split at h1
              · omega
              · split at h1 <;> omega
      exact SI_take hE h hk hp hτ hBC.1 hBC.2
    · rw [if_neg h1]
      have h2 : E 0 3 ≠ 3 ∧ sLen S (E 9 k) + 1 < sLen S (sLg S (E 0 0 - 1)) := by
        unfold sAdm at h0 h1
        refine ⟨fun r3 => ?_, ?_⟩
        · rw [if_neg (by omega), if_neg (by omega), if_pos r3] at h0 h1
          by_cases q : E 1 (E 9 k) ≠ 0 ∧ sLen S (E 9 k) < E 4 (E 9 k)
          · rw [if_pos q] at h1; exact h1 rfl
          · rw [if_neg q] at h0 h1
            by_cases q2 : E 0 1 ≤ sCnt E S (E 0 0)
            · rw [if_pos q2] at h0; exact h0 rfl
            · rw [if_neg q2] at h1; exact h1 rfl
        · by_cases r0 : E 0 3 = 0
          · rw [if_pos r0] at h0 h1
            exfalso
            split at h1
            · next q => rw [if_pos q] at h0; omega
            · next q => rw [if_neg q] at h0; split at h1 <;> simp_all
          · rw [if_neg r0] at h0 h1
            by_cases r1 : E 0 3 = 1
            · rw [if_pos r1] at h0 h1
              exfalso
              split at h1
              · next q => rw [if_pos q] at h0; omega
              · next q => rw [if_neg q] at h0; split at h1 <;> simp_all
            · rw [if_neg r1] at h0 h1
              by_cases r3 : E 0 3 = 3
              · rw [if_pos r3] at h0 h1
                exfalso
                split at h1
                · next q => rw [if_pos q] at h0; omega
                · next q => rw [if_neg q] at h0; split at h1 <;> simp_all
              · rw [if_neg r3] at h0 h1
                split at h1
                · omega
                · next q =>
                  rw [if_neg q] at h0
                  by_cases q2 : sLen S (E 9 k) + 1 < sLen S (sLg S (E 0 0 - 1))
                  · exact q2
                  · rw [if_neg q2] at h0; exact absurd rfl h0
      rw [push_pt]
      have hlo4 : sLg S (E 0 0 - 1) < 4 := by have := sLg_le S (E 0 0 - 1); have := hE.1; omega
      obtain ⟨p1, p2⟩ := SI_push hE h hk hlo4 (by omega) hτ
      refine SI_take hE p1 hk ?_ hτ (by have := h.2.2.2.2.2.1; omega) (fun e => absurd e h2.1)
      have : (sPush S τ (sLg S (E 0 0 - 1)) k).2 5 = S.2 5 := by funext i; simp [sPush, uN]
      rw [this]
      exact hp
theorem SI_send {E : aE} {S : aS} {τ l : Nat} (hE : EI E) (h : SI E S τ) (hl : l < 4) (hτ : τ < 400) : SI E (sSend1 E τ S l) τ := by
  unfold sSend1
  by_cases hn : S.1 l = []
  · rw [if_pos hn]; exact h
  rw [if_neg hn]
  by_cases hm : (τ + 1) % E 3 l = 0
  case neg => rw [if_neg hm]; exact h
  rw [if_pos hm]
  obtain ⟨g, L, hL⟩ : ∃ g L, S.1 l = g :: L := by
    cases hq : S.1 l with
    | nil => exact absurd hq hn
    | cons g L => exact ⟨g, L, rfl⟩
  have eg : (S.1 l).headD 0 = g := by rw [hL]; rfl
  have ed : (S.1 l).tail = L := by rw [hL]; rfl
  rw [eg, ed]
  generalize hS : ((uQ S.1 l L, uN (uN S.2 0 g 0) 1 g τ) : aS) = T
  have hgm : g ∈ S.1 l := by rw [hL]; simp
  have hlenlo : sLen S l = L.length + 1 := by unfold sLen; rw [hL]; simp
  obtain ⟨h1, h2, h3, h4, h5, h6, h7, h8, h9, h10, h11⟩ := h
  obtain ⟨g1, g2, g3, g4, g5, g6⟩ := h1 l hl g hgm
  have hnd : g ∉ L := by
    have := h2 l hl
    rw [hL, List.nodup_cons] at this
    exact this.1
  have hgj : ∀ j, j < 4 → ∀ i, i ∈ uQ S.1 l L j → i ∈ S.1 j ∧ i ≠ g := by
    intro j hj i hi
    by_cases hjl : j = l
    · subst hjl
      rw [uQ_at] at hi
      exact ⟨by rw [hL]; simp [hi], fun e => hnd (e ▸ hi)⟩
    · rw [uQ_ne _ _ hjl] at hi
      refine ⟨hi, fun e => ?_⟩
      subst e
      exact hjl ((h1 j hj _ hi).2.1.symm.trans g2)
  have htot : sTot T + 1 = sTot S := by
    rw [← hS]
    have := sTot_uQ S.1 (uN (uN S.2 0 g 0) 1 g τ) L hl
    have e2 : sTot (S.1, uN (uN S.2 0 g 0) 1 g τ) = sTot S := rfl
    unfold sLen at hlenlo
    omega
  have hlen : ∀ j, j < 4 → sLen T j + (if j = l then 1 else 0) = sLen S j := by
    intro j hj
    rw [← hS]
    by_cases hjl : j = l
    · subst hjl; rw [hlenlo]; simp [sLen, uQ]
    · simp [sLen, uQ, hjl]
  have hle : ∀ j, j < 4 → sLen T j ≤ sLen S j := fun j hj => by have := hlen j hj; omega
  refine ⟨?_, ?_, ?_, ?_, ?_, by omega, fun e => Nat.le_trans (sCnt_le E (fun j hj => hle j (by have := hE.2.1; omega))) (h7 e), ?_, ?_, ?_, ?_⟩
  · intro j hj i hi
    rw [← hS] at hi ⊢
    obtain ⟨hi1, hi2⟩ := hgj j hj i hi
    have := h1 j hj i hi1
    simpa [uN, hi2] using this
  · intro j hj
    rw [← hS]
    by_cases hjl : j = l
    · subst hjl
      have := h2 j hj
      rw [hL, List.nodup_cons] at this
      simpa [uQ] using this.2
    · simpa [uQ, hjl] using h2 j hj
  · intro i hi hpi
    rw [← hS] at hpi ⊢
    have hig : i ≠ g := by
      intro e
      subst e
      simp [uN] at hpi
      rw [g2] at hpi
      omega
    simp [uN] at hpi
    have := h3 i hi hpi
    simpa [uN, hig] using this
  · intro i hi q3 q1
    rw [← hS] at q3 q1 ⊢
    by_cases hig : i = g
    · subst hig
      simp [uN] at q1
      omega
    · simp [uN, hig] at q3 q1
      have hm := h4 i hi q3 q1
      by_cases hl2 : E 9 i = l
      · rw [hl2] at hm ⊢
        rw [hL] at hm
        simp [hig] at hm
        simpa [uQ] using hm
      · simpa [uQ, hl2] using hm
  · intro i hi
    rw [← hS]
    have := h5 i hi
    by_cases hig : i = g
    · subst hig
      simp [uN]
      omega
    · simpa [uN, hig] using this
  · intro j hj
    have b1 := h8 j hj
    have b2 := hle j hj
    have e4 : T.2 4 j = S.2 4 j := by rw [← hS]; simp [uN]
    rw [e4]
    omega
  · have e4 : T.2 4 4 = S.2 4 4 := by rw [← hS]; simp [uN]
    rw [e4]
    omega
  · have e4 : T.2 4 4 = S.2 4 4 := by rw [← hS]; simp [uN]
    rw [e4]
    exact h10
  · intro j hj
    have a1 := hlen j hj
    have a2 := h11 j hj
    have := cnt_one (p := fun i => decide (E 9 i = j ∧ T.2 3 i ≤ τ ∧ τ < T.2 1 i)) (q := fun i => decide (E 9 i = j ∧ S.2 3 i ≤ τ ∧ τ < S.2 1 i)) g1 (by
      intro i hi hik
      rw [← hS]
      simp [uN, hik])
    have e1 : decide (E 9 g = j ∧ S.2 3 g ≤ τ ∧ τ < S.2 1 g) = decide (j = l) := by
      rw [g5, g2]
      by_cases hjl : j = l
      · subst hjl; simp [g4, hτ]
      · have : ¬ l = j := fun e => hjl e.symm
        simp [hjl, this]
    have e2 : decide (E 9 g = j ∧ T.2 3 g ≤ τ ∧ τ < T.2 1 g) = false := by
      rw [← hS]
      simp [uN]
    simp only [e1, e2] at this
    unfold sAt at a2 ⊢
    by_cases hjl : j = l
    · simp [hjl] at this a1 a2 ⊢
      omega
    · simp [hjl] at this a1 a2 ⊢
      omega
theorem SI_sends {E : aE} {S : aS} {τ : Nat} (hE : EI E) (h : SI E S τ) (hτ : τ < 400) : ∀ j, j ≤ 4 → SI E (sSends E τ S j) τ := by
  intro j
  induction j with
  | zero => intro _; exact h
  | succ j ih => intro hj; exact SI_send hE (ih (by omega)) (by omega) hτ
theorem SI_tell {E : aE} {S : aS} {τ : Nat} (l : Nat) (h : SI E S τ) : SI E (sTell1 E τ S l) τ := by
  have e : ∀ a, a ≠ 6 → (sTell1 E τ S l).2 a = S.2 a := fun a ha => by funext i; simp [sTell1, uN, ha]
  have e0 := e 0 (by decide); have e1 := e 1 (by decide); have e2 := e 2 (by decide); have e3 := e 3 (by decide); have e4 := e 4 (by decide); have e5 := e 5 (by decide)
  unfold SI sAt at h ⊢
  have q : (sTell1 E τ S l).1 = S.1 := rfl
  have ql : ∀ j, sLen (sTell1 E τ S l) j = sLen S j := fun _ => rfl
  have qt : sTot (sTell1 E τ S l) = sTot S := rfl
  have qc : sCnt E (sTell1 E τ S l) (E 0 0) = sCnt E S (E 0 0) := sCnt_ext E (fun _ _ => rfl)
  simp only [e0, e1, e2, e3, e4, e5, q, ql, qt, qc]
  exact h
theorem SI_tells {E : aE} {S : aS} {τ : Nat} (h : SI E S τ) : ∀ j, SI E (sTells E τ S j) τ := by
  intro j
  induction j with
  | zero => exact h
  | succ j ih => exact SI_tell j ih
/-- the next tick begins -/
theorem SI_next {E : aE} {S : aS} {τ : Nat} (h : SI E S τ) (hτ : τ + 1 < 400) : SI E S (τ + 1) := by
  obtain ⟨h1, h2, h3, h4, h5, h6, h7, h8, h9, h10, h11⟩ := h
  refine ⟨?_, h2, h3, h4, ?_, h6, h7, h8, h9, h10, ?_⟩
  · intro j hj k hk
    obtain ⟨a1, a2, a3, a4, a5, a6⟩ := h1 j hj k hk
    exact ⟨a1, a2, a3, by omega, a5, a6⟩
  · intro k hk
    have := h5 k hk
    omega
  · intro j hj
    rw [h11 j hj]
    unfold sAt
    apply cnt_ext
    intro k hk
    have := h5 k hk
    apply decide_eq_decide.mpr
    constructor
    · intro ⟨x, y, z⟩; exact ⟨x, by omega, by omega⟩
    · intro ⟨x, y, z⟩; exact ⟨x, by omega, by omega⟩
/-- where the letters that are due begin -/
def DI (E : aE) (S : aS) (p : Nat) : Prop := p ≤ E 0 5 ∧ (∀ l, ¬ sHd E l → S.2 5 l ≤ p) ∧ (∀ k, k < p → ¬ sHd E (E 9 k) → k < S.2 5 (E 9 k)) ∧ (∀ l, S.2 5 l ≤ E 0 5)
theorem off_P (E : aE) (S : aS) (τ k : Nat) : (sOff E S τ k).2 5 = uN S.2 5 (E 9 k) (k + 1) 5 := by
  unfold sOff
  split
  · funext i; simp [sRef, sPt, uN]
  · split
    · funext i; simp [sTake, sPt, uN]
    · funext i; simp [sTake, sPush, sPt, uN]
theorem off_H (E : aE) (S : aS) (τ k : Nat) : (sOff E S τ k).2 6 = S.2 6 := by
  unfold sOff
  split
  · funext i; simp [sRef, sPt, uN]
  · split
    · funext i; simp [sTake, sPt, uN]
    · funext i; simp [sTake, sPush, sPt, uN]
theorem fdn_ge (E : aE) (l : Nat) : ∀ m p, p ≤ fdn E l m p := by
  intro m
  induction m with
  | zero => intro p; exact Nat.le_refl _
  | succ m ih =>
    intro p
    unfold fdn
    split
    · exact Nat.le_refl _
    · have := ih (p + 1); omega
theorem fdn_le (E : aE) (l : Nat) : ∀ m p, fdn E l m p ≤ p + m := by
  intro m
  induction m with
  | zero => intro p; exact Nat.le_refl _
  | succ m ih =>
    intro p
    unfold fdn
    split
    · omega
    · have := ih (p + 1); omega
theorem fdn_at (E : aE) (l : Nat) : ∀ m p, fdn E l m p < p + m → E 9 (fdn E l m p) = l := by
  intro m
  induction m with
  | zero => intro p h; exact absurd h (Nat.lt_irrefl _)
  | succ m ih =>
    intro p h
    unfold fdn at h ⊢
    by_cases hc : E 9 p = l
    · rw [if_pos hc]; exact hc
    · rw [if_neg hc] at h ⊢
      exact ih (p + 1) (by omega)
theorem fdn_no (E : aE) (l : Nat) : ∀ m p k, p ≤ k → k < fdn E l m p → E 9 k ≠ l := by
  intro m
  induction m with
  | zero => intro p k h1 h2; exact absurd h2 (Nat.not_lt.mpr h1)
  | succ m ih =>
    intro p k h1 h2
    unfold fdn at h2
    by_cases hc : E 9 p = l
    · rw [if_pos hc] at h2; omega
    · rw [if_neg hc] at h2
      by_cases hkp : k = p
      · subst hkp; exact hc
      · exact ih (p + 1) k (by omega) h2
theorem held1_inv {E : aE} {S : aS} {τ l p : Nat} (hE : EI E) (h : SI E S τ) (hd : DI E S p) (hτ : τ < 400) : SI E (sHeld1 E τ S l) τ ∧ DI E (sHeld1 E τ S l) p := by
  unfold sHeld1
  split
  · next hc =>
    obtain ⟨c1, -, c3, -⟩ := hc
    have hge : S.2 5 l ≤ sNx E S l := fdn_ge E l _ _
    have hPl := hd.2.2.2 l
    have hat : E 9 (sNx E S l) = l := fdn_at E l _ _ (by unfold sNx at c3; omega)
    refine ⟨SI_off hE h c3 (by rw [hat]; exact hge) hτ, hd.1, ?_, ?_, ?_⟩
    · intro j hj
      rw [off_P, uN_i, hat]
      split
      · next e => subst e; exact absurd c1 hj
      · exact hd.2.1 j hj
    · intro k hk hn
      rw [off_P, uN_i, hat]
      split
      · next e => rw [e] at hn; exact absurd c1 hn
      · exact hd.2.2.1 k hk hn
    · intro j
      rw [off_P, uN_i, hat]
      split
      · omega
      · exact hd.2.2.2 j
  · exact ⟨h, hd⟩
theorem helds_inv {E : aE} {S : aS} {τ p : Nat} (hE : EI E) (h : SI E S τ) (hd : DI E S p) (hτ : τ < 400) : ∀ j, SI E (sHelds E τ S j) τ ∧ DI E (sHelds E τ S j) p := by
  intro j
  induction j with
  | zero => exact ⟨h, hd⟩
  | succ j ih => exact held1_inv hE ih.1 ih.2 hτ
theorem due1_inv {E : aE} {S : aS} {τ p : Nat} (hE : EI E) (h : SI E S τ) (hd : DI E S p) (hτ : τ < 400) (hp : p < E 0 5) : SI E (if sHd E (E 9 p) then S else sOff E S τ p) τ ∧ DI E (if sHd E (E 9 p) then S else sOff E S τ p) (p + 1) := by
  split
  · next hc =>
    refine ⟨h, by omega, fun l hl => by have := hd.2.1 l hl; omega, ?_, hd.2.2.2⟩
    intro k hk hn
    by_cases hkp : k = p
    · subst hkp; exact absurd hc hn
    · exact hd.2.2.1 k (by omega) hn
  · next hc =>
    refine ⟨SI_off hE h hp (hd.2.1 _ hc) hτ, by omega, ?_, ?_, ?_⟩
    · intro l hl
      rw [off_P, uN_i]
      split
      · exact Nat.le_refl _
      · have := hd.2.1 l hl; omega
    · intro k hk hn
      rw [off_P, uN_i]
      split
      · omega
      · next e =>
        by_cases hkp : k = p
        · subst hkp; exact absurd rfl e
        · exact hd.2.2.1 k (by omega) hn
    · intro l
      rw [off_P, uN_i]
      split
      · omega
      · exact hd.2.2.2 l
theorem due_inv {E : aE} {τ : Nat} (hE : EI E) (hτ : τ < 400) : ∀ m (S : aS) (p : Nat), m = E 0 5 - p → SI E S τ → DI E S p → (∀ k, k < p → E 8 k ≤ τ) → SI E (sDue E τ m S p).1 τ ∧ DI E (sDue E τ m S p).1 (sDue E τ m S p).2 ∧ (∀ k, k < (sDue E τ m S p).2 → E 8 k ≤ τ) ∧ (∀ k, (sDue E τ m S p).2 ≤ k → k < E 0 5 → τ < E 8 k) := by
  intro m
  induction m with
  | zero =>
    intro S p hm h hd hk
    exact ⟨h, hd, hk, fun k h1 h2 => by have : p ≤ k := h1; omega⟩
  | succ m ih =>
    intro S p hm h hd hk
    unfold sDue
    by_cases hc : E 8 p ≤ τ
    · rw [if_pos hc]
      obtain ⟨a1, a2⟩ := due1_inv hE h hd hτ (by omega)
      exact ih _ (p + 1) (by omega) a1 a2 (fun k hk2 => by
        by_cases hkp : k = p
        · subst hkp; exact hc
        · exact hk k (by omega))
    · rw [if_neg hc]
      refine ⟨h, hd, hk, fun k h1 h2 => ?_⟩
      have := hE.2.2.2.2.2.1 p k h1 h2
      omega
theorem send1_f (E : aE) (S : aS) (τ l : Nat) {a : Nat} (h0 : a ≠ 0) (h1 : a ≠ 1) : (sSend1 E τ S l).2 a = S.2 a := by
  unfold sSend1
  split
  · rfl
  · split
    · funext i; simp [uN, h0, h1]
    · rfl
theorem sends_f (E : aE) (S : aS) (τ : Nat) {a : Nat} (h0 : a ≠ 0) (h1 : a ≠ 1) : ∀ j, (sSends E τ S j).2 a = S.2 a := by
  intro j
  induction j with
  | zero => rfl
  | succ j ih => unfold sSends; rw [send1_f _ _ _ _ h0 h1, ih]
theorem tells_f (E : aE) (S : aS) (τ : Nat) {a : Nat} (h0 : a ≠ 6) : ∀ j, (sTells E τ S j).2 a = S.2 a := by
  intro j
  induction j with
  | zero => rfl
  | succ j ih => unfold sTells; rw [show (sTell1 E τ (sTells E τ S j) j).2 a = (sTells E τ S j).2 a from by funext i; simp [sTell1, uN, h0], ih]
theorem DI_P {E : aE} {S T : aS} {p : Nat} (h : DI E S p) (e : T.2 5 = S.2 5) : DI E T p := by
  unfold DI at h ⊢
  rw [e]
  exact h
/-- a whole tick -/
theorem tick_inv {E : aE} {S : aS} {τ p : Nat} (hE : EI E) (h : SI E S τ) (hd : DI E S p) (hk : ∀ k, k < p → E 8 k ≤ τ) (hτ : τ < 400) : SI E (sTick E S p τ).1 τ ∧ DI E (sTick E S p τ).1 (sTick E S p τ).2 ∧ (∀ k, k < (sTick E S p τ).2 → E 8 k ≤ τ) ∧ (∀ k, (sTick E S p τ).2 ≤ k → k < E 0 5 → τ < E 8 k) := by
  obtain ⟨a1, a2⟩ := helds_inv hE h hd hτ (E 0 0)
  obtain ⟨b1, b2, b3, b4⟩ := due_inv hE hτ _ _ p rfl a1 a2 hk
  refine ⟨SI_tells (SI_sends hE b1 hτ _ hE.2.1) _, DI_P b2 ?_, b3, b4⟩
  show (sTells E τ _ _).2 5 = _
  rw [tells_f _ _ _ (by decide), sends_f _ _ _ (by decide) (by decide)]
theorem SI_ini {E : aE} (h0 : E 0 3 = 3 → sCnt E sIni (E 0 0) ≤ E 0 1) : SI E sIni 0 := by
  refine ⟨?_, ?_, ?_, ?_, ?_, ?_, h0, ?_, ?_, ?_, ?_⟩
  · intro j hj k hk; simp [sIni] at hk
  · intro j hj; simp [sIni]
  · intro k hk hp; simp [sIni]
  · intro k hk h3; simp [sIni] at h3
  · intro k hk; simp [sIni]
  · simp [sIni, sTot]
  · intro j hj; simp [sIni, sLen]
  · simp [sIni, sTot]
  · simp [sIni]
  · intro j hj
    have : sAt E sIni j 0 = 0 := cnt_0.mpr (fun k hk => by simp [sIni])
    rw [this]
    simp [sIni, sLen]
theorem und_off {E : aE} {S : aS} {τ k : Nat} (hk : k < E 0 5) (hp : S.2 5 (E 9 k) ≤ k) (hno : ∀ i, S.2 5 (E 9 k) ≤ i → i < k → E 9 i ≠ E 9 k) : sUnd E (sOff E S τ k) + 1 = sUnd E S := by
  unfold sUnd
  have := cnt_one (p := fun i => decide ((sOff E S τ k).2 5 (E 9 i) ≤ i)) (q := fun i => decide (S.2 5 (E 9 i) ≤ i)) hk (by
    intro i hi hik
    rw [off_P, uN_i]
    split
    · next e =>
      apply decide_eq_decide.mpr
      constructor
      · intro h; rw [e]; omega
      · intro h
        rw [e] at h
        by_cases hik2 : i < k
        · exact absurd e (hno i h hik2)
        · omega
    · rfl)
  have e1 : decide (S.2 5 (E 9 k) ≤ k) = true := by simp [hp]
  have e2 : decide ((sOff E S τ k).2 5 (E 9 k) ≤ k) = false := by rw [off_P, uN_at]; simp
  simp only [e1, e2] at this
  simpa using this
theorem und_P {E : aE} {S T : aS} (e : T.2 5 = S.2 5) : sUnd E T = sUnd E S := by unfold sUnd; rw [e]
theorem at_f {E : aE} {S T : aS} (e1 : T.2 1 = S.2 1) (e3 : T.2 3 = S.2 3) (j t : Nat) : sAt E T j t = sAt E S j t := by unfold sAt; rw [e1, e3]
theorem push_at {E : aE} {S : aS} {τ k lo : Nat} (h : SI E S τ) (hlo : lo < 4) (hne : 0 < sLen S lo) (hτ : τ < 400) (j : Nat) {t : Nat} (ht : t < τ) : sAt E (sPush S τ lo k) j t = sAt E S j t := by
  have hne' : S.1 lo ≠ [] := by intro e; unfold sLen at hne; rw [e] at hne; simp at hne
  obtain ⟨g, L, hL⟩ : ∃ g L, S.1 lo = L ++ [g] := ⟨_, _, (List.dropLast_concat_getLast hne').symm⟩
  have eg : (S.1 lo).getLastD 0 = g := by rw [hL]; simp
  obtain ⟨g1, g2, g3, g4, g5, g6⟩ := h.1 lo hlo g (by rw [hL]; simp)
  unfold sAt
  apply cnt_ext
  intro i hi
  unfold sPush
  rw [eg]
  by_cases hig : i = g
  · subst hig
    refine decide_eq_decide.mpr ?_
    simp only [uN, g5]
    simp
    (intros; omega)
  · simp [uN, hig]
theorem off_at {E : aE} {S : aS} {τ k : Nat} (hE : EI E) (h : SI E S τ) (hk : k < E 0 5) (hp : S.2 5 (E 9 k) ≤ k) (hτ : τ < 400) (j : Nat) {t : Nat} (ht : t < τ) : sAt E (sOff E S τ k) j t = sAt E S j t := by
  obtain ⟨u0, u1, u3, u2⟩ := h.2.2.1 k hk hp
  have tk : ∀ T : aS, T.2 3 k = 400 → T.2 1 k = 400 → sAt E (sTake T τ k (E 9 k)) j t = sAt E T j t := by
    intro T q3 q1
    unfold sAt
    apply cnt_ext
    intro i hi
    by_cases hik : i = k
    · subst hik
      refine decide_eq_decide.mpr ?_
      simp only [sTake, uN, q3, q1]
      simp
      (intros; omega)
    · simp [sTake, uN, hik]
  unfold sOff
  split
  · unfold sAt
    apply cnt_ext
    intro i hi
    by_cases hik : i = k
    · subst hik
      refine decide_eq_decide.mpr ?_
      simp only [sRef, sPt, uN, u3]
      simp
      (intros; omega)
    · simp [sRef, sPt, uN, hik]
  · split
    · rw [tk _ (by simpa [sPt, uN] using u3) (by simpa [sPt, uN] using u1)]
      exact at_f (by funext i; simp [sPt, uN]) (by funext i; simp [sPt, uN]) j t
    · next h0 h1 =>
      by_cases hlen : 0 < sLen S (sLg S (E 0 0 - 1))
      · have hlo4 : sLg S (E 0 0 - 1) < 4 := by have := sLg_le S (E 0 0 - 1); have := hE.1; have := hE.2.1; omega
        have hgk : (S.1 (sLg S (E 0 0 - 1))).getLastD 0 ≠ k := by
          intro e
          have hne' : S.1 (sLg S (E 0 0 - 1)) ≠ [] := by intro e; unfold sLen at hlen; rw [e] at hlen; simp at hlen
          obtain ⟨g, L, hL⟩ : ∃ g L, S.1 (sLg S (E 0 0 - 1)) = L ++ [g] := ⟨_, _, (List.dropLast_concat_getLast hne').symm⟩
          have hm : k ∈ S.1 (sLg S (E 0 0 - 1)) := by rw [hL] at e ⊢; simp at e; simp [e]
          exact nin_q h hp hlo4 hm
        have hgk' : k ≠ (S.1 (sLg S (E 0 0 - 1))).getLastD 0 := fun e => hgk e.symm
        rw [push_pt, tk _ (by simpa [sPt, sPush, uN] using u3) (by unfold sPt sPush; dsimp only; rw [uN_a _ _ _ (by decide), uN_a _ _ _ (by decide)]; simp only [uN, hgk', and_false, if_false]; exact u1)]
        rw [show sAt E (sPt (sPush S τ (sLg S (E 0 0 - 1)) k) (E 9 k) k) j t = sAt E (sPush S τ (sLg S (E 0 0 - 1)) k) j t from at_f (by funext i; simp [sPt, uN]) (by funext i; simp [sPt, uN]) j t]
        exact push_at h hlo4 hlen hτ j ht
      · exfalso
        have hz : ∀ l, ¬ sLen S l + 1 < sLen S (sLg S (E 0 0 - 1)) := fun l => by omega
        unfold sAdm at h0 h1
        simp only [hz, if_false] at h0 h1
        by_cases r0 : E 0 3 = 0
        · rw [if_pos r0] at h0 h1
          split at h1
          · next q => rw [if_pos q] at h0; exact h0 rfl
          · next q => rw [if_neg q] at h0; split at h1 <;> simp_all
        · rw [if_neg r0] at h0 h1
          by_cases r1 : E 0 3 = 1
          · rw [if_pos r1] at h0 h1
            split at h1
            · next q => rw [if_pos q] at h0; exact h0 rfl
            · next q => rw [if_neg q] at h0; split at h1 <;> simp_all
          · rw [if_neg r1] at h0 h1
            by_cases r3 : E 0 3 = 3
            · rw [if_pos r3] at h0 h1
              split at h1
              · exact h1 rfl
              · next q => rw [if_neg q] at h0; split at h1 <;> simp_all
            · rw [if_neg r3] at h0 h1
              split at h1 <;> simp_all
theorem send_at {E : aE} {S : aS} {τ l : Nat} (h : SI E S τ) (hl : l < 4) (hτ : τ < 400) (j : Nat) {t : Nat} (ht : t < τ) : sAt E (sSend1 E τ S l) j t = sAt E S j t := by
  unfold sSend1
  by_cases hn : S.1 l = []
  · rw [if_pos hn]
  rw [if_neg hn]
  by_cases hm : (τ + 1) % E 3 l = 0
  case neg => rw [if_neg hm]
  rw [if_pos hm]
  obtain ⟨g, L, hL⟩ : ∃ g L, S.1 l = g :: L := by
    cases hq : S.1 l with
    | nil => exact absurd hq hn
    | cons g L => exact ⟨g, L, rfl⟩
  have eg : (S.1 l).headD 0 = g := by rw [hL]; rfl
  obtain ⟨g1, g2, g3, g4, g5, g6⟩ := h.1 l hl g (by rw [hL]; simp)
  rw [eg]
  unfold sAt
  apply cnt_ext
  intro i hi
  by_cases hig : i = g
  · subst hig
    refine decide_eq_decide.mpr ?_
    simp only [uN, g5]
    simp
    (intros; omega)
  · simp [uN, hig]
