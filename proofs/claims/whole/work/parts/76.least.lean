/-! the least share: by plain numbers -/
def aT : Nat → Bool := fun _ => true
def esk (E : aE) (k t : Nat) : List (Nat × Nat) := evs E 0 t ++ arv (pT E t) (k - pT E t)
/-- the lengths ahead of a letter, all letters being taken -/
def yK (E : aE) (k : Nat) : Nat → Nat := xRun E aT yZ (esk E k (E 8 k))
def need (E : aE) (k : Nat) : Nat := if E 0 1 ≤ tot4 (yK E k) then 161 else 16 * yK E k (E 9 k) / (E 0 1 - tot4 (yK E k)) + 1
def lsh (E : aE) : Nat → Nat
  | 0 => 1
  | k + 1 => max (lsh E k) (need E k)
theorem lsh_le {E : aE} {a : Nat} (ha : 1 ≤ a) : ∀ k, lsh E k ≤ a ↔ ∀ i, i < k → need E i ≤ a := by
  intro k
  induction k with
  | zero => exact ⟨fun _ i hi => absurd hi (by omega), fun _ => ha⟩
  | succ k ih =>
    unfold lsh
    constructor
    · intro h i hi
      by_cases hik : i = k
      · subst hik; omega
      · exact ih.mp (by omega) i (by omega)
    · intro h
      have := ih.mpr (fun i hi => h i (by omega))
      have := h k (by omega)
      omega
theorem esk_push {E : aE} {k t : Nat} (h : pT E t ≤ k) : esk E (k + 1) t = esk E k t ++ [(0, k)] := by
  unfold esk
  rw [show k + 1 - pT E t = (k - pT E t) + 1 by omega, List.append_assoc]
  congr 1
  unfold arv
  rw [List.range'_concat, List.map_append, Nat.one_mul, show pT E t + (k - pT E t) = k by omega]
  rfl
theorem esk_next {E : aE} {k t : Nat} (h : k = pT E (t + 1)) : esk E k (t + 1) = esk E k t ++ svT E t (E 0 0) := by
  subst h
  unfold esk
  rw [Nat.sub_self, evs_snoc]
  unfold evT
  show evs E 0 t ++ (arv _ _ ++ svT E t _) ++ arv _ 0 = _
  rw [show arv (pT E (t + 1)) 0 = [] from rfl, List.append_nil, List.append_assoc]
theorem adm_need {E : aE} {S : aS} {k : Nat} (h1 : E 0 3 = 1) (ha1 : 1 ≤ E 0 2) (ha : E 0 2 ≤ 160) (ht : sTot S = tot4 (yK E k)) (hl : sLen S (E 9 k) = yK E k (E 9 k)) : sAdm E S (E 9 k) = if need E k ≤ E 0 2 then 1 else 0 := by
  unfold sAdm need
  rw [if_neg (by omega), if_pos h1, ht, hl]
  by_cases hB : E 0 1 ≤ tot4 (yK E k)
  · have e0 : E 0 1 - tot4 (yK E k) = 0 := by omega
    rw [if_pos hB, if_pos hB, if_neg (show ¬ 161 ≤ E 0 2 by omega), e0, Nat.mul_zero, if_pos (Nat.zero_le _)]
  · have hf : 0 < E 0 1 - tot4 (yK E k) := by omega
    rw [if_neg hB, if_neg hB]
    generalize E 0 1 - tot4 (yK E k) = f at hf
    generalize 16 * yK E k (E 9 k) = o
    by_cases hc : E 0 2 * f ≤ o
    · rw [if_pos hc, if_neg]
      intro z
      have : o / f < E 0 2 := by omega
      rw [Nat.div_lt_iff_lt_mul hf] at this
      omega
    · rw [if_neg hc, if_pos]
      have : o / f < E 0 2 := by rw [Nat.div_lt_iff_lt_mul hf]; omega
      omega
/-- all letters ahead of p have been taken -/
def okA (E : aE) (S : aS) (p : Nat) (y : Nat → Nat) : Prop := (∀ k, k < p → need E k ≤ E 0 2 ∧ S.2 3 k < 400 ∧ (S.2 1 k = 400 ∨ S.2 0 k = 0)) ∧ ∀ j, j < 4 → sLen S j = y j
/-- one has been refused -/
def okB (E : aE) (S : aS) (p : Nat) : Prop := (∃ k, k < p ∧ k < E 0 5 ∧ E 0 2 < need E k) ∧ ∃ k, k < E 0 5 ∧ S.2 0 k = 1 ∧ S.2 1 k < 400 ∧ k < S.2 5 (E 9 k)
theorem tot_len (S : aS) : sTot S = sLen S 0 + sLen S 1 + sLen S 2 + sLen S 3 := rfl
theorem off_two {E : aE} {S : aS} {l : Nat} (h1 : E 0 3 = 1) : sAdm E S l ≠ 2 := by
  unfold sAdm
  rw [if_neg (by omega), if_pos h1]
  repeat' split
  all_goals omega
theorem off_keep {E : aE} {S : aS} {τ k x : Nat} (h1 : E 0 3 = 1) (hx : x ≠ k) : (sOff E S τ k).2 0 x = S.2 0 x ∧ (sOff E S τ k).2 1 x = S.2 1 x ∧ (sOff E S τ k).2 3 x = S.2 3 x := by
  have had := off_two (S := S) (l := E 9 k) h1
  unfold sOff
  by_cases h0 : sAdm E S (E 9 k) = 0
  · rw [if_pos h0]; simp [sRef, sPt, uN, hx]
  · by_cases h2 : sAdm E S (E 9 k) = 1
    · rw [if_neg h0, if_pos h2]; simp [sTake, sPt, uN, hx]
    · have hle : sAdm E S (E 9 k) ≤ 2 := by
        unfold sAdm
        repeat' split
        all_goals omega
      omega
theorem okA_off {E : aE} {S : aS} {τ k : Nat} (h1 : E 0 3 = 1) (ha1 : 1 ≤ E 0 2) (ha : E 0 2 ≤ 160) (hl : E 9 k < 4) (hk : k < E 0 5) (hτ : τ < 400) (hu : S.2 1 k = 400) (hA : okA E S k (yK E k)) : okA E (sOff E S τ k) (k + 1) (xStep E aT (yK E k) (0, k)) ∨ okB E (sOff E S τ k) (k + 1) := by
  have hadm := adm_need (S := S) (k := k) h1 ha1 ha (by rw [tot_len, hA.2 0 (by omega), hA.2 1 (by omega), hA.2 2 (by omega), hA.2 3 (by omega)]; rfl) (hA.2 _ hl)
  by_cases hn : need E k ≤ E 0 2
  · left
    rw [if_pos hn] at hadm
    have hoff : sOff E S τ k = sTake (sPt S (E 9 k) k) τ k (E 9 k) := by unfold sOff; rw [if_neg (by omega), if_pos hadm]
    refine ⟨fun x hx => ?_, fun j hj => ?_⟩
    · by_cases hxk : x = k
      · subst hxk
        refine ⟨hn, ?_⟩
        rw [hoff]
        have e3 : (sTake (sPt S (E 9 x) x) τ x (E 9 x)).2 3 x = τ := by simp [sTake, sPt, uN]
        rw [e3]
        refine ⟨hτ, Or.inl ?_⟩
        simpa [sTake, sPt, uN] using hu
      · obtain ⟨a1, a2, a3⟩ := hA.1 x (by omega)
        obtain ⟨b1, b2, b3⟩ := off_keep (S := S) (τ := τ) h1 hxk
        rw [b1, b2, b3]
        exact ⟨a1, a2, a3⟩
    · rw [xs_0, if_pos (show aT k = true from rfl), hoff]
      by_cases hjl : j = E 9 k
      · subst hjl; rw [uL_at]; simp [sLen, sTake, sPt, uQ]; exact hA.2 _ hj
      · rw [uL_ne _ _ hjl]; simp [sLen, sTake, sPt, uQ, hjl]; exact hA.2 _ hj
  · right
    rw [if_neg hn] at hadm
    have hoff : sOff E S τ k = sRef (sPt S (E 9 k) k) τ k := by unfold sOff; rw [if_pos hadm]
    refine ⟨⟨k, by omega, hk, by omega⟩, k, hk, ?_, ?_, ?_⟩
    · rw [hoff]; simp [sRef, sPt, uN]
    · rw [hoff]; simp [sRef, sPt, uN]; exact hτ
    · rw [hoff]; simp [sRef, sPt, uN]
theorem okB_off {E : aE} {S : aS} {τ k p : Nat} (h1 : E 0 3 = 1) (hp : S.2 5 (E 9 k) ≤ k) (hB : okB E S p) : okB E (sOff E S τ k) (p + 1) := by
  obtain ⟨⟨i, i1, i2, i3⟩, x, x1, x2, x3, x4⟩ := hB
  have hxk : x ≠ k := by intro z; subst z; omega
  obtain ⟨b1, b2, b3⟩ := off_keep (S := S) (τ := τ) h1 hxk
  refine ⟨⟨i, by omega, i2, i3⟩, x, x1, by rw [b1]; exact x2, by rw [b2]; exact x3, ?_⟩
  rw [off_P, uN_i]
  split
  · next e => rw [e] at x4; omega
  · exact x4
theorem okB_send {E : aE} {S : aS} {τ l p : Nat} (hI : SI E S τ) (hl : l < 4) (hB : okB E S p) : okB E (sSend1 E τ S l) p := by
  obtain ⟨hi, x, x1, x2, x3, x4⟩ := hB
  refine ⟨hi, x, x1, ?_⟩
  unfold sSend1
  split
  · exact ⟨x2, x3, x4⟩
  · next hne =>
    split
    · obtain ⟨g, L, hL⟩ : ∃ g L, S.1 l = g :: L := by
        cases hq : S.1 l with
        | nil => exact absurd hq hne
        | cons g L => exact ⟨g, L, rfl⟩
      have hg := hI.1 l hl g (by rw [hL]; simp)
      have hxg : x ≠ g := by intro z; subst z; omega
      rw [hL]
      simp [uN, hxg]
      exact ⟨x2, x3, x4⟩
    · exact ⟨x2, x3, x4⟩
theorem okA_send {E : aE} {S : aS} {τ l p : Nat} {y : Nat → Nat} (hI : SI E S τ) (hl : l < 4) (hA : okA E S p y) : okA E (sSend1 E τ S l) p (if (τ + 1) % E 3 l = 0 then uL y l (y l - 1) else y) := by
  obtain ⟨a1, a2⟩ := hA
  unfold sSend1
  by_cases hne : S.1 l = []
  · rw [if_pos hne]
    refine ⟨a1, fun j hj => ?_⟩
    have hy0 : y l = 0 := by rw [← a2 l hl]; unfold sLen; rw [hne]; rfl
    split
    · by_cases hjl : j = l
      · subst hjl; rw [uL_at, a2 j hj]; omega
      · rw [uL_ne _ _ hjl]; exact a2 j hj
    · exact a2 j hj
  · rw [if_neg hne]
    by_cases hp : (τ + 1) % E 3 l = 0
    · rw [if_pos hp, if_pos hp]
      obtain ⟨g, L, hL⟩ : ∃ g L, S.1 l = g :: L := by
        cases hq : S.1 l with
        | nil => exact absurd hq hne
        | cons g L => exact ⟨g, L, rfl⟩
      rw [hL]
      refine ⟨fun k hk => ?_, fun j hj => ?_⟩
      · obtain ⟨b1, b2, b3⟩ := a1 k hk
        by_cases hkg : k = g
        · subst hkg; simp [uN]; exact ⟨b1, b2⟩
        · simp [uN, hkg]; exact ⟨b1, b2, b3⟩
      · have := a2 j hj
        by_cases hjl : j = l
        · subst hjl; rw [uL_at]; unfold sLen at this ⊢; rw [hL] at this; simp [uQ] at this ⊢; omega
        · rw [uL_ne _ _ hjl]; unfold sLen at this ⊢; simp [uQ, hjl]; exact this
    · rw [if_neg hp, if_neg hp]; exact ⟨a1, a2⟩
theorem ok_sends {E : aE} {S : aS} {τ p : Nat} {y : Nat → Nat} (hE : EI E) (hI : SI E S τ) (hτ : τ < 400) (h : okA E S p y ∨ okB E S p) : ∀ m, m ≤ 4 → okA E (sSends E τ S m) p (xRun E aT y (svT E τ m)) ∨ okB E (sSends E τ S m) p := by
  intro m
  induction m with
  | zero => intro _; exact h
  | succ m ih =>
    intro hm
    have hI' := SI_sends hE hI hτ m (by omega)
    rcases ih (by omega) with h | h
    · left
      have := okA_send hI' (show m < 4 by omega) h
      have e : xRun E aT y (svT E τ (m + 1)) = if (τ + 1) % E 3 m = 0 then uL (xRun E aT y (svT E τ m)) m (xRun E aT y (svT E τ m) m - 1) else xRun E aT y (svT E τ m) := by
        show xRun E aT y (svT E τ m ++ _) = _
        rw [xRun_app]
        split
        · rfl
        · rfl
      rw [e]
      exact this
    · right; exact okB_send hI' (by omega) h
theorem ok_tells {E : aE} {S : aS} {τ p : Nat} {y : Nat → Nat} (m : Nat) (h : okA E S p y ∨ okB E S p) : okA E (sTells E τ S m) p y ∨ okB E (sTells E τ S m) p := by
  have e1 : (sTells E τ S m).1 = S.1 := by
    induction m with
    | zero => rfl
    | succ m ih => exact ih
  unfold okA okB sLen at h ⊢
  rw [tells_f _ _ _ (show (0 : Nat) ≠ 6 by decide), tells_f _ _ _ (show (1 : Nat) ≠ 6 by decide), tells_f _ _ _ (show (3 : Nat) ≠ 6 by decide), tells_f _ _ _ (show (5 : Nat) ≠ 6 by decide), e1]
  exact h
theorem ok_due {E : aE} {τ : Nat} (hE : EI E) (hτ : τ < 400) (h1 : E 0 3 = 1) (ha1 : 1 ≤ E 0 2) (ha : E 0 2 ≤ 160) (hpl : E 0 4 = 1) : ∀ m (S : aS) (p : Nat), m = E 0 5 - p → pT E τ ≤ p → SI E S τ → DI E S p → (∀ k, p ≤ k → k < E 0 5 → τ ≤ E 8 k) → (okA E S p (xRun E aT yZ (esk E p τ)) ∨ okB E S p) → (okA E (sDue E τ m S p).1 (sDue E τ m S p).2 (xRun E aT yZ (esk E (sDue E τ m S p).2 τ)) ∨ okB E (sDue E τ m S p).1 (sDue E τ m S p).2) := by
  have hnh : ∀ j, ¬ sHd E j := fun j z => by have := z.2; omega
  intro m
  induction m with
  | zero => intro S p _ _ _ _ _ h; exact h
  | succ m ih =>
    intro S p hm hpT hI hd hk h
    unfold sDue
    by_cases hc : E 8 p ≤ τ
    · rw [if_pos hc, if_neg (hnh _)]
      have hlt : p < E 0 5 := by omega
      have htk := hk p (Nat.le_refl _) hlt
      have he : E 8 p = τ := by omega
      have hl4 : E 9 p < 4 := by have := hE.2.2.2.2.1 p hlt; have := hE.2.1; omega
      have hPp := hd.2.1 _ (hnh (E 9 p))
      obtain ⟨d1, d2⟩ := due1_inv hE hI hd hτ hlt
      rw [if_neg (hnh _)] at d1 d2
      have hy : yK E p = xRun E aT yZ (esk E p τ) := by unfold yK; rw [he]
      have hy2 : xRun E aT yZ (esk E (p + 1) τ) = xStep E aT (xRun E aT yZ (esk E p τ)) (0, p) := by
        rw [esk_push hpT, xRun_app]
        rfl
      refine ih _ (p + 1) (by omega) (by omega) d1 d2 (fun k z1 z2 => hk k (by omega) z2) ?_
      rcases h with h | h
      · rw [← hy] at h
        have := okA_off h1 ha1 ha hl4 hlt hτ (hI.2.2.1 p hlt hPp).2.1 h
        rw [hy2, ← hy]
        exact this
      · exact Or.inr (okB_off h1 hPp h)
    · rw [if_neg hc]; exact h
theorem helds_plain {E : aE} (hpl : E 0 4 = 1) (τ : Nat) (S : aS) : ∀ j, sHelds E τ S j = S := by
  intro j
  induction j with
  | zero => rfl
  | succ j ih =>
    show sHeld1 E τ (sHelds E τ S j) j = S
    unfold sHeld1
    rw [if_neg (fun z => by have := z.1.2; omega)]
    exact ih
theorem pT_TI {E : aE} (hE : EI E) {τ p : Nat} (hp : p ≤ E 0 5) (h1 : ∀ k, k < p → E 8 k < τ) (h2 : ∀ k, p ≤ k → k < E 0 5 → τ ≤ E 8 k) : p = pT E τ := by
  have hl := pT_le E τ
  apply Nat.le_antisymm
  · apply Nat.le_of_not_lt
    intro q
    have := (pT_iff hE (show pT E τ < E 0 5 by omega) τ).mpr (h1 _ q)
    omega
  · apply Nat.le_of_not_lt
    intro q
    have := (pT_iff hE (show p < E 0 5 by omega) τ).mp q
    have := h2 p (Nat.le_refl _) (by omega)
    omega
/-- a plain run by the second rule: all is sent, or one is refused -/
theorem ok_run {E : aE} (hE : EI E) (h1 : E 0 3 = 1) (ha1 : 1 ≤ E 0 2) (ha : E 0 2 ≤ 160) (hpl : E 0 4 = 1) : ∀ (m τ p : Nat) (S : aS), m + τ = 400 → SI E S (τ - 1) → DI E S p → (∀ k, k < p → E 8 k < τ) → (∀ k, p ≤ k → k < E 0 5 → τ ≤ E 8 k) → (okA E S p (xRun E aT yZ (evs E 0 τ)) ∨ okB E S p) → ∃ y, okA E (sRun E m S p τ).1 (E 0 5) y ∨ okB E (sRun E m S p τ).1 (E 0 5) := by
  have hnh : ∀ j, ¬ sHd E j := fun j z => by have := z.2; omega
  intro m
  induction m with
  | zero =>
    intro τ p S hm hI hd hk1 hk2 h
    have hp : p = E 0 5 := by
      apply Nat.le_antisymm hd.1
      apply Nat.le_of_not_lt
      intro q
      have := hk2 p (Nat.le_refl _) q
      have := (hE.2.2.2.2.1 p q).2
      omega
    subst hp
    exact ⟨_, h⟩
  | succ m ih =>
    intro τ p S hm hI0 hd hk1 hk2 h
    have hτ : τ < 400 := by omega
    have hI : SI E S τ := by
      by_cases hz : τ = 0
      · subst hz; exact hI0
      · have := SI_next hI0 (by omega)
        rwa [show τ - 1 + 1 = τ by omega] at this
    unfold sRun
    by_cases hz : sUnd E S + sTot S = 0
    · rw [if_pos hz]
      have hp : p = E 0 5 := by
        apply Nat.le_antisymm hd.1
        apply Nat.le_of_not_lt
        intro q
        have hu : sUnd E S = 0 := by omega
        have := cnt_0.mp hu p q
        have hP := hd.2.1 _ (hnh (E 9 p))
        simp at this
        omega
      subst hp
      exact ⟨_, h⟩
    · rw [if_neg hz]
      have hkt : ∀ k, k < p → E 8 k ≤ τ := fun k hk => Nat.le_of_lt (hk1 k hk)
      obtain ⟨i1, i2, i3, i4⟩ := tick_inv hE hI hd hkt hτ
      have hpp := pT_TI hE hd.1 hk1 hk2
      obtain ⟨b1, b2, b3, b4⟩ := due_inv hE hτ _ S p rfl hI hd hkt
      have hh := helds_plain hpl τ S (E 0 0)
      refine ih (τ + 1) _ _ (by omega) i1 i2 (fun k hk => Nat.lt_succ_of_le (i3 k hk)) i4 ?_
      have hdu := ok_due hE hτ h1 ha1 ha hpl (E 0 5 - p) S p rfl (by omega) hI hd hk2 (by
        have e : esk E p τ = evs E 0 τ := by
          unfold esk
          rw [← hpp, Nat.sub_self]
          show evs E 0 τ ++ [] = _
          rw [List.append_nil]
        rw [e]
        exact h)
      have hse := ok_sends hE b1 hτ hdu (E 0 0) hE.2.1
      have hte := ok_tells (τ := τ) (E 0 0) hse
      have e1 : (sTick E S p τ).1 = sTells E τ (sSends E τ (sDue E τ (E 0 5 - p) S p).1 (E 0 0)) (E 0 0) := by
        show sTells E τ (sSends E τ (sDue E τ (E 0 5 - p) (sHelds E τ S (E 0 0)) p).1 (E 0 0)) (E 0 0) = _
        rw [hh]
      have e2 : (sTick E S p τ).2 = (sDue E τ (E 0 5 - p) S p).2 := by
        show (sDue E τ (E 0 5 - p) (sHelds E τ S (E 0 0)) p).2 = _
        rw [hh]
      rw [e1, e2]
      have hp2 := pT_TI hE b2.1 (fun k hk => Nat.lt_succ_of_le (b3 k hk)) b4
      have e3 : xRun E aT (xRun E aT yZ (esk E (sDue E τ (E 0 5 - p) S p).2 τ)) (svT E τ (E 0 0)) = xRun E aT yZ (evs E 0 (τ + 1)) := by
        rw [← xRun_app, ← esk_next hp2]
        congr 1
        unfold esk
        rw [← hp2, Nat.sub_self]
        show evs E 0 (τ + 1) ++ [] = _
        rw [List.append_nil]
      rw [e3] at hte
      exact hte
theorem cnt_full {p : Nat → Bool} : ∀ {n : Nat}, cnt p n = n → ∀ k, k < n → p k = true := by
  intro n
  induction n with
  | zero => intro _ k hk; omega
  | succ n ih =>
    intro h k hk
    rw [cnt_succ] at h
    have := cnt_le p n
    by_cases hp : p n = true
    · rw [if_pos hp] at h
      by_cases hkn : k = n
      · subst hkn; exact hp
      · exact ih (by omega) k (by omega)
    · rw [if_neg hp] at h; omega
/-- all letters are sent just where the share is great enough -/
theorem all_iff {E : aE} (hE : EI E) (h1 : E 0 3 = 1) (ha1 : 1 ≤ E 0 2) (ha : E 0 2 ≤ 160) (hpl : E 0 4 = 1) : cnt (fun k => decide (sFt (sEnd E).1 k = 0)) (E 0 5) = E 0 5 ↔ lsh E (E 0 5) ≤ E 0 2 := by
  obtain ⟨y, h⟩ := ok_run hE h1 ha1 ha hpl 400 0 0 sIni rfl (SI_ini (fun z => by omega)) ⟨Nat.zero_le _, fun l _ => by simp [sIni], fun k hk => absurd hk (by omega), fun l => by simp [sIni]⟩ (fun k hk => absurd hk (by omega)) (fun k _ _ => Nat.zero_le _) (Or.inl ⟨fun k hk => absurd hk (by omega), fun j hj => by simp [sIni, sLen]; rfl⟩)
  rcases h with h | h
  · refine ⟨fun _ => (lsh_le ha1 _).mpr (fun i hi => (h.1 i hi).1), fun _ => cnt_all (fun k hk => ?_)⟩
    obtain ⟨-, q2, q3⟩ := h.1 k hk
    apply decide_eq_true
    unfold sFt
    split
    · rfl
    · next hn =>
      rcases q3 with q3 | q3
      · exact absurd ⟨q2, q3⟩ hn
      · exact q3
  · obtain ⟨⟨i, i1, i2, i3⟩, x, x1, x2, x3, x4⟩ := h
    refine ⟨fun hc => ?_, fun hl => ?_⟩
    · exfalso
      have := of_decide_eq_true (cnt_full hc x x1)
      unfold sFt at this
      have x2' : (sEnd E).1.2 0 x = 1 := x2
      have x3' : (sEnd E).1.2 1 x < 400 := x3
      rw [if_neg (by omega), x2'] at this
      omega
    · exfalso
      have := (lsh_le ha1 _).mp hl i i1
      omega
theorem lsh_congr {E E' : aE} (h0 : E 0 0 = E' 0 0) (h1 : E 0 1 = E' 0 1) (h5 : E 0 5 = E' 0 5) (h3 : E 3 = E' 3) (h8 : E 8 = E' 8) (h9 : E 9 = E' 9) (k : Nat) : lsh E k = lsh E' k := by
  have e1 : ∀ t, pT E t = pT E' t := fun t => by unfold pT; rw [h8, h5]
  have e2 : ∀ t m, svT E t m = svT E' t m := by
    intro t m
    induction m with
    | zero => rfl
    | succ m ih => unfold svT; rw [ih, h3]
  have e3 : ∀ m a, evs E a m = evs E' a m := by
    intro m
    induction m with
    | zero => intro a; rfl
    | succ m ih => intro a; unfold evs evT; rw [ih, e1, e1, e2, h0]
  have e4 : xStep E aT = xStep E' aT := by
    funext y e j
    obtain ⟨a, b⟩ := e
    cases a with
    | zero => rw [xs_0, xs_0, h9]
    | succ m => rfl
  have e5 : ∀ k, yK E k = yK E' k := by
    intro k
    unfold yK xRun esk
    rw [e4, e3, e1, h8]
  have e6 : ∀ k, need E k = need E' k := fun k => by unfold need; rw [h1, e5, h9]
  induction k with
  | zero => rfl
  | succ k ih => unfold lsh; rw [ih, e6]
section CFo
variable {l : Launch} {C : xC} {G : xG}
set_option maxHeartbeats 4000000 in
theorem Lpass (hG : SH G) {I0 : xI} {E : aE} {y0 : Nat → Nat} {t : Nat} (hE : EI E) (hL0 : CL I0 G E) (ht : t < 400) (hy80 : ∀ j, y0 j ≤ 80) : ∀ (k i : Nat), i ≤ E 0 0 → E 0 0 < i + k → ∀ (I : xI) (q : Nat), (∀ a, a ≠ 48 → I a = I0 a) → (∀ j, j < 4 → I 48 j = nI (xRun E aT y0 (svT E t i) j)) → q + tot4 (xRun E aT y0 (svT E t i)) = tot4 y0 → XF fI l C mX0_passTick 4 [some (.ref 44), some (.int (nI t)), some (.int (nI q)), some (.int (nI i))] [] G I (fun v I' => (∀ a, a ≠ 48 → I' a = I0 a) ∧ (∀ j, j < 4 → I' 48 j = nI (xRun E aT y0 (svT E t (E 0 0)) j)) ∧ ∃ q, v = nI q ∧ q + tot4 (xRun E aT y0 (svT E t (E 0 0))) = tot4 y0) := by
  have hn4 := hE.2.1
  intro k
  induction k with
  | zero => intro i h1 h2; exact absurd h2 (by omega)
  | succ k ih =>
    intro i h1 h2 I q hF hy hq
    have hL : CL I G E := CL_FK hL0 (fun a _ _ _ h => hF a h)
    refine VX0_passTick_4 hG I (nI t) (nI q) (nI i) (pk_le (E 0 0) i (fun hle => ?_) (fun hlt => ?_) hL.1 rfl)
    · have : i = E 0 0 := by omega
      subst this
      exact ⟨hF, hy, q, rfl, hq⟩
    · have hi4 : i < 4 := by omega
      obtain ⟨c1, c2, c3, c4, c5, c6, -⟩ := hL.2.2 i hlt
      obtain ⟨-, -, hpa, hpb, -⟩ := hE.2.2.2.2.2.2.1 i hlt
      have hnext : xRun E aT y0 (svT E t (i + 1)) = if (t + 1) % E 3 i = 0 then uL (xRun E aT y0 (svT E t i)) i (xRun E aT y0 (svT E t i) i - 1) else xRun E aT y0 (svT E t i) := by
        show xRun E aT y0 (svT E t i ++ _) = _
        rw [xRun_app]
        split
        · rfl
        · rfl
      have hyi : xRun E aT y0 (svT E t i) i ≤ 80 := by rw [sv_x, if_neg (by omega)]; exact hy80 i
      generalize xRun E aT y0 (svT E t i) = y1 at *
      rw [nI_clamp (show i < 2 ^ 31 by omega), hy i hi4, c6]
      refine ⟨vp_in_nI hi4 (by decide), pk_le (y1 i) 0 (fun hz => ?_) (fun hz => ?_) rfl rfl (by omega) (by omega)⟩
      · have e : xRun E aT y0 (svT E t (i + 1)) = y1 := by
          rw [hnext]
          split
          · funext j
            by_cases hj : j = i
            · subst hj; rw [uL_at]; omega
            · rw [uL_ne _ _ hj]
          · rfl
        exact XF.to (ih (i + 1) (by omega) (by omega) I q hF (by rw [e]; exact hy) (by rw [e]; exact hq)) (by rw [nI_succ]) rfl rfl
      · refine ⟨c1, fun hsv => ?_, fun hsv => ?_⟩
        · have hsv' := (SA_iff ht hpa hpb).mp hsv
          rw [if_pos hsv'] at hnext
          have htt := tot4_uL y1 (y1 i - 1) hi4
          refine XF.to (ih (i + 1) (by omega) (by omega) _ (q + 1) (fun a ha => by rw [wI_ne _ _ _ ha, hF a ha]) (fun j hj => ?_) (by rw [hnext]; omega)) (by rw [nI_succ, nI_succ]) rfl rfl
          rw [wI_same, hnext]
          by_cases hji : j = i
          · subst hji; rw [upd_same, uL_at, show (1 : Int32) = nI 1 from rfl, pk_sub (by omega)]
          · rw [upd_ne _ _ hji, uL_ne _ _ hji]; exact hy j hj
        · rw [if_neg (fun z => hsv ((SA_iff ht hpa hpb).mpr z))] at hnext
          exact XF.to (ih (i + 1) (by omega) (by omega) I q hF (by rw [hnext]; exact hy) (by rw [hnext]; exact hq)) (by rw [nI_succ]) rfl rfl
theorem Zpass (hG : SH G) {I : xI} {E : aE} {y : Nat → Nat} {t : Nat} (hE : EI E) (hL : CL I G E) (ht : t < 400) (hy80 : ∀ j, y j ≤ 80) (hy : ∀ j, j < 4 → I 48 j = nI (y j)) : XF fI l C mX0_passTick 0 (xent mX0_passTick [.ref 44, .int (nI t)]) [] G I (fun v I' => (∀ a, a ≠ 48 → I' a = I a) ∧ (∀ j, j < 4 → I' 48 j = nI (xRun E aT y (svT E t (E 0 0)) j)) ∧ ∃ q, v = nI q ∧ q + tot4 (xRun E aT y (svT E t (E 0 0))) = tot4 y) :=
  VX0_passTick hG I (nI t) (Lpass hG hE hL ht hy80 (E 0 0 + 1) 0 (by omega) (by omega) I 0 (fun _ _ => rfl) hy (by rw [Nat.zero_add]; rfl))
theorem Zshare (hG : SH G) (I : xI) {own st B : Nat} (ho : own ≤ 80) (hs : st ≤ 320) (hB : B ≤ 12) : XF fI l C mX0_shareToTake 0 (xent mX0_shareToTake [.int (nI own), .int (nI B - nI st)]) [] G I (fun v I' => v = nI (if B ≤ st then 161 else 16 * own / (B - st) + 1) ∧ I' = I) := by
  refine VX0_shareToTake hG I (nI own) (nI B - nI st) ?_
  by_cases h : B ≤ st
  · rw [if_pos h]
    refine ⟨fun z => ?_, fun _ => ⟨rfl, rfl⟩⟩
    exfalso
    rw [Int32.lt_iff_toInt_lt, pk_sub_toInt (by omega) (by omega)] at z
    have : (0 : Int32).toInt = 0 := rfl
    omega
  · rw [if_neg h, pk_sub (by omega)]
    refine ⟨fun _ => ⟨nI_ne0 (by omega) (by omega), ?_, rfl⟩, fun z => absurd (show (0 : Int32) < nI (B - st) from nI_lt (a := 0) (by omega) (by omega)) z⟩
    rw [show (16 : Int32) = nI 16 from rfl, pk_mul, pk_div (by omega) (by omega) (by omega), nI_1]
theorem y_le {E : aE} (hE : EI E) (k t : Nat) (hk : k ≤ E 0 5) (hp : pT E t ≤ k) : ∀ j, xRun E aT yZ (esk E k t) j ≤ 80 := by
  have hc := hE.2.2.2.1
  have gen : ∀ (es : List (Nat × Nat)) (y : Nat → Nat) (b : Nat), (∀ j, y j ≤ b) → ∀ j, xRun E aT y es j ≤ b + (arr es).length := by
    intro es
    induction es with
    | nil => intro y b h j; have := h j; simp [arr]; exact this
    | cons e es ih =>
      intro y b h j
      obtain ⟨a, x⟩ := e
      cases a with
      | zero =>
        rw [arr_0]
        have := ih (xStep E aT y (0, x)) (b + 1) (fun i => by
          rw [xs_0, if_pos (show aT x = true from rfl)]
          have h1 := h i
          have h2 := h (E 9 x)
          by_cases hi : i = E 9 x
          · subst hi; rw [uL_at]; omega
          · rw [uL_ne _ _ hi]; omega) j
        simp
        show xRun E aT (xStep E aT y (0, x)) es j ≤ _
        omega
      | succ m =>
        rw [arr_s]
        refine ih (xStep E aT y (m + 1, x)) b (fun i => ?_) j
        rw [xs_s]
        have h1 := h i
        by_cases hi : i = m
        · subst hi; rw [uL_at]; omega
        · rw [uL_ne _ _ hi]; exact h1
  intro j
  have := gen (esk E k t) yZ 0 (fun _ => Nat.le_refl _) j
  have ha : (arr (esk E k t)).length ≤ k := by
    unfold esk
    rw [arr_app, arr_evs, arr_arv]
    simp
    rw [pT_0]
    omega
  omega
set_option maxHeartbeats 4000000 in
theorem Lleast (hG : SH G) {I0 : xI} {E : aE} {w : Nat} (hE : EI E) (hL0 : CL I0 G E) (hW0 : CW I0 G E w) : ∀ (f k t : Nat) (I : xI), k ≤ E 0 5 → t ≤ 40 → (E 0 5 - k) * 50 + (40 - t) < f → pT E t ≤ k → (0 < k → k ≤ pT E (t + 1)) → lsh E k ≤ 160 → FK I0 I → (∀ j, j < 4 → I 48 j = nI (xRun E aT yZ (esk E k t) j)) → (XF fI l C mX0_leastShare 30 [some (.ref 44), some (.ref w), some (.int (nI (lsh E k))), some (.int (nI t)), some (.int (nI (tot4 (xRun E aT yZ (esk E k t))))), some (.int (nI k)), none] [] G I (fun v I' => v = (if lsh E (E 0 5) ≤ 160 then nI (lsh E (E 0 5)) else (-1)) ∧ FK I0 I')) ∧ (k < E 0 5 → t ≤ E 8 k → k ≤ pT E (t + 1) → XF fI l C mX0_leastShare 39 [some (.ref 44), some (.ref w), some (.int (nI (lsh E k))), some (.int (nI t)), some (.int (nI (tot4 (xRun E aT yZ (esk E k t))))), some (.int (nI k)), none] [] G I (fun v I' => v = (if lsh E (E 0 5) ≤ 160 then nI (lsh E (E 0 5)) else (-1)) ∧ FK I0 I')) := by
  have hn4 := hE.2.1
  have hc := hE.2.2.2.1
  have hB := hE.2.2.1
  intro f
  induction f with
  | zero => intro k t I h1 h2 h3; exact absurd h3 (by omega)
  | succ f ih =>
    intro k t I h1 ht40 hf hpk hpk2 hls hF hy
    have hL := CL_FK hL0 hF
    have hW := CW_FK hW0 hF
    have hy80 := y_le hE k t h1 hpk
    have htot : tot4 (xRun E aT yZ (esk E k t)) ≤ 320 := by
      have := hy80 0; have := hy80 1; have := hy80 2; have := hy80 3
      unfold tot4
      omega
    have body : k < E 0 5 → t ≤ E 8 k → k ≤ pT E (t + 1) → XF fI l C mX0_leastShare 39 [some (.ref 44), some (.ref w), some (.int (nI (lsh E k))), some (.int (nI t)), some (.int (nI (tot4 (xRun E aT yZ (esk E k t))))), some (.int (nI k)), none] [] G I (fun v I' => v = (if lsh E (E 0 5) ≤ 160 then nI (lsh E (E 0 5)) else (-1)) ∧ FK I0 I') := by
      intro hlt htk hpk3
      obtain ⟨hl, h40⟩ := hE.2.2.2.2.1 k hlt
      have hl4 : E 9 k < 4 := by omega
      refine VX0_leastShare_39 hG hW.1 hW.2.1 I (nI (lsh E k)) (nI t) _ (nI k) ?_
      rw [nI_clamp (show k < 2 ^ 31 by omega), (hW.2.2.2.2 k hlt).1, (hW.2.2.2.2 k hlt).2, nI_clamp (show E 9 k < 2 ^ 31 by omega), hy _ hl4, hL.2.1]
      refine ⟨vp_in_nI (by omega) (by decide), pk_le (E 8 k) t (fun hle => ?_) (fun hgt => ?_) rfl rfl⟩
      · have he : E 8 k = t := by omega
        have hyk : yK E k = xRun E aT yZ (esk E k t) := by unfold yK; rw [he]
        refine ⟨vp_in_nI hl4 (by decide), _, Zshare hG I (hy80 _) htot hB, ?_⟩
        rintro v I1 ⟨rfl, rfl⟩
        have hnd : (if E 0 1 ≤ tot4 (xRun E aT yZ (esk E k t)) then 161 else 16 * xRun E aT yZ (esk E k t) (E 9 k) / (E 0 1 - tot4 (xRun E aT yZ (esk E k t))) + 1) = need E k := by unfold need; rw [hyk]
        have hn2 : need E k ≤ 1281 := by
          rw [← hnd]
          split
          · omega
          · have : 16 * xRun E aT yZ (esk E k t) (E 9 k) / (E 0 1 - tot4 (xRun E aT yZ (esk E k t))) ≤ 16 * xRun E aT yZ (esk E k t) (E 9 k) := Nat.div_le_self _ _
            have := hy80 (E 9 k)
            omega
        rw [hnd, nI_max2 (by omega) (by omega), show max (lsh E k) (need E k) = lsh E (k + 1) from rfl]
        have hl2 : lsh E (k + 1) ≤ 1281 := by show max (lsh E k) (need E k) ≤ 1281; omega
        refine pk_le (lsh E (k + 1)) 160 (fun h160 => ?_) (fun h160 => ?_) rfl rfl (by omega) (by omega)
        · have hpush : xRun E aT yZ (esk E (k + 1) t) = uL (xRun E aT yZ (esk E k t)) (E 9 k) (xRun E aT yZ (esk E k t) (E 9 k) + 1) := by
            rw [esk_push hpk, xRun_app]
            show xStep E aT (xRun E aT yZ (esk E k t)) (0, k) = _
            rw [xs_0, if_pos (show aT k = true from rfl)]
          have ht2 := tot4_uL (xRun E aT yZ (esk E k t)) (xRun E aT yZ (esk E k t) (E 9 k) + 1) hl4
          have hk1 : k + 1 ≤ pT E (t + 1) := (pT_iff hE hlt (t + 1)).mpr (by omega)
          refine XF.to (ih (k + 1) t _ (by omega) ht40 (by omega) (by omega) (fun _ => hk1) h160 (fun a z1 z2 z3 z4 => by rw [wI_ne _ _ _ z4, hF a z1 z2 z3 z4]) (fun j hj => ?_)).1 ?_ rfl rfl
          · rw [wI_same, hpush]
            by_cases hjl : j = E 9 k
            · subst hjl; rw [upd_same, uL_at, hy _ hj, nI_1]
            · rw [upd_ne _ _ hjl, uL_ne _ _ hjl]; exact hy j hj
          · rw [hpush, show tot4 (uL (xRun E aT yZ (esk E k t)) (E 9 k) (xRun E aT yZ (esk E k t) (E 9 k) + 1)) = tot4 (xRun E aT yZ (esk E k t)) + 1 by omega, nI_1, nI_1]
        · have hbig : ¬ lsh E (E 0 5) ≤ 160 := by
            intro z
            have := (lsh_le (show 1 ≤ 160 by omega) _).mp z
            have := (lsh_le (show 1 ≤ 160 by omega) (k + 1)).mpr (fun i hi => this i (by omega))
            omega
          rw [if_neg hbig]
          exact ⟨rfl, hF⟩
      · have hkp : k = pT E (t + 1) := by
          apply Nat.le_antisymm hpk3
          apply Nat.le_of_not_lt
          intro q
          have := (pT_iff hE hlt (t + 1)).mp q
          omega
        refine ⟨_, Zpass hG hE hL (show t < 400 by omega) hy80 hy, ?_⟩
        rintro v I1 ⟨f1, y1, q, rfl, hq⟩
        have hnx : xRun E aT (xRun E aT yZ (esk E k t)) (svT E t (E 0 0)) = xRun E aT yZ (esk E k (t + 1)) := by rw [← xRun_app, ← esk_next hkp]
        rw [hnx] at y1 hq
        have hmn := pT_mono E (show t + 1 ≤ t + 1 + 1 by omega)
        refine XF.to ((ih k (t + 1) I1 h1 (by omega) (by omega) (by omega) (fun _ => by omega) hls (hF.trans (fun a _ _ _ h => f1 a h)) y1).2 hlt (by omega) (by omega)) ?_ rfl rfl
        rw [pk_sub (by omega), show tot4 (xRun E aT yZ (esk E k t)) - q = tot4 (xRun E aT yZ (esk E k (t + 1))) by omega, nI_1]
    refine ⟨?_, body⟩
    refine VX0_leastShare_30 hG hW.1 hW.2.1 I (nI (lsh E k)) (nI t) _ (nI k) (pk_le (E 0 5) k (fun hle => ?_) (fun hlt => ?_) hW.2.2.2.1 rfl)
    · have : k = E 0 5 := by omega
      subst this
      rw [if_pos hls]
      exact ⟨rfl, hF⟩
    · refine body hlt ?_ ?_
      · apply Nat.le_of_not_lt
        intro q
        have := (pT_iff hE hlt t).mpr q
        omega
      · by_cases h0 : k = 0
        · omega
        · exact hpk2 (by omega)
theorem Lleast2 (hG : SH G) {I0 : xI} {E : aE} {w : Nat} (hE : EI E) (hL0 : CL I0 G E) (hW0 : CW I0 G E w) : ∀ (k i : Nat), i ≤ 4 → 4 < i + k → ∀ I, FK I0 I → (∀ j, j < i → I 48 j = 0) → XF fI l C mX0_leastShare 2 [some (.ref 44), some (.ref w), some (.int (nI i)), none, none, none, none] [] G I (fun v I' => v = (if lsh E (E 0 5) ≤ 160 then nI (lsh E (E 0 5)) else (-1)) ∧ FK I0 I') := by
  intro k
  induction k with
  | zero => intro i h1 h2; exact absurd h2 (by omega)
  | succ k ih =>
    intro i h1 h2 I hF hz
    have hW := CW_FK hW0 hF
    refine VX0_leastShare_2 hG hW.1 hW.2.1 I (nI i) (pk_le 4 i (fun hle => ?_) (fun hlt => ?_) rfl rfl)
    · have e : esk E 0 0 = [] := by
        unfold esk
        rw [pT_0]
        rfl
      refine XF.to (Lleast hG hE hL0 hW0 ((E 0 5 - 0) * 50 + (40 - 0) + 1) 0 0 I (Nat.zero_le _) (by omega) (by omega) (by rw [pT_0]; exact Nat.le_refl _) (fun h => absurd h (by omega)) (show 1 ≤ 160 by omega) hF (fun j hj => by rw [e]; exact hz j (by omega))).1 (by rw [e]; rfl) rfl rfl
    · rw [nI_clamp (show i < 2 ^ 31 by omega)]
      refine ⟨vp_in_nI hlt (by decide), XF.to (ih (i + 1) (by omega) (by omega) _ (fun a z1 z2 z3 z4 => by rw [wI_ne _ _ _ z4, hF a z1 z2 z3 z4]) (fun j hj => ?_)) (by rw [nI_succ]) rfl rfl⟩
      rw [wI_same]
      by_cases hji : j = i
      · subst hji; rw [upd_same]
      · rw [upd_ne _ _ hji]; exact hz j (by omega)
theorem Zleast (hG : SH G) {I : xI} {E : aE} {w : Nat} (hE : EI E) (hL : CL I G E) (hW : CW I G E w) : XF fI l C mX0_leastShare 0 (xent mX0_leastShare [.ref 44, .ref w]) [] G I (fun v I' => v = (if lsh E (E 0 5) ≤ 160 then nI (lsh E (E 0 5)) else (-1)) ∧ FK I I') :=
  VX0_leastShare hG hW.1 hW.2.1 I (Lleast2 hG hE hL hW 5 0 (by omega) (by omega) I (fun _ _ _ _ _ => rfl) (fun j hj => absurd hj (by omega)))
end CFo
