/-! the reference's run is the plain one: an offered letter -/
theorem mGr_ne (J : xI) {a : Nat} (h : a ≠ 94) : mGr J a = J a := by
  unfold mGr
  rw [wI_ne _ _ _ h, wA_ne _ _ h]
theorem mGr_j (J : xI) {j : Nat} (h : j < 4) : mGr J 94 j = if J 86 j ≤ J 94 j then J 94 j else J 86 j := by
  unfold mGr
  rw [wI_same, upd_ne _ _ (by omega), wA_same]
  unfold grm
  rw [if_pos h]
theorem mGr_4 (J : xI) : mGr J 94 4 = if sX10_all J ≤ J 94 4 then J 94 4 else sX10_all J := by
  unfold mGr
  rw [wI_same, upd_same]
theorem mGo_eval {K : xI} {S : aS} {lo : Nat} (hlo : lo < 4) (h : mQu K S lo) (hP : S.2 5 lo ≤ 80) (hb : ∀ k, k ∈ S.1 lo → k < 80) (hne : 0 < sLen S lo) : mGo K lo = (S.1 lo).getLastD 0 := by
  obtain ⟨s, h1, h2, h3, h4⟩ := h
  unfold sLen at hne
  have hne' : S.1 lo ≠ [] := by intro e; rw [e] at hne; simp at hne
  have hlast : (S.1 lo)[(S.1 lo).length - 1]'(by omega) = (S.1 lo).getLastD 0 := by
    rw [List.getLastD_eq_getLast?, List.getLast?_eq_getElem?, List.getElem?_eq_getElem (by omega), Option.getD_some]
  have h5 := h4 ((S.1 lo).length - 1) (by omega)
  unfold mGo
  have e : (80 : Int32) * nI lo + K 87 lo + (K 86 lo - 1) = nI (80 * lo + s + ((S.1 lo).length - 1)) := by
    rw [h1, h2, show (80 : Int32) = nI 80 from rfl, pk_mul, nI_add, show (1 : Int32) = nI 1 from rfl, pk_sub (by omega), nI_add]
  rw [e, nI_clamp (by omega), h5, hlast]
  apply nI_clamp
  have := hb _ (List.getElem_mem (show (S.1 lo).length - 1 < (S.1 lo).length by omega))
  rw [hlast] at this
  omega
theorem tPush_ne (K : xI) (lo : Nat) (k : Int32) {a : Nat} (h1 : a ≠ 86) (h2 : a ≠ 91) (h3 : a ≠ 92) (h4 : a ≠ 93) : tPush K lo k a = K a := by
  unfold tPush tX10_ends
  rw [wI_ne _ _ _ h4, wI_ne _ _ _ h3, wI_ne _ _ _ h2, wI_ne _ _ _ h1]
theorem MD_push {K : xI} {E : aE} {S : aS} {τ lo k : Nat} (hE : EI E) (hI : SI E S τ) (hP : ∀ j, S.2 5 j ≤ E 0 5) (h : MD K E S τ) (hlo : lo < 4) (hne : 0 < sLen S lo) (hτ : τ < 400) : MD (tPush K lo (nI k)) E (sPush S τ lo k) τ := by
  have hc := hE.2.2.2.1
  have hPl := hP lo
  have hg := mGo_eval hlo (h.2.1 lo hlo) (by omega) (fun k hk => by have := (hI.1 lo hlo k hk).1; omega) hne
  obtain ⟨t0, t1, t2, t3, t4⟩ := h
  have e6 : (sPush S τ lo k).2 6 = S.2 6 := by funext i; simp [sPush, uN]
  have e4 : (sPush S τ lo k).2 4 = S.2 4 := by funext i; simp [sPush, uN]
  have e5 : (sPush S τ lo k).2 5 = S.2 5 := by funext i; simp [sPush, uN]
  refine ⟨?_, ?_, ?_, ?_, ?_⟩
  · rw [tPush_ne _ _ _ (by decide) (by decide) (by decide) (by decide)]; exact t0
  · intro j hj
    obtain ⟨s, a1, a2, a3, a4⟩ := t1 j hj
    refine ⟨s, ?_, ?_, ?_, ?_⟩
    · rw [tPush_ne _ _ _ (by decide) (by decide) (by decide) (by decide)]; exact a1
    · rw [tPush_78]
      by_cases hjl : j = lo
      · subst hjl
        rw [upd_same, a2]
        unfold sLen at hne
        rw [show (1 : Int32) = nI 1 from rfl, pk_sub (by omega)]
        congr 1
        simp [sPush, uQ]
      · rw [upd_ne _ _ hjl, a2]
        simp [sPush, uQ, hjl]
    · rw [e5]
      by_cases hjl : j = lo
      · subst hjl; simp [sPush, uQ]; omega
      · simp [sPush, uQ, hjl]; exact a3
    · rw [tPush_ne _ _ _ (by decide) (by decide) (by decide) (by decide)]
      intro t ht
      by_cases hjl : j = lo
      · subst hjl
        have e : (sPush S τ j k).1 j = (S.1 j).dropLast := by simp [sPush, uQ]
        simp only [e] at ht ⊢
        rw [List.getElem_dropLast]
        exact a4 t (by simp at ht; omega)
      · have e : (sPush S τ lo k).1 j = S.1 j := by simp [sPush, uQ, hjl]
        simp only [e] at ht ⊢
        exact a4 t ht
  · intro i hi
    obtain ⟨b1, b2, b3⟩ := t2 i hi
    unfold tPush tX10_ends
    rw [hg]
    unfold sFt sPush
    dsimp only
    by_cases hig : i = (S.1 lo).getLastD 0
    · rw [← hig]
      have hne4 : ¬ τ = 400 := by omega
      refine ⟨?_, ?_, ?_⟩
      · rw [wI_ne _ _ _ (by decide), wI_ne _ _ _ (by decide), wI_same, upd_same]
        simp [uN, hne4]
        rfl
      · rw [wI_ne _ _ _ (by decide), wI_same, upd_same, wI_ne _ _ _ (by decide), t0]
        simp [uN]
      · rw [wI_same, upd_same]
        simp [uN, pI]
    · refine ⟨?_, ?_, ?_⟩
      · rw [wI_ne _ _ _ (by decide), wI_ne _ _ _ (by decide), wI_same, upd_ne _ _ hig, wI_ne _ _ _ (by decide), b1]
        simp only [uN, hig]
        simp [sFt]
      · rw [wI_ne _ _ _ (by decide), wI_same, upd_ne _ _ hig, wI_ne _ _ _ (by decide), wI_ne _ _ _ (by decide), b2]
        simp only [uN, hig]
        simp
      · rw [wI_same, upd_ne _ _ hig, wI_ne _ _ _ (by decide), wI_ne _ _ _ (by decide), wI_ne _ _ _ (by decide), b3]
        simp only [uN, hig]
        simp
  · intro j hj
    rw [tPush_ne _ _ _ (by decide) (by decide) (by decide) (by decide), e4]
    exact t3 j hj
  · unfold MH
    rw [tPush_ne _ _ _ (by decide) (by decide) (by decide) (by decide), tPush_ne _ _ _ (by decide) (by decide) (by decide) (by decide), e6]
    exact t4
theorem mTake_ne (K : xI) (k lx : Nat) {a : Nat} (h1 : a ≠ 85) (h2 : a ≠ 86) (h3 : a ≠ 91) (h4 : a ≠ 92) : mTake K k lx a = K a := by
  unfold mTake
  rw [wI_ne _ _ _ h4, wI_ne _ _ _ h3, wI_ne _ _ _ h2, wI_ne _ _ _ h1]
theorem mTake_78 (K : xI) (k lx : Nat) : mTake K k lx 86 = upd (K 86) lx (K 86 lx + 1) := by
  unfold mTake
  rw [wI_ne _ _ _ (by decide), wI_ne _ _ _ (by decide), wI_same, wI_ne _ _ _ (by decide)]
theorem mTake_77 (K : xI) (k lx : Nat) : mTake K k lx 85 = upd (K 85) (80 * nI lx + K 87 lx + K 86 lx).toNatClampNeg (nI k) := by
  unfold mTake
  rw [wI_ne _ _ _ (by decide), wI_ne _ _ _ (by decide), wI_ne _ _ _ (by decide), wI_same]
theorem mTake_83 (K : xI) (k lx : Nat) : mTake K k lx 91 = upd (K 91) k 0 := by
  unfold mTake
  rw [wI_ne _ _ _ (by decide), wI_same, wI_ne _ _ _ (by decide), wI_ne _ _ _ (by decide)]
theorem mTake_84 (K : xI) (k lx : Nat) : mTake K k lx 92 = upd (K 92) k 400 := by
  unfold mTake
  rw [wI_same, wI_ne _ _ _ (by decide), wI_ne _ _ _ (by decide), wI_ne _ _ _ (by decide)]
theorem nI_max {a b : Nat} (ha : a < 2 ^ 31) (hb : b < 2 ^ 31) : (if nI a ≤ nI b then nI b else nI a) = nI (max b a) := by
  by_cases h : a ≤ b
  · rw [if_pos ((nI_leI ha hb).mpr h)]; congr 1; omega
  · rw [if_neg (fun z => h ((nI_leI ha hb).mp z))]; congr 1; omega
theorem MD_take {K : xI} {E : aE} {S : aS} {τ k : Nat} (hE : EI E) (hI : SI E S τ) (hP : ∀ j, S.2 5 j ≤ E 0 5) (h : MD K E S τ) (hk : k < E 0 5) (hp : S.2 5 (E 9 k) ≤ k) (hτ : τ < 400) : MD (mGr (mTake K k (E 9 k))) E (sTake (sPt S (E 9 k) k) τ k (E 9 k)) τ := by
  have hc := hE.2.2.2.1
  have hl4 : E 9 k < 4 := by have := hE.2.2.2.2.1 k hk; have := hE.2.1; omega
  obtain ⟨u0, u1, u3, u2⟩ := hI.2.2.1 k hk hp
  have hB := hE.2.2.1
  have hpk := hI.2.2.2.2.2.2.2.1
  have hp4 := hI.2.2.2.2.2.2.2.2.1
  have hp5 := hI.2.2.2.2.2.2.2.2.2.1
  have htot := hI.2.2.2.2.2.1
  have hall := mall h
  obtain ⟨t0, t1, t2, t3, t4⟩ := h
  generalize hl : E 9 k = l at *
  have e6 : (sTake (sPt S l k) τ k l).2 6 = S.2 6 := by funext i; simp [sTake, sPt, uN]
  have e5 : (sTake (sPt S l k) τ k l).2 5 = uN S.2 5 l (k + 1) 5 := by funext i; simp [sTake, sPt, uN]
  have e1 : (sTake (sPt S l k) τ k l).2 1 = S.2 1 := by funext i; simp [sTake, sPt, uN]
  have e2 : (sTake (sPt S l k) τ k l).2 2 = S.2 2 := by funext i; simp [sTake, sPt, uN]
  have e0 : (sTake (sPt S l k) τ k l).2 0 = S.2 0 := by funext i; simp [sTake, sPt, uN]
  have e3 : (sTake (sPt S l k) τ k l).2 3 = uN S.2 3 k τ 3 := by funext i; simp [sTake, sPt, uN]
  obtain ⟨s, q1, q2, q3, q4⟩ := t1 l hl4
  have hidx : (80 * nI l + K 87 l + K 86 l).toNatClampNeg = 80 * l + s + (S.1 l).length := by
    rw [q1, q2, show (80 : Int32) = nI 80 from rfl, pk_mul, nI_add, nI_add, nI_clamp (by omega)]
  refine ⟨?_, ?_, ?_, ?_, ?_⟩
  · rw [mGr_ne _ (by decide), mTake_ne _ _ _ (by decide) (by decide) (by decide) (by decide)]; exact t0
  · intro j hj
    by_cases hjl : j = l
    · subst hjl
      have eq : (sTake (sPt S j k) τ k j).1 j = S.1 j ++ [k] := by simp [sTake, sPt, uQ]
      refine ⟨s, ?_, ?_, ?_, ?_⟩
      · rw [mGr_ne _ (by decide), mTake_ne _ _ _ (by decide) (by decide) (by decide) (by decide)]; exact q1
      · rw [mGr_ne _ (by decide), mTake_78, upd_same, q2, nI_1, eq]
        simp
      · rw [e5, uN_at, eq]
        simp
        omega
      · rw [mGr_ne _ (by decide), mTake_77, hidx]
        intro t ht
        simp only [eq] at ht ⊢
        by_cases htl : t < (S.1 j).length
        · rw [upd_ne _ _ (by omega), List.getElem_append_left htl]
          exact q4 t htl
        · have : t = (S.1 j).length := by simp at ht; omega
          subst this
          rw [upd_same]
          simp
    · obtain ⟨s2, a1, a2, a3, a4⟩ := t1 j hj
      have eq : (sTake (sPt S l k) τ k l).1 j = S.1 j := by simp [sTake, sPt, uQ, hjl]
      have hPj := hP j
      refine ⟨s2, ?_, ?_, ?_, ?_⟩
      · rw [mGr_ne _ (by decide), mTake_ne _ _ _ (by decide) (by decide) (by decide) (by decide)]; exact a1
      · rw [mGr_ne _ (by decide), mTake_78, upd_ne _ _ hjl, a2, eq]
      · rw [e5, uN_k _ _ _ hjl, eq]; exact a3
      · rw [mGr_ne _ (by decide), mTake_77, hidx]
        intro t ht
        simp only [eq] at ht ⊢
        rw [upd_ne _ _ (by omega)]
        exact a4 t ht
  · intro i hi
    obtain ⟨b1, b2, b3⟩ := t2 i hi
    rw [mGr_ne _ (by decide), mGr_ne _ (by decide), mGr_ne _ (by decide), mTake_83, mTake_84, mTake_ne _ _ _ (by decide) (by decide) (by decide) (by decide), e1, e2]
    by_cases hik : i = k
    · subst hik
      refine ⟨?_, ?_, b3⟩
      · rw [upd_same]
        unfold sFt
        rw [e3, e1, uN_at, if_pos ⟨hτ, u1⟩]
        rfl
      · rw [upd_same, u1]; rfl
    · refine ⟨?_, ?_, b3⟩
      · rw [upd_ne _ _ hik, b1]
        unfold sFt
        rw [e3, e1, e0, uN_k _ _ _ hik]
      · rw [upd_ne _ _ hik, b2]
  · intro j hj
    have hall2 : sX10_all (mTake K k l) = nI (sTot S + 1) := by
      have : sX10_all (mTake K k l) = sX10_all K + 1 := by
        unfold sX10_all
        rw [mTake_78]
        have hz : ∀ a b c d : Int32, ((a + 1 + b + c + d = a + b + c + d + 1) ∧ (a + (b + 1) + c + d = a + b + c + d + 1)) ∧ ((a + b + (c + 1) + d = a + b + c + d + 1) ∧ (a + b + c + (d + 1) = a + b + c + d + 1)) := by
          intro a b c d
          refine ⟨⟨?_, ?_⟩, ⟨?_, ?_⟩⟩
          · rw [Int32.add_assoc a 1 b, Int32.add_comm 1 b, ← Int32.add_assoc a b 1, Int32.add_assoc (a + b) 1 c, Int32.add_comm 1 c, ← Int32.add_assoc (a + b) c 1, Int32.add_assoc (a + b + c) 1 d, Int32.add_comm 1 d, ← Int32.add_assoc]
          · rw [← Int32.add_assoc a b 1, Int32.add_assoc (a + b) 1 c, Int32.add_comm 1 c, ← Int32.add_assoc (a + b) c 1, Int32.add_assoc (a + b + c) 1 d, Int32.add_comm 1 d, ← Int32.add_assoc]
          · rw [← Int32.add_assoc (a + b) c 1, Int32.add_assoc (a + b + c) 1 d, Int32.add_comm 1 d, ← Int32.add_assoc]
          · rw [← Int32.add_assoc]
        have z := hz (K 86 0) (K 86 1) (K 86 2) (K 86 3)
        rcases lt4 hl4 with rfl | rfl | rfl | rfl <;> simp only [upd] <;> simp
        · exact z.1.1
        · exact z.1.2
        · exact z.2.1
        · exact z.2.2
      rw [this, hall, nI_1]
    by_cases hj4 : j = 4
    · subst hj4
      rw [mGr_4, hall2, mTake_ne _ _ _ (by decide) (by decide) (by decide) (by decide), t3 4 (by decide), nI_max (by omega) (by omega)]
      congr 1
    · have hj3 : j < 4 := by omega
      rw [mGr_j _ hj3, mTake_ne _ _ _ (show (94 : Nat) ≠ 85 by decide) (by decide) (by decide) (by decide), t3 j hj, mTake_78]
      have hpj := hpk j hj3
      obtain ⟨s2, a1, a2, a3, a4⟩ := t1 j hj3
      unfold sLen at hpj
      by_cases hjl : j = l
      · subst hjl
        rw [upd_same, a2, nI_1, nI_max (by omega) (by omega)]
        congr 1
        simp [sTake, sPt, uN, sLen, hj4]
      · rw [upd_ne _ _ hjl, a2, nI_max (by omega) (by omega)]
        congr 1
        simp [sTake, sPt, uN, hjl, hj4]
        omega
  · unfold MH
    rw [mGr_ne _ (by decide), mGr_ne _ (by decide), mTake_ne _ _ _ (by decide) (by decide) (by decide) (by decide), mTake_ne _ _ _ (by decide) (by decide) (by decide) (by decide), e6]
    exact t4
theorem ends_ne (K : xI) (k : Nat) (w : Int32) {a : Nat} (h3 : a ≠ 91) (h4 : a ≠ 92) : tX10_ends K k w a = K a := by
  unfold tX10_ends
  rw [wI_ne _ _ _ h4, wI_ne _ _ _ h3]
theorem MD_ref {K : xI} {E : aE} {S : aS} {τ k : Nat} (hE : EI E) (hI : SI E S τ) (h : MD K E S τ) (hk : k < E 0 5) (hp : S.2 5 (E 9 k) ≤ k) (hτ : τ < 400) : MD (mGr (tX10_ends K k 1)) E (sRef (sPt S (E 9 k) k) τ k) τ := by
  have hB := hE.2.2.1
  have hpk := hI.2.2.2.2.2.2.2.1
  have hp4 := hI.2.2.2.2.2.2.2.2.1
  have hp5 := hI.2.2.2.2.2.2.2.2.2.1
  have htot := hI.2.2.2.2.2.1
  have hall := mall h
  obtain ⟨t0, t1, t2, t3, t4⟩ := h
  generalize hl : E 9 k = l at *
  have e6 : (sRef (sPt S l k) τ k).2 6 = S.2 6 := by funext i; simp [sRef, sPt, uN]
  have e5 : (sRef (sPt S l k) τ k).2 5 = uN S.2 5 l (k + 1) 5 := by funext i; simp [sRef, sPt, uN]
  have e4 : (sRef (sPt S l k) τ k).2 4 = S.2 4 := by funext i; simp [sRef, sPt, uN]
  have e3 : (sRef (sPt S l k) τ k).2 3 = S.2 3 := by funext i; simp [sRef, sPt, uN]
  have e2 : (sRef (sPt S l k) τ k).2 2 = S.2 2 := by funext i; simp [sRef, sPt, uN]
  have e1 : (sRef (sPt S l k) τ k).2 1 = uN S.2 1 k τ 1 := by funext i; simp [sRef, sPt, uN]
  have e0 : (sRef (sPt S l k) τ k).2 0 = uN S.2 0 k 1 0 := by funext i; simp [sRef, sPt, uN]
  refine ⟨?_, ?_, ?_, ?_, ?_⟩
  · rw [mGr_ne _ (by decide), ends_ne _ _ _ (by decide) (by decide)]; exact t0
  · intro j hj
    obtain ⟨s2, a1, a2, a3, a4⟩ := t1 j hj
    refine ⟨s2, ?_, ?_, ?_, ?_⟩
    · rw [mGr_ne _ (by decide), ends_ne _ _ _ (by decide) (by decide)]; exact a1
    · rw [mGr_ne _ (by decide), ends_ne _ _ _ (by decide) (by decide)]; exact a2
    · rw [e5, uN_i]
      show s2 + (S.1 j).length ≤ _
      split
      · next e => subst e; omega
      · exact a3
    · rw [mGr_ne _ (by decide), ends_ne _ _ _ (by decide) (by decide)]; exact a4
  · intro i hi
    obtain ⟨b1, b2, b3⟩ := t2 i hi
    rw [mGr_ne _ (by decide), mGr_ne _ (by decide), mGr_ne _ (by decide), ends_ne _ _ _ (show (93 : Nat) ≠ 91 by decide) (by decide), e2]
    refine ⟨?_, ?_, b3⟩
    · unfold sFt tX10_ends
      rw [e3, e1, e0, wI_ne _ _ _ (by decide), wI_same, uN_i, uN_i]
      by_cases hik : i = k
      · subst hik
        rw [upd_same, if_pos rfl, if_pos rfl, if_neg (by omega)]
        rfl
      · rw [upd_ne _ _ hik, if_neg hik, if_neg hik, b1]
        rfl
    · unfold tX10_ends
      rw [wI_same, e1, uN_i]
      by_cases hik : i = k
      · subst hik; rw [upd_same, if_pos rfl, t0]
      · rw [upd_ne _ _ hik, if_neg hik, wI_ne _ _ _ (by decide), b2]
  · intro j hj
    rw [e4]
    by_cases hj4 : j = 4
    · subst hj4
      rw [mGr_4, ends_ne _ _ _ (by decide) (by decide), show sX10_all (tX10_ends K k 1) = sX10_all K from by unfold sX10_all; rw [ends_ne _ _ _ (by decide) (by decide)], hall, t3 4 (by decide), nI_max (by omega) (by omega)]
      congr 1
      omega
    · have hj3 : j < 4 := by omega
      have hpj := hpk j hj3
      obtain ⟨s2, a1, a2, a3, a4⟩ := t1 j hj3
      unfold sLen at hpj
      rw [mGr_j _ hj3, ends_ne _ _ _ (by decide) (by decide), ends_ne _ _ _ (by decide) (by decide), t3 j hj, a2, nI_max (by omega) (by omega)]
      congr 1
      omega
  · unfold MH
    rw [mGr_ne _ (by decide), mGr_ne _ (by decide), ends_ne _ _ _ (by decide) (by decide), ends_ne _ _ _ (by decide) (by decide), e6]
    exact t4
