/-! the class: a line's queue -/
def RQ (I : xI) (u : Nat) (L : List Nat) : Prop := ∃ h, h < 12 ∧ I u 1 = nI h ∧ I u 2 = nI L.length ∧ L.length ≤ 12 ∧ ∀ t, (ht : t < L.length) → I (u + 1) ((h + t) % 12) = nI (L[t])
def FQ (u : Nat) (I I' : xI) : Prop := ∀ a, a ≠ u → a ≠ u + 1 → I' a = I a
theorem RQ_ext {I I' : xI} {u : Nat} {L : List Nat} (h : RQ I u L) (e1 : I' u = I u) (e2 : I' (u + 1) = I (u + 1)) : RQ I' u L := by
  unfold RQ at h ⊢
  rw [e1, e2]
  exact h
section CQ
variable {l : Launch} {C : xC} {G : xG}
theorem Zadd (hs : SH G) {u : Nat} (hu : QU G u) {I : xI} {L : List Nat} (h : RQ I u L) (hl : L.length < 12) (k : Nat) : XF fV l C mX3_addLast 0 (xent mX3_addLast [.ref u, .int (nI k)]) [] G I (fun _ I' => RQ I' u (L ++ [k]) ∧ FQ u I I') := by
  obtain ⟨hd, h1, h2, h3, h4, h5⟩ := h
  have hm : (I u 1 + I u 2) - (I u 1 + I u 2) / 12 * 12 = nI ((hd + L.length) % 12) := by
    rw [h2, h3, nI_add, show (12 : Int32) = nI 12 from rfl, pk_rem (by omega) (by omega) (by omega)]
  have hlt := Nat.mod_lt (hd + L.length) (show 12 > 0 by omega)
  refine VX3_addLast hs hu I (nI k) ⟨by rw [hm]; exact vp_in_nI hlt (by decide), ?_, ?_⟩
  · rw [hm, nI_clamp (show (hd + L.length) % 12 < 2 ^ 31 by omega), wI_ne _ _ _ (show u ≠ u + 1 by omega)]
    refine ⟨hd, h1, ?_, ?_, by simp; omega, fun t ht => ?_⟩
    · rw [wI_same, upd_ne _ _ (by decide), wI_ne _ _ _ (by omega)]; exact h2
    · rw [wI_same, upd_same, h3, nI_1]; simp
    · rw [wI_ne _ _ _ (by omega), wI_same]
      by_cases htl : t < L.length
      · rw [upd_ne _ _ (by omega), List.getElem_append_left htl]
        exact h5 t htl
      · have : t = L.length := by simp at ht; omega
        subst this
        rw [upd_same]
        simp
  · intro a z1 z2
    rw [wI_ne _ _ _ z1, wI_ne _ _ _ z2]
theorem Zfirst (hs : SH G) {u : Nat} (hu : QU G u) {I : xI} {g : Nat} {L : List Nat} (h : RQ I u (g :: L)) : XF fI l C mX3_removeFirst 0 (xent mX3_removeFirst [.ref u]) [] G I (fun v I' => v = nI g ∧ RQ I' u L ∧ FQ u I I') := by
  obtain ⟨hd, h1, h2, h3, h4, h5⟩ := h
  simp at h3 h4
  refine VX3_removeFirst hs hu I ⟨by rw [h2]; exact vp_in_nI h1 (by decide), ?_, ?_, ?_⟩
  · have := h5 0 (by simp)
    rw [h2, nI_clamp (by omega)]
    rw [show (hd + 0) % 12 = hd by omega] at this
    simpa using this
  · have hm : I u 1 + 1 - (I u 1 + 1) / 12 * 12 = nI ((hd + 1) % 12) := by
      rw [h2, nI_1, show (12 : Int32) = nI 12 from rfl, pk_rem (by omega) (by omega) (by omega)]
    rw [hm]
    refine ⟨(hd + 1) % 12, Nat.mod_lt _ (by omega), ?_, ?_, by omega, fun t ht => ?_⟩
    · rw [wI_same, upd_ne _ _ (by decide), wI_same, upd_same]
    · rw [wI_same, upd_same, wI_same, upd_ne _ _ (by decide), h3, nI_pred]
    · rw [wI_ne _ _ _ (by omega), wI_ne _ _ _ (by omega)]
      have := h5 (t + 1) (by simp; omega)
      rw [show ((hd + 1) % 12 + t) % 12 = (hd + (t + 1)) % 12 by omega, this]
      simp
  · intro a z1 z2
    rw [wI_ne _ _ _ z1, wI_ne _ _ _ z1]
theorem Zlast (hs : SH G) {u : Nat} (hu : QU G u) {I : xI} {L : List Nat} (h : RQ I u L) (hne : 0 < L.length) : XF fI l C mX3_removeLast 0 (xent mX3_removeLast [.ref u]) [] G I (fun v I' => v = nI (L.getLastD 0) ∧ RQ I' u L.dropLast ∧ FQ u I I') := by
  obtain ⟨hd, h1, h2, h3, h4, h5⟩ := h
  have hlast : L[L.length - 1]'(by omega) = L.getLastD 0 := by
    rw [List.getLastD_eq_getLast?, List.getLast?_eq_getElem?, List.getElem?_eq_getElem (by omega), Option.getD_some]
  have hsz : I u 2 - 1 = nI (L.length - 1) := by rw [h3, show (1 : Int32) = nI 1 from rfl, pk_sub (by omega)]
  have hm : wI I u 2 (I u 2 - 1) u 1 + wI I u 2 (I u 2 - 1) u 2 - (wI I u 2 (I u 2 - 1) u 1 + wI I u 2 (I u 2 - 1) u 2) / 12 * 12 = nI ((hd + (L.length - 1)) % 12) := by
    rw [wI_same, upd_ne _ _ (by decide), upd_same, h2, hsz, nI_add, show (12 : Int32) = nI 12 from rfl, pk_rem (by omega) (by omega) (by omega)]
  have hlt := Nat.mod_lt (hd + (L.length - 1)) (show 12 > 0 by omega)
  refine VX3_removeLast hs hu I ⟨by rw [hm]; exact vp_in_nI hlt (by decide), ?_, ?_, ?_⟩
  · rw [hm, nI_clamp (show (hd + (L.length - 1)) % 12 < 2 ^ 31 by omega), wI_ne _ _ _ (by omega), h5 (L.length - 1) (by omega), hlast]
  · refine ⟨hd, h1, ?_, ?_, by simp; omega, fun t ht => ?_⟩
    · rw [wI_same, upd_ne _ _ (by decide)]; exact h2
    · rw [wI_same, upd_same, hsz]; simp
    · rw [wI_ne _ _ _ (by omega), List.getElem_dropLast]
      exact h5 t (by simp at ht; omega)
  · intro a z1 z2
    rw [wI_ne _ _ _ z1]
end CQ
/-- the givens as the class holds them: the setting, the lines, the row w -/
def CL (I : xI) (G : xG) (E : aE) : Prop := I 3 1 = nI (E 0 0) ∧ I 3 2 = nI (E 0 1) ∧ ∀ j, j < E 0 0 → LN G (gR G 4 j) ∧ (gR G 4 j = 5 ∨ 103 ≤ gR G 4 j) ∧ (gT G (gR G 4 j) = 2 ↔ E 1 j = 0) ∧ (gT G (gR G 4 j) = 1 ↔ E 1 j = 2) ∧ I (gR G 4 j) 0 = nI (E 2 j) ∧ I (gR G 4 j) 1 = nI (E 3 j) ∧ (E 1 j ≠ 0 → I (gR G 4 j) 2 = nI (E 4 j)) ∧ (E 1 j = 2 → I (gR G 4 j) 3 = nI (E 5 j) ∧ I (gR G 4 j) 4 = nI (E 6 j) ∧ I (gR G 4 j) 5 = nI (E 7 j))
def CW (I : xI) (G : xG) (E : aE) (w : Nat) : Prop := RW G w ∧ 49 ≤ w ∧ w + 2 ≤ 60 ∧ I w 2 = nI (E 0 5) ∧ ∀ k, k < E 0 5 → I (w + 1) k = nI (E 8 k) ∧ I (w + 2) k = nI (E 9 k)
/-- what a run leaves alone -/
def FC (q : Nat) (I I' : xI) : Prop := ∀ a, (a < q ∨ q + 18 ≤ a) → I' a = I a
theorem FC.refl (q : Nat) (I : xI) : FC q I I := fun _ _ => rfl
theorem FC.trans {q : Nat} {I1 I2 I3 : xI} (h1 : FC q I1 I2) (h2 : FC q I2 I3) : FC q I1 I3 := fun a ha => (h2 a ha).trans (h1 a ha)
theorem CL_FC {q : Nat} {I I' : xI} {G : xG} {E : aE} (h : CL I G E) (f : FC q I I') (hq : 8 ≤ q) (hq2 : q ≤ 26) : CL I' G E := by
  obtain ⟨h1, h2, h3⟩ := h
  refine ⟨by rw [f 3 (by omega)]; exact h1, by rw [f 3 (by omega)]; exact h2, fun j hj => ?_⟩
  have h4 := h3 j hj
  rw [f (gR G 4 j) (by omega)]
  exact h4
theorem CW_FC {q : Nat} {I I' : xI} {G : xG} {E : aE} {w : Nat} (h : CW I G E w) (f : FC q I I') (hq2 : q ≤ 26) : CW I' G E w := by
  obtain ⟨h1, h2, h3, h4, h5⟩ := h
  refine ⟨h1, h2, h3, ?_, ?_⟩
  · rw [f w (by omega)]; exact h4
  · rw [f (w + 1) (by omega), f (w + 2) (by omega)]; exact h5
theorem kpt_eq {I : xI} {G : xG} {E : aE} (h : CL I G E) {j : Nat} (hj : j < E 0 0) : kpt G I (gR G 4 j) = nI (sPart E j) := by
  obtain ⟨h1, h2, h3, h4, h5, h6, h7, h8⟩ := h.2.2 j hj
  unfold kpt sPart
  by_cases hz : E 1 j = 0
  · rw [if_pos (h3.mpr hz), if_pos hz]; rfl
  · rw [if_neg (fun z => hz (h3.mp z)), if_neg hz, h7 hz]
theorem nI_max2 {a b : Nat} (ha : a < 2 ^ 31) (hb : b < 2 ^ 31) : (if nI a < nI b then nI b else nI a) = nI (max a b) := by
  by_cases h : a < b
  · rw [if_pos (nI_lt h hb)]; congr 1; omega
  · rw [if_neg (nI_nlt (by omega) ha)]; congr 1; omega
theorem helds_H (E : aE) (S : aS) (τ : Nat) : ∀ j, (sHelds E τ S j).2 6 = S.2 6 := by
  intro j
  induction j with
  | zero => rfl
  | succ j ih =>
    show (sHeld1 E τ (sHelds E τ S j) j).2 6 = _
    unfold sHeld1
    split
    · rw [off_H, ih]
    · exact ih
theorem due_H {E : aE} {τ : Nat} : ∀ m (S : aS) (p : Nat), (sDue E τ m S p).1.2 6 = S.2 6 := by
  intro m
  induction m with
  | zero => intro S p; rfl
  | succ m ih =>
    intro S p
    unfold sDue
    split
    · rw [ih]
      split
      · rfl
      · exact off_H _ _ _ _
    · rfl
theorem nx_eq {E : aE} {S : aS} {j m : Nat} (h1 : S.2 5 j ≤ m) (h2 : m < E 0 5) (h3 : ∀ k, S.2 5 j ≤ k → k < m → E 9 k ≠ j) (h4 : E 9 m = j) : sNx E S j = m := by
  unfold sNx
  rw [fdn_skip (m - S.2 5 j) _ m _ (by omega) (by omega) h3, show E 0 5 - m = (E 0 5 - m - 1) + 1 by omega]
  unfold fdn
  rw [if_pos h4]
theorem nx_ge {E : aE} {S : aS} {j m : Nat} (h1 : S.2 5 j ≤ m) (h2 : m ≤ E 0 5) (h3 : ∀ k, S.2 5 j ≤ k → k < m → E 9 k ≠ j) : m ≤ sNx E S j := by
  unfold sNx
  rw [fdn_skip (m - S.2 5 j) _ m _ (by omega) h2 h3]
  exact fdn_ge _ _ _ _
theorem hb_s : ∀ b, b ≤ 5 → ((nI b &&& 31).toBitVec.smod 32).toNat = b := by decide +kernel
theorem hb_one : ∀ i, i < 32 → (1 : Int32).toBitVec.getLsbD i = decide (i = 0) := by decide +kernel
theorem hb_bit (x : Int32) {b : Nat} (hb : b ≤ 5) : (x >>> (nI b &&& 31)) &&& 1 = if x.toBitVec.getLsbD b = true then 1 else 0 := by
  apply Int32.toBitVec_inj.mp
  apply BitVec.eq_of_getLsbD_eq
  intro i hi
  rw [Int32.toBitVec_and, BitVec.getLsbD_and, hb_one i hi]
  by_cases h0 : i = 0
  · subst h0
    have e : (x >>> (nI b &&& 31)).toBitVec.getLsbD 0 = x.toBitVec.getLsbD b := by
      rw [Int32.toBitVec_shiftRight, BitVec.sshiftRight', hb_s b hb, BitVec.getLsbD_sshiftRight]
      simp
      intro z; omega
    rw [e]
    by_cases hc : x.toBitVec.getLsbD b = true
    · rw [if_pos hc, hc]; decide
    · rw [if_neg hc]
      have : x.toBitVec.getLsbD b = false := by simpa using hc
      rw [this]; decide
  · have : ((if x.toBitVec.getLsbD b = true then (1 : Int32) else 0)).toBitVec.getLsbD i = false := by
      split
      · rw [hb_one i hi]; simp [h0]
      · exact BitVec.getLsbD_zero
    rw [this]
    simp [h0]
theorem hb_shl (x : Int32) {d : Nat} (hd : d ≤ 1) : ((x <<< (1 &&& 31)) ||| nI d).toBitVec.getLsbD 0 = decide (d = 1) ∧ ∀ b, b ≤ 5 → ((x <<< (1 &&& 31)) ||| nI d).toBitVec.getLsbD (b + 1) = x.toBitVec.getLsbD b := by
  have e : ∀ i, i < 32 → (x <<< (1 &&& 31)).toBitVec.getLsbD i = (decide (1 ≤ i) && x.toBitVec.getLsbD (i - 1)) := by
    intro i hi
    rw [Int32.toBitVec_shiftLeft, BitVec.shiftLeft_eq', show (((1 : Int32) &&& 31).toBitVec.smod 32).toNat = 1 from by decide +kernel, BitVec.getLsbD_shiftLeft]
    by_cases h : 1 ≤ i
    · have h2 : ¬ i < 1 := by omega
      simp [h, h2, hi]
    · have h2 : i < 1 := by omega
      simp [h, h2, hi]
  have ed : ∀ i, i < 32 → (nI d).toBitVec.getLsbD i = (decide (d = 1) && decide (i = 0)) := by
    rcases (show d = 0 ∨ d = 1 by omega) with rfl | rfl
    · intro i hi; simp; exact BitVec.getLsbD_zero
    · intro i hi; rw [show nI 1 = 1 from rfl, hb_one i hi]; simp
  refine ⟨?_, fun b hb => ?_⟩
  · rw [Int32.toBitVec_or, BitVec.getLsbD_or, e 0 (by omega), ed 0 (by omega)]; simp
  · rw [Int32.toBitVec_or, BitVec.getLsbD_or, e (b + 1) (by omega), ed (b + 1) (by omega)]; simp
theorem hb_0 (x : Int32) : x >>> (nI 0 &&& 31) = x := by
  apply Int32.toBitVec_inj.mp
  simp [nI]
theorem SA_iff {τ p : Nat} (hτ : τ < 400) (h1 : 1 ≤ p) (h5 : p ≤ 5) : SA (nI p) (nI τ) ↔ (τ + 1) % p = 0 := by
  unfold SA
  rw [sub_r hτ h1 h5, show (0 : Int32) = nI 0 from rfl, nI_ltI (by omega) (by omega)]
  omega
theorem due_held {E : aE} {τ : Nat} (j : Nat) (hj : sHd E j) : ∀ m (S : aS) (p : Nat), (sDue E τ m S p).1.2 5 j = S.2 5 j := by
  intro m
  induction m with
  | zero => intro S p; rfl
  | succ m ih =>
    intro S p
    unfold sDue
    split
    · rw [ih]
      split
      · rfl
      · next hc =>
        have hjp : j ≠ E 9 p := by intro z; subst z; exact hc hj
        rw [off_P, uN_k _ _ _ hjp]
    · rfl
theorem cnt_all {p : Nat → Bool} : ∀ {n : Nat}, (∀ k, k < n → p k = true) → cnt p n = n := by
  intro n
  induction n with
  | zero => intro _; rfl
  | succ n ih =>
    intro h
    unfold cnt
    rw [ih (fun k hk => h k (by omega)), h n (by omega)]
    rfl
theorem und_ini (E : aE) : E 0 5 = sUnd E sIni := (cnt_all (fun k _ => by simp [sIni])).symm
