/-! the calls answer alike: letters -/
section EQd
variable {l : Launch} {C : xC} {G : xG} {I : xI}
theorem lok_congr {f g : Nat → Int32} {m : Int32} : ∀ (k p q : Nat) (x : Int32), (∀ i, i < 2 * k → f (p + i) = g (q + i)) → lok f m k p x = lok g m k q x := by
  intro k
  induction k with
  | zero => intros; rfl
  | succ k ih =>
    intro p q x h
    unfold lok
    have h0 := h 0 (by omega)
    have h1 := h 1 (by omega)
    rw [Nat.add_zero, Nat.add_zero] at h0
    rw [h0, h1, ih (p + 2) (q + 2) (g q) (fun i hi => by have := h (i + 2) (by omega); rw [show p + 2 + i = p + (i + 2) by omega, show q + 2 + i = q + (i + 2) by omega]; exact this)]
theorem lok_spec {f : Nat → Int32} {N : Nat} (hN : N ≤ 4) (F : Nat → Nat) (hF : ∀ i, F i = (f i).toNatClampNeg) : ∀ (k p x : Nat), x < 40 → lok f (nI N - 1) k p (nI x) = true → (∀ i, i < k → f (p + 2 * i) = nI (F (p + 2 * i)) ∧ x ≤ F (p + 2 * i) ∧ F (p + 2 * i) < 40 ∧ f (p + 2 * i + 1) = nI (F (p + 2 * i + 1)) ∧ F (p + 2 * i + 1) < N) ∧ (∀ i j, i ≤ j → j < k → F (p + 2 * i) ≤ F (p + 2 * j)) := by
  intro k
  induction k with
  | zero => intro p x _ _; exact ⟨fun i hi => absurd hi (by omega), fun i j _ hj => absurd hj (by omega)⟩
  | succ k ih =>
    intro p x hx h
    unfold lok at h
    by_cases hc : (nI x ≤ f p ∧ f p ≤ 39) ∧ (0 ≤ f (p + 1) ∧ f (p + 1) ≤ nI N - 1)
    · rw [if_pos hc] at h
      obtain ⟨t, t1, t2, t3⟩ := in_of (hi := 39) (by decide) hc.1 (by omega)
      obtain ⟨w, w1, w2⟩ := line_of (x := nI N) rfl hN hc.2
      rw [t3] at h
      have e1 : F p = t := by rw [hF, t3, nI_clamp (by omega)]
      have e2 : F (p + 1) = w := by rw [hF, w2, nI_clamp (by omega)]
      obtain ⟨g1, g2⟩ := ih (p + 2) t (by omega) h
      have sh : ∀ i, p + 2 + 2 * i = p + 2 * (i + 1) := fun i => by omega
      refine ⟨fun i hi => ?_, fun i j hij hj => ?_⟩
      · cases i with
        | zero => rw [Nat.mul_zero, Nat.add_zero, e1, e2]; exact ⟨t3, t1, by omega, w2, w1⟩
        | succ i =>
          have := g1 i (by omega)
          rw [sh] at this
          exact ⟨this.1, by omega, this.2.2.1, this.2.2.2.1, this.2.2.2.2⟩
      · cases j with
        | zero => have : i = 0 := by omega
                  subst this; exact Nat.le_refl _
        | succ j =>
          cases i with
          | zero =>
            have := g1 j (by omega)
            rw [sh] at this
            rw [Nat.mul_zero, Nat.add_zero, e1]
            exact this.2.1
          | succ i =>
            have := g2 i j (by omega) (by omega)
            rw [sh, sh] at this
            exact this
    · rw [if_neg hc] at h
      exact absurd h (by decide)
theorem LareL (hG : SH G) {u n a N : Nat} (hu : TSh G u) (ha : a + 2 * n ≤ 160) (hN : I 3 1 = nI N) (h4 : N ≤ 4) (hL : ∀ j, j < N → gR G 4 j ≠ 0) {x4 : Int32} : ∀ (k i : Nat) (x : Int32), i ≤ n → n < i + k → XF fI l C mX9_areLetters 7 [some (.ref 2), some (.ref u), some (.int (nI a)), some (.int (nI n)), some (.int x4), some (.int x), some (.int (nI i)), none] [] G I (fun r I' => r = bI (lok (I (u + 1)) (I 3 1 - 1) (n - i) (a + 2 * i) x = true) ∧ I' = I) := by
  intro k
  induction k with
  | zero => intro i x h1 h2; exact absurd h2 (by omega)
  | succ k ih =>
    intro i x h1 h2
    have e1 : nI a + 2 * nI i = nI (a + 2 * i) := by rw [show (2 : Int32) = nI 2 from rfl, pk_mul, nI_add]
    refine VX9_areLetters_7 hG hu I _ _ _ _ _ (pk_le n i (fun hle => ?_) (fun hlt => ?_))
    · have : n - i = 0 := by omega
      rw [this]
      exact ⟨(if_pos rfl).symm, rfl⟩
    · rw [e1, nI_clamp (show a + 2 * i < 2 ^ 31 by omega)]
      obtain ⟨m, hm⟩ : ∃ m, n - i = m + 1 := ⟨n - i - 1, by omega⟩
      rw [hm]
      refine ⟨vp_in_nI (by omega) (by omega), _, Zwithin hG I _ x 39, ?_⟩
      rintro v I1 ⟨rfl, rfl⟩
      refine bI_split (fun b1 => ?_) (fun b1 => ?_)
      · refine ⟨?_, rfl⟩
        unfold lok
        rw [if_neg (fun q => b1 q.1)]
        exact (if_neg (by decide)).symm
      · rw [nI_1, nI_clamp (show a + 2 * i + 1 < 2 ^ 31 by omega)]
        refine ⟨vp_in_nI (by omega) (by omega), _, ZlineAt hG I1 hN h4 _, ?_⟩
        rintro v I2 ⟨rfl, hv⟩
        rcases hv with ⟨v1, v2, rfl⟩ | ⟨v1, rfl⟩
        · obtain ⟨j, hj, e⟩ := line_of hN h4 ⟨v1, v2⟩
          refine ⟨fun q => absurd q ?_, fun _ => ?_⟩
          · rw [e, nI_clamp (by omega)]
            exact hL j hj
          · refine XF.mono (XF.to (ih (i + 1) (I2 (u + 1) (a + 2 * i)) (by omega) (by omega)) (by rw [nI_1]) rfl rfl) ?_
            rintro r I3 ⟨rfl, rfl⟩
            refine ⟨?_, rfl⟩
            conv => rhs; unfold lok
            rw [if_pos ⟨b1, v1, v2⟩, show n - (i + 1) = m by omega, show a + 2 * (i + 1) = a + 2 * i + 2 by omega]
        · refine ⟨fun _ => ⟨?_, rfl⟩, fun q => absurd rfl q⟩
          unfold lok
          rw [if_neg (fun q => v1 q.2)]
          exact (if_neg (by decide)).symm
theorem addstep (J : xI) (F K U : Nat → Int32) (w k k2 rw : Nat) (v1 v2 v3 : Int32) : wI (wI (wI (wA (wA (wA J (w + 1) F) (w + 2) K) w U) (w + 1) k v1) (w + 2) k2 v2) w rw v3 = wA (wA (wA J (w + 1) (upd F k v1)) (w + 2) (upd K k2 v2)) w (upd U rw v3) := by
  funext b
  by_cases h1 : b = w
  · subst h1; simp [wI, wA]
  by_cases h2 : b = w + 1
  · subst h2; simp [wI, wA]
  by_cases h3 : b = w + 2
  · subst h3; simp [wI, wA]
  · simp [wI, wA, h1, h2, h3]
theorem LaddL (hG : SH G) {w u n a c : Nat} (hw : RW G w) (hw0 : 49 ≤ w) (hw1 : w ≤ 58) (hu : TSh G u) (hb : 61 ≤ u) (ha : a + 2 * n ≤ 160) (hc : c + n ≤ 80) (J : xI) (hJ : J w 2 = nI c) : ∀ (k i : Nat), i ≤ n → n < i + k → XF fV l C mX4_addLetters 3 [some (.ref w), some (.ref u), some (.int (nI a)), some (.int (nI n)), some (.int (nI i))] [] G (wA (wA (wA J (w + 1) (cp2 (J (u + 1)) (J (w + 1)) a c i)) (w + 2) (cp2 (J (u + 1)) (J (w + 2)) (a + 1) c i)) w (upd (J w) 2 (nI (c + i)))) (fun _ I' => I' = wA (wA (wA J (w + 1) (cp2 (J (u + 1)) (J (w + 1)) a c n)) (w + 2) (cp2 (J (u + 1)) (J (w + 2)) (a + 1) c n)) w (upd (J w) 2 (nI (c + n)))) := by
  intro k
  induction k with
  | zero => intro i h1 h2; exact absurd h2 (by omega)
  | succ k ih =>
    intro i h1 h2
    have e1 : nI a + 2 * nI i = nI (a + 2 * i) := by rw [show (2 : Int32) = nI 2 from rfl, pk_mul, nI_add]
    refine VX4_addLetters_3 hG hw hw0 hu _ _ _ _ (pk_le n i (fun hle => ?_) (fun hlt => ?_))
    · have : i = n := by omega
      subst this
      rfl
    · rw [e1, nI_1 (a + 2 * i), nI_clamp (show a + 2 * i < 2 ^ 31 by omega), nI_clamp (show a + 2 * i + 1 < 2 ^ 31 by omega)]
      generalize hK : wA (wA (wA J (w + 1) (cp2 (J (u + 1)) (J (w + 1)) a c i)) (w + 2) (cp2 (J (u + 1)) (J (w + 2)) (a + 1) c i)) w (upd (J w) 2 (nI (c + i))) = K
      have q1 : K w 2 = nI (c + i) := by rw [← hK, wA_same, upd_same]
      have q2 : K (u + 1) = J (u + 1) := by rw [← hK, wA_ne _ _ (by omega), wA_ne _ _ (by omega), wA_ne _ _ (by omega)]
      have q3 : ∀ v x, wI K (w + 1) x v w 2 = nI (c + i) := fun v x => by rw [wI_ne _ _ _ (by omega), q1]
      have q5 : ∀ v x v' x', wI (wI K (w + 1) x v) (w + 2) x' v' w 2 = nI (c + i) := fun v x v' x' => by rw [wI_ne _ _ _ (by omega), wI_ne _ _ _ (by omega), q1]
      have q4 : ∀ v x, wI K (w + 1) x v (u + 1) = J (u + 1) := fun v x => by rw [wI_ne _ _ _ (by omega), q2]
      rw [q3, q5, q4, q1, q2, nI_clamp (show c + i < 2 ^ 31 by omega)]
      refine ⟨vp_in_nI (by omega) (by omega), vp_in_nI (by omega) (by omega), vp_in_nI (by omega) (by omega), vp_in_nI (by omega) (by omega), ?_⟩
      refine XF.to (ih (i + 1) (by omega) (by omega)) (by rw [nI_1]) rfl ?_
      rw [← hK, addstep, cp2_succ, show a + 2 * i + 1 = a + 1 + 2 * i by omega, cp2_succ, upd_upd, nI_1]
      rfl
end EQd
