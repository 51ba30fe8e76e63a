/-! class and reference between two calls -/
def env (D : aE) (r u a q : Nat) : aE := fun x i => if x = 0 then (if i = 2 then a else if i = 3 then u else if i = 4 then q else if i = 5 then D 20 r else D 0 i) else if x = 8 then D (30 + r) i else if x = 9 then D (40 + r) i else D x i
def RLn (G : xG) (I : xI) (D : aE) : Prop :=
  (1 ≤ D 0 0 ∧ D 0 0 ≤ 4 ∧ 1 ≤ D 0 1 ∧ D 0 1 ≤ 12 ∧ 1 ≤ D 0 2 ∧ D 0 2 ≤ 160)
  ∧ (I 69 1 = nI (D 0 0) ∧ I 69 0 = nI (D 0 1) ∧ I 69 9 = nI (D 0 2))
  ∧ (I 3 1 = nI (D 0 0) ∧ I 3 2 = nI (D 0 1) ∧ I 3 3 = nI (D 0 2))
  ∧ (∀ j, j < D 0 0 → D 1 j ≤ 2 ∧ D 2 j ≤ 12 ∧ 1 ≤ D 3 j ∧ D 3 j ≤ 5 ∧ D 4 j ≤ 12 ∧ D 5 j ≤ 12 ∧ D 6 j ≤ 12 ∧ D 7 j ≤ 5)
  ∧ (∀ j, j < D 0 0 → I 70 j = nI (D 1 j) ∧ I 71 j = nI (D 2 j) ∧ I 72 j = nI (D 3 j) ∧ I 73 j = nI (D 4 j) ∧ I 74 j = nI (D 5 j) ∧ I 75 j = nI (D 6 j) ∧ I 76 j = nI (D 7 j))
  ∧ (∀ j, j < D 0 0 → LN G (gR G 4 j) ∧ (gR G 4 j = 5 ∨ 103 ≤ gR G 4 j) ∧ (gT G (gR G 4 j) = 2 ↔ D 1 j = 0) ∧ (gT G (gR G 4 j) = 1 ↔ D 1 j = 2) ∧ I (gR G 4 j) 0 = nI (D 2 j) ∧ I (gR G 4 j) 1 = nI (D 3 j) ∧ (D 1 j ≠ 0 → I (gR G 4 j) 2 = nI (D 4 j)) ∧ (D 1 j = 2 → I (gR G 4 j) 3 = nI (D 5 j) ∧ I (gR G 4 j) 4 = nI (D 6 j) ∧ I (gR G 4 j) 5 = nI (D 7 j)))
  ∧ (∀ i j, i < D 0 0 → j < D 0 0 → gR G 4 i = gR G 4 j → i = j)
  ∧ psum D (D 0 0) ≤ D 0 1
def RRw (I : xI) (D : aE) : Prop := ∀ r, r < 4 → D 20 r ≤ 80 ∧ I 81 r = nI (D 20 r) ∧ I (49 + 3 * r) 2 = nI (D 20 r)
  ∧ (∀ k, k < D 20 r → D (40 + r) k < D 0 0 ∧ D (30 + r) k < 40 ∧ I 82 (80 * r + k) = nI (D (30 + r) k) ∧ I 83 (80 * r + k) = nI (D (40 + r) k) ∧ I (49 + 3 * r + 1) k = nI (D (30 + r) k) ∧ I (49 + 3 * r + 2) k = nI (D (40 + r) k))
  ∧ (∀ i k, i ≤ k → k < D 20 r → D (30 + r) i ≤ D (30 + r) k) ∧ (D 21 r ≤ 1 ∧ I 84 r = nI (D 21 r) ∧ I (49 + 3 * r) 3 = nI (D 21 r))
def RT1 (I : xI) (s : Nat) : Prop := ∃ z, z ≤ 160 ∧ I 78 s = nI z ∧ ((I (61 + 2 * s) 2 = 0 ∧ I 77 s = (-1)) ∨ (I (61 + 2 * s) 2 = 1 ∧ I (61 + 2 * s) 3 = nI z ∧ I (61 + 2 * s) 0 = I 77 s ∧ (0 ≤ I 77 s ∧ I 77 s ≤ 2) ∧ ∀ i, i < z → I (61 + 2 * s + 1) i = I 79 (160 * s + i)))
def RT (I : xI) : Prop := ∀ s, s < 4 → RT1 I s
def RN (I : xI) : Prop := ∃ c, c ≤ 80 ∧ I 69 35 = nI c ∧ ((I 2 6 = 0 ∧ I 69 34 = 0) ∨ (I 2 6 = 1 ∧ I 69 34 = 1 ∧ I 8 14 = nI c ∧ I 8 15 = I 69 36 ∧ I 8 18 = I 100 4 ∧ (∀ k, k < c → I 12 k = I 96 k ∧ I 13 k = I 97 k ∧ I 14 k = I 98 k ∧ I 10 k = I 99 k) ∧ (∀ j, j < 4 → I 15 j = I 100 j) ∧ (∀ j, j < 4 → ∀ t, t < 400 → I 95 (400 * j + t) = nI (cntA I (nI j) (nI t) c))))
def RQ0 (I : xI) : Prop := ∀ j, j < 4 → RQ I (18 + 2 * j) [] ∧ RQ I (36 + 2 * j) []
def REL (G : xG) (I : xI) : Prop := SH G ∧ ∃ D, RLn G I D ∧ RRw I D ∧ RT I ∧ RN I ∧ I 2 7 = I 69 44 ∧ RQ0 I
theorem RLn_ext {G : xG} {I I' : xI} {D : aE} (h : RLn G I D) (h3 : I' 3 = I 3) (hA : ∀ a, (a = 5 ∨ 103 ≤ a) → LN G a → I' a = I a) (h61 : ∀ i, i = 0 ∨ i = 1 ∨ i = 9 → I' 69 i = I 69 i) (hM : ∀ a, 70 ≤ a → a ≤ 76 → I' a = I a) : RLn G I' D := by
  obtain ⟨a1, a2, a3, a4, a5, a6, a7, a8⟩ := h
  refine ⟨a1, ?_, by rw [h3]; exact a3, a4, ?_, fun j hj => ?_, a7, a8⟩
  · rw [h61 1 (by decide), h61 0 (by decide), h61 9 (by decide)]; exact a2
  · rw [hM 70 (by decide) (by decide), hM 71 (by decide) (by decide), hM 72 (by decide) (by decide), hM 73 (by decide) (by decide), hM 74 (by decide) (by decide), hM 75 (by decide) (by decide), hM 76 (by decide) (by decide)]; exact a5
  · have := a6 j hj
    rw [hA _ this.2.1 this.1]
    exact this
theorem RRw_ext {I I' : xI} {D : aE} (h : RRw I D) (he : ∀ a, (49 ≤ a ∧ a ≤ 60) ∨ (81 ≤ a ∧ a ≤ 84) → I' a = I a) : RRw I' D := by
  intro r hr
  rw [he 81 (by omega), he (49 + 3 * r) (by omega), he 82 (by omega), he 83 (by omega), he (49 + 3 * r + 1) (by omega), he (49 + 3 * r + 2) (by omega), he 84 (by omega)]
  exact h r hr
theorem RT1_ext {I I' : xI} {s : Nat} (h : RT1 I s) (h77 : I' 77 s = I 77 s) (h78 : I' 78 s = I 78 s) (h79 : ∀ i, i < 160 → I' 79 (160 * s + i) = I 79 (160 * s + i)) (hu : I' (61 + 2 * s) = I (61 + 2 * s)) (hv : I' (61 + 2 * s + 1) = I (61 + 2 * s + 1)) : RT1 I' s := by
  obtain ⟨z, z1, z2, z3⟩ := h
  refine ⟨z, z1, by rw [h78]; exact z2, ?_⟩
  rw [h77, hu, hv]
  rcases z3 with z3 | ⟨b1, b2, b3, b4, b5⟩
  · exact Or.inl z3
  · exact Or.inr ⟨b1, b2, b3, b4, fun i hi => by rw [h79 i (by omega)]; exact b5 i hi⟩
theorem RT_ext {I I' : xI} (h : RT I) (he : ∀ a, (77 ≤ a ∧ a ≤ 79) ∨ (61 ≤ a ∧ a ≤ 68) → I' a = I a) : RT I' :=
  fun s hs => RT1_ext (h s hs) (by rw [he 77 (by omega)]) (by rw [he 78 (by omega)]) (fun i _ => by rw [he 79 (by omega)]) (he _ (by omega)) (he _ (by omega))
theorem RN_ext {I I' : xI} (h : RN I) (h2 : I' 2 6 = I 2 6) (h8 : ∀ a, (a = 8 ∨ (10 ≤ a ∧ a ≤ 15)) → I' a = I a) (h61 : ∀ i, i = 34 ∨ i = 35 ∨ i = 36 → I' 69 i = I 69 i) (h87 : ∀ a, 95 ≤ a → a ≤ 100 → I' a = I a) : RN I' := by
  obtain ⟨c, c1, c2, c3⟩ := h
  refine ⟨c, c1, by rw [h61 35 (by decide)]; exact c2, ?_⟩
  unfold cntA at c3 ⊢
  rw [h2, h8 8 (by decide), h8 10 (by decide), h8 11 (by decide), h8 12 (by decide), h8 13 (by decide), h8 14 (by decide), h8 15 (by decide), h61 34 (by decide), h61 36 (by decide), h87 95 (by decide) (by decide), h87 96 (by decide) (by decide), h87 97 (by decide) (by decide), h87 98 (by decide) (by decide), h87 99 (by decide) (by decide), h87 100 (by decide) (by decide)]
  exact c3
theorem RQ0_ext {I I' : xI} (h : RQ0 I) (he : ∀ a, (18 ≤ a ∧ a ≤ 25) ∨ (36 ≤ a ∧ a ≤ 43) → I' a = I a) : RQ0 I' := fun j hj => ⟨RQ_ext (h j hj).1 (he _ (by omega)) (he _ (by omega)), RQ_ext (h j hj).2 (he _ (by omega)) (he _ (by omega))⟩
section REn
variable {G : xG} {I : xI} {D : aE} {r u a q : Nat}
theorem EI_env (h : RLn G I D) (hR : RRw I D) (hr : r < 4) (hu : u ≤ 3) (ha : a ≤ 160) (hq : q ≤ 1) : EI (env D r u a q) := by
  obtain ⟨a1, a2, a3, a4, -⟩ := h
  obtain ⟨b1, b2, b3, b4, b5, b6⟩ := hR r hr
  exact ⟨a1.1, a1.2.1, a1.2.2.2.1, b1, fun k hk => ⟨(b4 k hk).1, (b4 k hk).2.1⟩, b5, a4, ha, hu, hq⟩
theorem CL_env (h : RLn G I D) : CL I G (env D r u a q) := by
  obtain ⟨a1, a2, a3, a4, a5, a6, -⟩ := h
  exact ⟨a3.1, a3.2.1, a6⟩
theorem CW_env (hG : SH G) (hR : RRw I D) (hr : r < 4) : CW I G (env D r u a q) (49 + 3 * r) := by
  obtain ⟨b1, b2, b3, b4, b5, b6⟩ := hR r hr
  exact ⟨RW49 hG hr, by omega, by omega, b3, fun k hk => ⟨(b4 k hk).2.2.2.2.1, (b4 k hk).2.2.2.2.2⟩⟩
theorem MS0_env (h : RLn G I D) (hR : RRw I D) (hr : r < 4) : MS0 I (env D r u a q) r := by
  obtain ⟨a1, a2, a3, a4, a5, a6, -⟩ := h
  obtain ⟨b1, b2, b3, b4, b5, b6⟩ := hR r hr
  exact ⟨a2.1, a2.2.1, ⟨hr, b2⟩, fun k hk => ⟨(b4 k hk).2.2.2.1, (b4 k hk).2.2.1⟩, a5⟩
theorem MB_env (h : RLn G I D) (hR : RRw I D) (hr : r < 4) : MB I (env D r u a q) r := by
  obtain ⟨a1, a2, a3, a4, a5, a6, -⟩ := h
  obtain ⟨b1, b2, b3, b4, b5, b6⟩ := hR r hr
  exact ⟨a2.1, a2.2.1, ⟨hr, b2⟩, fun k hk => ⟨(b4 k hk).2.2.2.1, (b4 k hk).2.2.1⟩, fun j hj => (a5 j hj).2.2.1⟩
theorem psum_cnt (E : aE) : ∀ n, sCnt E sIni n = psum E n := by
  intro n
  induction n with
  | zero => rfl
  | succ n ih =>
    unfold sCnt psum
    rw [ih]
    have : max (sLen sIni n) (sPart E n) = sPart E n := by show max 0 (sPart E n) = _; omega
    rw [this]
theorem psum_congr {E E' : aE} (h1 : E 1 = E' 1) (h4 : E 4 = E' 4) : ∀ n, psum E n = psum E' n := by
  intro n
  induction n with
  | zero => rfl
  | succ n ih => unfold psum sPart; rw [ih, h1, h4]
theorem cap_env (h : RLn G I D) : sCnt (env D r u a q) sIni ((env D r u a q) 0 0) ≤ (env D r u a q) 0 1 := by
  rw [psum_cnt, psum_congr (E := env D r u a q) (E' := D) rfl rfl]
  exact h.2.2.2.2.2.2.2
end REn
section EQs
variable {l : Launch} {C : xC} {G : xG} {I : xI}
/-- a call answers alike on both, and what holds between calls holds again -/
def EQ (l : Launch) (C : xC) (kx km : xM) (As : List Value) (G : xG) (I : xI) : Prop := ∃ v G1 I1 I2, XW l C kx 0 (xent kx (.ref 2 :: As)) [] G I (some (.int v)) G1 I1 ∧ XW l C km 0 (xent km (.ref 69 :: As)) [] G1 I1 (some (.int v)) G1 I2 ∧ REL G1 I2 ∧ gN G ≤ gN G1 ∧ gS G ≤ gS G1 ∧ gN G1 ≤ gN G + 2 ∧ gS G1 ≤ gS G + 165
theorem EQ_XF {kx km : xM} {As : List Value} {Q : Int32 → xI → Prop} (hc : XF fI l C kx 0 (xent kx (.ref 2 :: As)) [] G I Q) (hm : ∀ v I1, Q v I1 → XF fI l C km 0 (xent km (.ref 69 :: As)) [] G I1 (fun w I2 => w = v ∧ REL G I2)) : EQ l C kx km As G I := by
  obtain ⟨v, I1, h1, h2⟩ := hc
  obtain ⟨w, I2, h3, rfl, h4⟩ := hm v I1 h2
  exact ⟨w, G, I1, I2, h1, h3, h4, Nat.le_refl _, Nat.le_refl _, by omega, by omega⟩
end EQs
