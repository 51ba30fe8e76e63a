/-! the class: the best foresight -/
def ch (b : Nat → Int32) : List Nat → Int32 → Prop
  | [], v => v = (-1)
  | i :: r, v => v = nI i ∧ i < 80 ∧ ch b r (b i)
theorem ch_ext {b b' : Nat → Int32} : ∀ (L : List Nat) (v : Int32), (∀ i, i ∈ L → b' i = b i) → ch b L v → ch b' L v := by
  intro L
  induction L with
  | nil => intro v _ h; exact h
  | cons i r ih =>
    intro v he h
    obtain ⟨h1, h2, h3⟩ := h
    refine ⟨h1, h2, ?_⟩
    rw [he i (by simp)]
    exact ih _ (fun x hx => he x (by simp [hx])) h3
def tl (s : aV) : Nat := (s.1 0).length + (s.1 1).length + (s.1 2).length + (s.1 3).length
theorem tl_uQ (s : aV) (g : Nat → Nat) {l : Nat} (L : List Nat) (hl : l < 4) : tl (uQ s.1 l L, g) + (s.1 l).length = tl s + L.length := by
  rcases (show l = 0 ∨ l = 1 ∨ l = 2 ∨ l = 3 by omega) with rfl | rfl | rfl | rfl <;> simp only [tl, uQ, reduceIte] <;> simp <;> omega
/-- the stacks as the class holds them, p letters having come -/
def CK (I : xI) (E : aE) (s : aV) (p : Nat) : Prop := (∀ j, j < 4 → ch (I 46) (s.1 j) (I 47 j)) ∧ (∀ i, i < p → i ∉ s.1 (E 9 i) → I 45 i = nI (s.2 i)) ∧ (∀ j, j < 4 → (s.1 j).Nodup ∧ ∀ i, i ∈ s.1 j → E 9 i = j ∧ i < p) ∧ (∀ i, s.2 i < 440)
def FK (I I' : xI) : Prop := ∀ a, a ≠ 45 → a ≠ 46 → a ≠ 47 → a ≠ 48 → I' a = I a
theorem FK.trans {I1 I2 I3 : xI} (h1 : FK I1 I2) (h2 : FK I2 I3) : FK I1 I3 := fun a x y z w => (h2 a x y z w).trans (h1 a x y z w)
theorem CL_FK {I I' : xI} {G : xG} {E : aE} (h : CL I G E) (f : FK I I') : CL I' G E := by
  obtain ⟨h1, h2, h3⟩ := h
  refine ⟨by rw [f 3 (by decide) (by decide) (by decide) (by decide)]; exact h1, by rw [f 3 (by decide) (by decide) (by decide) (by decide)]; exact h2, fun j hj => ?_⟩
  have h4 := h3 j hj
  rw [f (gR G 4 j) (by omega) (by omega) (by omega) (by omega)]
  exact h4
theorem CW_FK {I I' : xI} {G : xG} {E : aE} {w : Nat} (h : CW I G E w) (f : FK I I') : CW I' G E w := by
  obtain ⟨h1, h2, h3, h4, h5⟩ := h
  refine ⟨h1, h2, h3, ?_, ?_⟩
  · rw [f w (by omega) (by omega) (by omega) (by omega)]; exact h4
  · rw [f (w + 1) (by omega) (by omega) (by omega) (by omega), f (w + 2) (by omega) (by omega) (by omega) (by omega)]; exact h5
section CFo
variable {l : Launch} {C : xC} {G : xG}
set_option maxHeartbeats 4000000 in
theorem Lpop (hG : SH G) {I0 : xI} {E : aE} {s0 : aV} {t p : Nat} (hE : EI E) (hL0 : CL I0 G E) (ht : t < 440) (hp : p ≤ E 0 5) : ∀ (k i : Nat), i ≤ E 0 0 → E 0 0 < i + k → ∀ (I : xI) (q : Nat), FK I0 I → CK I E (aRun E s0 (svT E t i)) p → q + tl (aRun E s0 (svT E t i)) = tl s0 → XF fI l C mX0_popYoungest 4 [some (.ref 44), some (.int (nI t)), some (.int (nI q)), some (.int (nI i)), none] [] G I (fun v I' => FK I0 I' ∧ CK I' E (aRun E s0 (svT E t (E 0 0))) p ∧ ∃ q, v = nI q ∧ q + tl (aRun E s0 (svT E t (E 0 0))) = tl s0) := by
  have hn4 := hE.2.1
  have hc := hE.2.2.2.1
  intro k
  induction k with
  | zero => intro i h1 h2; exact absurd h2 (by omega)
  | succ k ih =>
    intro i h1 h2 I q hF hK hq
    have hL := CL_FK hL0 hF
    refine VX0_popYoungest_4 hG I (nI t) (nI q) (nI i) (pk_le (E 0 0) i (fun hle => ?_) (fun hlt => ?_) hL.1 rfl)
    · have : i = E 0 0 := by omega
      subst this
      exact ⟨hF, hK, q, rfl, hq⟩
    · have hi4 : i < 4 := by omega
      have kcl : (nI i).toNatClampNeg = i := nI_clamp (by omega)
      obtain ⟨c1, c2, c3, c4, c5, c6, -⟩ := hL.2.2 i hlt
      obtain ⟨-, -, hpa, hpb, -⟩ := hE.2.2.2.2.2.2.1 i hlt
      have hnext : aRun E s0 (svT E t (i + 1)) = aRun E (aRun E s0 (svT E t i)) (if (t + 1) % E 3 i = 0 then [(i + 1, t)] else []) := by
        show aRun E s0 (svT E t i ++ _) = _
        rw [aRun_app]
      have hsa : SA (nI (E 3 i)) (nI t) ↔ (t + 1) % E 3 i = 0 := by
        unfold SA
        rw [nI_1, pk_rem (by omega) (by omega) (by omega), show (0 : Int32) = nI 0 from rfl, nI_ltI (by omega) (by omega), nI_eq (by have := Nat.mod_lt (t + 1) (show E 3 i > 0 by omega); omega) (by omega)]
        omega
      generalize hs1 : aRun E s0 (svT E t i) = s1 at *
      obtain ⟨k1, k2, k3, k4⟩ := hK
      have hch := k1 i hi4
      rw [kcl, c6]
      refine ⟨vp_in_nI hi4 (by decide), fun htop => ?_, fun htop => ?_⟩
      · have hemp : s1.1 i = [] := by
          cases hq2 : s1.1 i with
          | nil => rfl
          | cons a r =>
            rw [hq2] at hch
            exact absurd (show nI a < 0 by rw [← hch.1, htop]; decide) (nI_pos (by have := hch.2.1; omega))
        have e : aRun E s0 (svT E t (i + 1)) = s1 := by
          rw [hnext]
          split
          · exact step_e E s1 i t hemp
          · rfl
        exact XF.to (ih (i + 1) (by omega) (by omega) I q hF (by rw [e]; exact ⟨k1, k2, k3, k4⟩) (by rw [e]; exact hq)) (by rw [nI_succ]) rfl rfl
      · refine ⟨c1, fun hsv => ?_, fun hsv => ?_⟩
        · have hsv' := hsa.mp hsv
          obtain ⟨a, r, hq2⟩ : ∃ a r, s1.1 i = a :: r := by
            cases hq2 : s1.1 i with
            | nil => rw [hq2] at hch; exact absurd hch htop
            | cons a r => exact ⟨a, r, rfl⟩
          rw [hq2] at hch
          obtain ⟨ha1, ha2, ha3⟩ := hch
          have e : aRun E s0 (svT E t (i + 1)) = (uQ s1.1 i r, fun x => if x = a then t else s1.2 x) := by
            rw [hnext, if_pos hsv']
            exact step_c E s1 i t hq2
          have hnd : a ∉ r := by
            have := (k3 i hi4).1
            rw [hq2, List.nodup_cons] at this
            exact this.1
          have hla := ((k3 i hi4).2 a (by rw [hq2]; simp)).1
          have htl := tl_uQ s1 (fun x => if x = a then t else s1.2 x) r hi4
          rw [hq2] at htl
          simp at htl
          rw [ha1, nI_clamp (show a < 2 ^ 31 by omega)]
          refine ⟨vp_in_nI ha2 (by decide), ?_⟩
          refine XF.to (ih (i + 1) (by omega) (by omega) _ (q + 1) ?_ ?_ (by rw [e]; omega)) (by rw [nI_succ, nI_succ]) rfl rfl
          · intro x z1 z2 z3 z4
            rw [wI_ne _ _ _ z3, wI_ne _ _ _ z1, hF x z1 z2 z3 z4]
          · rw [e]
            refine ⟨fun j hj => ?_, fun x hx hnx => ?_, fun j hj => ?_, fun x => ?_⟩
            · rw [wI_ne _ _ _ (show (46 : Nat) ≠ 47 by decide), wI_ne _ _ _ (show (46 : Nat) ≠ 45 by decide), wI_same, wI_ne _ _ _ (show (47 : Nat) ≠ 45 by decide)]
              dsimp only
              by_cases hji : j = i
              · subst hji; rw [uQ_at, upd_same]; exact ha3
              · rw [uQ_ne _ _ hji, upd_ne _ _ hji]; exact k1 j hj
            · rw [wI_ne _ _ _ (by decide), wI_same]
              dsimp only at hnx ⊢
              by_cases hxa : x = a
              · subst hxa; rw [upd_same, if_pos rfl]
              · rw [upd_ne _ _ hxa, if_neg hxa]
                refine k2 x hx (fun hm => hnx ?_)
                by_cases hj : E 9 x = i
                · rw [hj, uQ_at]; rw [hj, hq2] at hm; simpa [hxa] using hm
                · rw [uQ_ne _ _ hj]; exact hm
            · dsimp only
              by_cases hji : j = i
              · subst hji
                rw [uQ_at]
                have := k3 j hj
                rw [hq2, List.nodup_cons] at this
                exact ⟨this.1.2, fun x hx => this.2 x (by simp [hx])⟩
              · rw [uQ_ne _ _ hji]; exact k3 j hj
            · dsimp only
              split
              · exact ht
              · exact k4 x
        · have e : aRun E s0 (svT E t (i + 1)) = s1 := by
            rw [hnext, if_neg (fun z => hsv (hsa.mpr z))]
            rfl
          exact XF.to (ih (i + 1) (by omega) (by omega) I q hF (by rw [e]; exact ⟨k1, k2, k3, k4⟩) (by rw [e]; exact hq)) (by rw [nI_succ]) rfl rfl
theorem Zpop (hG : SH G) {I : xI} {E : aE} {s : aV} {t p : Nat} (hE : EI E) (hL : CL I G E) (ht : t < 440) (hp : p ≤ E 0 5) (hK : CK I E s p) : XF fI l C mX0_popYoungest 0 (xent mX0_popYoungest [.ref 44, .int (nI t)]) [] G I (fun v I' => FK I I' ∧ CK I' E (aRun E s (svT E t (E 0 0))) p ∧ ∃ q, v = nI q ∧ q + tl (aRun E s (svT E t (E 0 0))) = tl s) :=
  VX0_popYoungest hG I (nI t) (Lpop hG hE hL ht hp (E 0 0 + 1) 0 (by omega) (by omega) I 0 (fun _ _ _ _ _ => rfl) hK (by rw [Nat.zero_add]; rfl))
theorem arv_snoc (a m : Nat) : arv a (m + 1) = arv a m ++ [(0, a + m)] := by
  unfold arv
  rw [List.range'_concat, List.map_append, Nat.one_mul]
  rfl
theorem evs_idle {E : aE} : ∀ (es : List (Nat × Nat)) (s : aV), (∀ j, s.1 j = []) → arr es = [] → aRun E s es = s := by
  intro es
  induction es with
  | nil => intro s _ _; rfl
  | cons e es ih =>
    intro s hs ha
    obtain ⟨a, b⟩ := e
    cases a with
    | zero => rw [arr_0] at ha; simp at ha
    | succ j =>
      rw [arr_s] at ha
      show aRun E (aStep E s (j + 1, b)) es = s
      rw [step_e _ _ _ _ (hs j)]
      exact ih s hs ha
theorem tl_0 {s : aV} (h : tl s = 0) {j : Nat} (hj : j < 4) : s.1 j = [] := by
  apply List.length_eq_zero_iff.mp
  unfold tl at h
  rcases lt4 hj with rfl | rfl | rfl | rfl <;> omega
set_option maxHeartbeats 4000000 in
theorem Lpair42 (hG : SH G) {I0 : xI} {E : aE} {w t : Nat} {s0 : aV} (hE : EI E) (hL0 : CL I0 G E) (hW0 : CW I0 G E w) (ht : t < 440) {Q : Unit → xI → Prop} {L0 : Nat}
    (hQ : ∀ (I : xI) (q : Nat), FK I0 I → CK I E (aRun E s0 (evT E t)) (pT E (t + 1)) → q + (L0 - pT E (t + 1)) = E 0 5 - pT E (t + 1) + tl (aRun E s0 (evT E t)) + (L0 - pT E (t + 1)) → XF fV l C mX0_pairLettersWithTicks 30 [some (.ref 44), some (.ref w), some (.int (nI (pT E (t + 1)))), some (.int (nI q)), some (.int (nI (t + 1)))] [] G I Q) : ∀ (m p : Nat) (I : xI) (x : Nat), pT E t ≤ p → p ≤ pT E (t + 1) → m = pT E (t + 1) - p → FK I0 I → CK I E (aRun E s0 (arv (pT E t) (p - pT E t))) p → x = E 0 5 - p + tl (aRun E s0 (arv (pT E t) (p - pT E t))) → XF fV l C mX0_pairLettersWithTicks 42 [some (.ref 44), some (.ref w), some (.int (nI p)), some (.int (nI x)), some (.int (nI t))] [] G I Q := by
  have hn4 := hE.2.1
  have hc := hE.2.2.2.1
  have hpl := pT_le E (t + 1)
  have hmn := pT_mono E (show t ≤ t + 1 by omega)
  have done : ∀ (p : Nat) (I : xI) (x : Nat), p = pT E (t + 1) → FK I0 I → CK I E (aRun E s0 (arv (pT E t) (p - pT E t))) p → x = E 0 5 - p + tl (aRun E s0 (arv (pT E t) (p - pT E t))) → (∃ Qc : Int32 → xI → Prop, XF fI l C mX0_popYoungest 0 (xent mX0_popYoungest [.ref 44, .int (nI t)]) [] G I Qc ∧ ∀ (v_100 : Int32) (I_100 : xI), Qc v_100 I_100 → XF fV l C mX0_pairLettersWithTicks 30 [some (.ref 44), some (.ref w), some (.int (nI p)), some (.int (nI x - v_100)), some (.int (nI t + 1))] [] G I_100 Q) := by
    intro p I x hp hF hK hx
    subst hp
    refine ⟨_, Zpop hG hE (CL_FK hL0 hF) ht hpl hK, ?_⟩
    rintro v I1 ⟨f1, k1, q, rfl, hq⟩
    have e : aRun E (aRun E s0 (arv (pT E t) (pT E (t + 1) - pT E t))) (svT E t (E 0 0)) = aRun E s0 (evT E t) := by
      unfold evT
      rw [aRun_app]
    rw [e] at k1 hq
    refine XF.to (hQ I1 (x - q) (hF.trans f1) k1 (by omega)) ?_ rfl rfl
    rw [pk_sub (by omega), nI_succ t]
  intro m
  induction m with
  | zero =>
    intro p I x h1 h2 hm hF hK hx
    have hp : p = pT E (t + 1) := by omega
    have hW := CW_FK hW0 hF
    refine VX0_pairLettersWithTicks_42 hG hW.1 hW.2.1 I (nI p) (nI x) (nI t) (pk_le (E 0 5) p (fun _ => done p I x hp hF hK hx) (fun hlt => ?_) hW.2.2.2.1 rfl)
    rw [nI_clamp (show p < 2 ^ 31 by omega), (hW.2.2.2.2 p hlt).1]
    have h40 := (hE.2.2.2.2.1 p hlt).2
    have hn : ¬ E 8 p < t + 1 := fun q => by have := (pT_iff hE hlt (t + 1)).mpr q; omega
    exact ⟨vp_in_nI (by omega) (by decide), pk_lt t (E 8 p) (fun _ => done p I x hp hF hK hx) (fun z => absurd z (by omega)) rfl rfl⟩
  | succ m ih =>
    intro p I x h1 h2 hm hF hK hx
    have hW := CW_FK hW0 hF
    have hlt : p < E 0 5 := by omega
    have hyes : E 8 p < t + 1 := (pT_iff hE hlt (t + 1)).mp (by omega)
    obtain ⟨hl, h40⟩ := hE.2.2.2.2.1 p hlt
    refine VX0_pairLettersWithTicks_42 hG hW.1 hW.2.1 I (nI p) (nI x) (nI t) (pk_le (E 0 5) p (fun z => absurd z (by omega)) (fun _ => ?_) hW.2.2.2.1 rfl)
    have hw3 := hW.2.2.1
    have hw2 := hW.2.1
    rw [nI_clamp (show p < 2 ^ 31 by omega), wI_ne _ _ _ (show w + 2 ≠ 46 by omega), (hW.2.2.2.2 p hlt).1, (hW.2.2.2.2 p hlt).2, nI_clamp (show E 9 p < 2 ^ 31 by omega)]
    refine ⟨vp_in_nI (by omega) (by decide), pk_lt t (E 8 p) (fun z => absurd z (by omega)) (fun _ => ?_) rfl rfl⟩
    refine ⟨vp_in_nI (by omega) (by decide), vp_in_nI (by omega) (by decide), ?_⟩
    have e : aRun E s0 (arv (pT E t) (p + 1 - pT E t)) = aStep E (aRun E s0 (arv (pT E t) (p - pT E t))) (0, p) := by
      rw [show p + 1 - pT E t = (p - pT E t) + 1 by omega, arv_snoc, aRun_app, show pT E t + (p - pT E t) = p by omega]
      rfl
    rw [step_0] at e
    generalize aRun E s0 (arv (pT E t) (p - pT E t)) = s1 at *
    obtain ⟨k1, k2, k3, k4⟩ := hK
    have hl4 : E 9 p < 4 := by omega
    have hnin : ∀ j, j < 4 → p ∉ s1.1 j := fun j hj q => by have := ((k3 j hj).2 p q).2; omega
    have htl := tl_uQ s1 s1.2 (p :: s1.1 (E 9 p)) hl4
    simp at htl
    refine XF.to (ih (p + 1) _ x (by omega) (by omega) (by omega) ?_ ?_ (by rw [e]; omega)) (by rw [nI_succ]) rfl rfl
    · intro a z1 z2 z3 z4
      rw [wI_ne _ _ _ z3, wI_ne _ _ _ z2, hF a z1 z2 z3 z4]
    · rw [e]
      refine ⟨fun j hj => ?_, fun i hi hni => ?_, fun j hj => ?_, k4⟩
      · rw [wI_ne _ _ _ (show (46 : Nat) ≠ 47 by decide), wI_same, wI_same, wI_ne _ _ _ (show (47 : Nat) ≠ 46 by decide)]
        dsimp only
        by_cases hjl : j = E 9 p
        · subst hjl
          rw [uQ_at, upd_same]
          refine ⟨rfl, by omega, ?_⟩
          rw [upd_same]
          exact ch_ext _ _ (fun i hi => upd_ne _ _ (fun z => hnin _ hj (z ▸ hi))) (k1 _ hj)
        · rw [uQ_ne _ _ hjl, upd_ne _ _ hjl]
          exact ch_ext _ _ (fun i hi => upd_ne _ _ (fun z => hnin _ hj (z ▸ hi))) (k1 _ hj)
      · dsimp only at hni ⊢
        rw [wI_ne _ _ _ (by decide), wI_ne _ _ _ (by decide)]
        have hip : i ≠ p := by
          intro z
          subst z
          rw [uQ_at] at hni
          simp at hni
        refine k2 i (by omega) (fun hm => hni ?_)
        by_cases hj : E 9 i = E 9 p
        · rw [hj, uQ_at]; rw [hj] at hm; simp [hm]
        · rw [uQ_ne _ _ hj]; exact hm
      · dsimp only
        by_cases hjl : j = E 9 p
        · subst hjl
          rw [uQ_at, List.nodup_cons]
          refine ⟨⟨hnin _ hj, (k3 _ hj).1⟩, fun i hi => ?_⟩
          simp at hi
          rcases hi with rfl | hi
          · exact ⟨rfl, by omega⟩
          · have := (k3 _ hj).2 i hi
            exact ⟨this.1, by omega⟩
        · rw [uQ_ne _ _ hjl]
          refine ⟨(k3 j hj).1, fun i hi => ?_⟩
          have := (k3 j hj).2 i hi
          exact ⟨this.1, by omega⟩
abbrev fin440 (E : aE) : aV := aRun E sZ (evs E 0 440)
set_option maxHeartbeats 4000000 in
theorem Lpair30 (hG : SH G) {I0 : xI} {E : aE} {w : Nat} (hE : EI E) (hL0 : CL I0 G E) (hW0 : CW I0 G E w) : ∀ (m t : Nat) (I : xI) (x : Nat), m + t = 440 → FK I0 I → CK I E (aRun E sZ (evs E 0 t)) (pT E t) → x = E 0 5 - pT E t + tl (aRun E sZ (evs E 0 t)) → XF fV l C mX0_pairLettersWithTicks 30 [some (.ref 44), some (.ref w), some (.int (nI (pT E t))), some (.int (nI x)), some (.int (nI t))] [] G I (fun _ I' => FK I0 I' ∧ ∀ i, i < E 0 5 → I' 45 i = nI ((fin440 E).2 i)) := by
  have hc := hE.2.2.2.1
  have hn4 := hE.2.1
  have hw : ∀ t, WF E [] (aRun E sZ (evs E 0 t)) := fun t => WF_app (evs E 0 t) (by rw [List.append_nil]; exact WF_evs hE t)
  have hx80 : ∀ t, tl (aRun E sZ (evs E 0 t)) ≤ 320 := by
    intro t
    have h80 : ∀ j, ((aRun E sZ (evs E 0 t)).1 j).length ≤ 80 := by
      intro j
      rw [len_cnt (c := E 0 5) _ ((hw t).2.2 j).1 (fun i hi => (((hw t).2.2 j).2 i hi).2.2.1)]
      have := cnt_le (fun i => decide (i ∈ (aRun E sZ (evs E 0 t)).1 j)) (E 0 5)
      omega
    unfold tl
    have := h80 0; have := h80 1; have := h80 2; have := h80 3
    omega
  intro m
  induction m with
  | zero =>
    intro t I x hm hF hK hx
    have hW := CW_FK hW0 hF
    have ht : t = 440 := by omega
    subst ht
    refine VX0_pairLettersWithTicks_30 hG hW.1 hW.2.1 I (nI (pT E 440)) (nI x) (nI 440) (pk_le 440 440 (fun _ => ⟨hF, fun i hi => ?_⟩) (fun z => absurd z (by omega)) rfl rfl)
    exact hK.2.1 i (by rw [pT_40 hE (by omega)]; exact hi) (by rw [all_gone hE]; simp)
  | succ m ih =>
    intro t I x hm hF hK hx
    have hW := CW_FK hW0 hF
    have hpl := pT_le E t
    have hxb := hx80 t
    refine VX0_pairLettersWithTicks_30 hG hW.1 hW.2.1 I (nI (pT E t)) (nI x) (nI t) (pk_le 440 t (fun z => absurd z (by omega)) (fun ht => ?_) rfl rfl)
    refine pk_le x 0 (fun hz => ?_) (fun hz => ?_) rfl rfl (by omega) (by omega)
    · have hp : pT E t = E 0 5 := by omega
      have htl : tl (aRun E sZ (evs E 0 t)) = 0 := by omega
      have hst : ∀ j, (aRun E sZ (evs E 0 t)).1 j = [] := by
        intro j
        by_cases hj : j < 4
        · exact tl_0 htl hj
        · cases hq : (aRun E sZ (evs E 0 t)).1 j with
          | nil => rfl
          | cons i r => have := (((hw t).2.2 j).2 i (by rw [hq]; simp)).2.2.2; omega
      have e : fin440 E = aRun E sZ (evs E 0 t) := by
        have q := evs_add E t 0 (440 - t)
        rw [show t + (440 - t) = 440 by omega, Nat.zero_add] at q
        show aRun E sZ (evs E 0 440) = _
        rw [q, aRun_app]
        refine evs_idle _ _ hst ?_
        rw [arr_evs]
        have := pT_le E (t + (440 - t))
        rw [hp, show pT E (t + (440 - t)) - E 0 5 = 0 by omega]
        rfl
      refine ⟨hF, fun i hi => ?_⟩
      rw [e]
      exact hK.2.1 i (by omega) (by rw [hst]; simp)
    · refine Lpair42 hG (s0 := aRun E sZ (evs E 0 t)) (L0 := 0) hE hL0 hW0 ht ?_ (pT E (t + 1) - pT E t) (pT E t) I x (Nat.le_refl _) (pT_mono E (by omega)) rfl hF (by rw [Nat.sub_self]; exact hK) (by rw [Nat.sub_self]; exact hx)
      intro I1 q f1 k1 hq
      have e : aRun E (aRun E sZ (evs E 0 t)) (evT E t) = aRun E sZ (evs E 0 (t + 1)) := by rw [evs_snoc, aRun_app]
      rw [e] at k1 hq
      exact ih (t + 1) I1 q (by omega) f1 k1 (by omega)
theorem Lpair2 (hG : SH G) {I0 : xI} {E : aE} {w : Nat} (hE : EI E) (hL0 : CL I0 G E) (hW0 : CW I0 G E w) : ∀ (k i : Nat), i ≤ 4 → 4 < i + k → ∀ I, FK I0 I → (∀ j, j < i → I 47 j = (-1)) → XF fV l C mX0_pairLettersWithTicks 2 [some (.ref 44), some (.ref w), some (.int (nI i)), none, none] [] G I (fun _ I' => FK I0 I' ∧ ∀ i, i < E 0 5 → I' 45 i = nI ((fin440 E).2 i)) := by
  intro k
  induction k with
  | zero => intro i h1 h2; exact absurd h2 (by omega)
  | succ k ih =>
    intro i h1 h2 I hF hz
    have hW := CW_FK hW0 hF
    refine VX0_pairLettersWithTicks_2 hG hW.1 hW.2.1 I (nI i) (pk_le 4 i (fun hle => ?_) (fun hlt => ?_) rfl rfl)
    · rw [hW.2.2.2.1]
      refine XF.to (Lpair30 hG hE hL0 hW0 440 0 I (E 0 5) rfl hF ?_ ?_) (by rw [pT_0]; rfl) rfl rfl
      · rw [pT_0]
        exact ⟨fun j hj => hz j (by omega), fun i hi => absurd hi (by omega), fun j _ => ⟨List.nodup_nil, fun i hi => absurd hi (by show ¬ i ∈ []; simp)⟩, fun _ => by show (0 : Nat) < 440; omega⟩
      · rw [pT_0]; rfl
    · rw [nI_clamp (show i < 2 ^ 31 by omega)]
      refine ⟨vp_in_nI hlt (by decide), XF.to (ih (i + 1) (by omega) (by omega) _ (fun a z1 z2 z3 z4 => by rw [wI_ne _ _ _ z3, hF a z1 z2 z3 z4]) (fun j hj => ?_)) (by rw [nI_succ]) rfl rfl⟩
      rw [wI_same]
      by_cases hji : j = i
      · subst hji; rw [upd_same]
      · rw [upd_ne _ _ hji]; exact hz j (by omega)
end CFo
