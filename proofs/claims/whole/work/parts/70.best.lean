/-! the best foresight: stays that are fixed, by plain numbers and lists -/
abbrev aV : Type := (Nat → List Nat) × (Nat → Nat)
/-- (0, k): the letter k comes; (j + 1, t): the line j may send at the tick t -/
def aStep (E : aE) (s : aV) (e : Nat × Nat) : aV :=
  match e.1 with
  | 0 => (uQ s.1 (E 9 e.2) (e.2 :: s.1 (E 9 e.2)), s.2)
  | j + 1 => if s.1 j = [] then s else (uQ s.1 j (s.1 j).tail, fun x => if x = (s.1 j).headD 0 then e.2 else s.2 x)
def aRun (E : aE) (s : aV) (es : List (Nat × Nat)) : aV := es.foldl (aStep E) s
def uL (y : Nat → Nat) (l v : Nat) : Nat → Nat := fun j => if j = l then v else y j
def xStep (E : aE) (X : Nat → Bool) (y : Nat → Nat) (e : Nat × Nat) : Nat → Nat :=
  match e.1 with
  | 0 => if X e.2 = true then uL y (E 9 e.2) (y (E 9 e.2) + 1) else y
  | j + 1 => uL y j (y j - 1)
def xRun (E : aE) (X : Nat → Bool) (y : Nat → Nat) (es : List (Nat × Nat)) : Nat → Nat := es.foldl (xStep E X) y
/-- which letters stand at a tick at which X's own line sends -/
def fl (E : aE) (X : Nat → Bool) : List (Nat × Nat) → aV → (Nat → Nat) → Nat → Bool
  | [], _, _, _ => false
  | e :: es, s, y, x =>
    match e.1 with
    | 0 => fl E X es (aStep E s e) (xStep E X y e) x
    | j + 1 => if ¬ s.1 j = [] ∧ x = (s.1 j).headD 0 then decide (0 < y j) else fl E X es (aStep E s e) (xStep E X y e) x
/-- how often X's lines send -/
def bz (E : aE) (X : Nat → Bool) : List (Nat × Nat) → (Nat → Nat) → Nat
  | [], _ => 0
  | e :: es, y =>
    match e.1 with
    | 0 => bz E X es (xStep E X y e)
    | j + 1 => (if 0 < y j then 1 else 0) + bz E X es (xStep E X y e)
def arr (es : List (Nat × Nat)) : List Nat := (es.filter (fun e => e.1 == 0)).map (fun e => e.2)
def WF (E : aE) (es : List (Nat × Nat)) (s : aV) : Prop := (arr es).Nodup ∧ (∀ k, k ∈ arr es → k < E 0 5 ∧ E 9 k < 4) ∧ (∀ j, (s.1 j).Nodup ∧ ∀ i, i ∈ s.1 j → E 9 i = j ∧ i ∉ arr es ∧ i < E 0 5 ∧ j < 4)
theorem arr_0 (k : Nat) (es : List (Nat × Nat)) : arr ((0, k) :: es) = k :: arr es := by simp [arr]
theorem arr_s (j t : Nat) (es : List (Nat × Nat)) : arr ((j + 1, t) :: es) = arr es := by simp [arr]
theorem step_0 (E : aE) (s : aV) (k : Nat) : aStep E s (0, k) = (uQ s.1 (E 9 k) (k :: s.1 (E 9 k)), s.2) := rfl
theorem step_e (E : aE) (s : aV) (j t : Nat) (h : s.1 j = []) : aStep E s (j + 1, t) = s := by show (if s.1 j = [] then s else _) = s; rw [if_pos h]
theorem step_c (E : aE) (s : aV) (j t : Nat) {i : Nat} {r : List Nat} (h : s.1 j = i :: r) : aStep E s (j + 1, t) = (uQ s.1 j r, fun x => if x = i then t else s.2 x) := by
  show (if s.1 j = [] then s else _) = _
  rw [if_neg (by rw [h]; simp), h]
  rfl
theorem WF_0 {E : aE} {s : aV} {k : Nat} {es : List (Nat × Nat)} (h : WF E ((0, k) :: es) s) : WF E es (aStep E s (0, k)) := by
  obtain ⟨h1, h2, h3⟩ := h
  rw [arr_0, List.nodup_cons] at h1
  rw [arr_0] at h2 h3
  refine ⟨h1.2, fun i hi => h2 i (by simp [hi]), fun j => ?_⟩
  rw [step_0]
  dsimp only
  by_cases hj : j = E 9 k
  · subst hj
    rw [uQ_at]
    obtain ⟨a1, a2⟩ := h3 (E 9 k)
    refine ⟨?_, fun i hi => ?_⟩
    · rw [List.nodup_cons]
      refine ⟨fun hk => ?_, a1⟩
      have := (a2 k hk).2.1
      simp at this
    · simp at hi
      rcases hi with rfl | hi
      · exact ⟨rfl, h1.1, (h2 i (by simp)).1, (h2 i (by simp)).2⟩
      · obtain ⟨b1, b2, b3, b4⟩ := a2 i hi
        simp at b2
        exact ⟨b1, b2.2, b3, b4⟩
  · rw [uQ_ne _ _ hj]
    obtain ⟨a1, a2⟩ := h3 j
    refine ⟨a1, fun i hi => ?_⟩
    obtain ⟨b1, b2, b3, b4⟩ := a2 i hi
    simp at b2
    exact ⟨b1, b2.2, b3, b4⟩
theorem WF_s {E : aE} {s : aV} {j t : Nat} {es : List (Nat × Nat)} (h : WF E ((j + 1, t) :: es) s) : WF E es (aStep E s (j + 1, t)) := by
  obtain ⟨h1, h2, h3⟩ := h
  rw [arr_s] at h1 h2 h3
  cases hs : s.1 j with
  | nil => rw [step_e E s j t hs]; exact ⟨h1, h2, h3⟩
  | cons i r =>
    rw [step_c E s j t hs]
    refine ⟨h1, h2, fun x => ?_⟩
    dsimp only
    by_cases hx : x = j
    · subst hx
      rw [uQ_at]
      obtain ⟨a1, a2⟩ := h3 x
      rw [hs] at a1 a2
      rw [List.nodup_cons] at a1
      exact ⟨a1.2, fun i hi => a2 i (by simp [hi])⟩
    · rw [uQ_ne _ _ hx]; exact h3 x
theorem fl_0 (E : aE) (X : Nat → Bool) (k : Nat) (es : List (Nat × Nat)) (s : aV) (y : Nat → Nat) : fl E X ((0, k) :: es) s y = fl E X es (aStep E s (0, k)) (xStep E X y (0, k)) := by
  funext x; simp only [fl]
theorem fl_e (E : aE) (X : Nat → Bool) (j t : Nat) (es : List (Nat × Nat)) (s : aV) (y : Nat → Nat) (h : s.1 j = []) : fl E X ((j + 1, t) :: es) s y = fl E X es (aStep E s (j + 1, t)) (xStep E X y (j + 1, t)) := by
  funext x; simp only [fl, h]; simp
theorem fl_c (E : aE) (X : Nat → Bool) (j t : Nat) (es : List (Nat × Nat)) (s : aV) (y : Nat → Nat) {i : Nat} {r : List Nat} (h : s.1 j = i :: r) (x : Nat) : fl E X ((j + 1, t) :: es) s y x = if x = i then decide (0 < y j) else fl E X es (aStep E s (j + 1, t)) (xStep E X y (j + 1, t)) x := by
  simp only [fl, h]; simp
/-- a letter that is neither there nor to come has no tick -/
theorem fl_no {E : aE} {X : Nat → Bool} {x : Nat} : ∀ (es : List (Nat × Nat)) (s : aV) (y : Nat → Nat), x ∉ arr es → (∀ j, x ∉ s.1 j) → fl E X es s y x = false := by
  intro es
  induction es with
  | nil => intro s y _ _; simp [fl]
  | cons e es ih =>
    intro s y h1 h2
    obtain ⟨a, b⟩ := e
    cases a with
    | zero =>
      rw [fl_0]
      rw [arr_0] at h1
      simp at h1
      refine ih _ _ h1.2 (fun j => ?_)
      rw [step_0]
      dsimp only
      by_cases hj : j = E 9 b
      · subst hj; rw [uQ_at]; simp; exact ⟨h1.1, h2 _⟩
      · rw [uQ_ne _ _ hj]; exact h2 j
    | succ j =>
      rw [arr_s] at h1
      cases hs : s.1 j with
      | nil => rw [fl_e _ _ _ _ _ _ _ hs, step_e _ _ _ _ hs]; exact ih _ _ h1 h2
      | cons i r =>
        rw [fl_c _ _ _ _ _ _ _ hs, if_neg (fun z => h2 j (by rw [hs, z]; simp))]
        refine ih _ _ h1 (fun m => ?_)
        rw [step_c _ _ _ _ hs]
        dsimp only
        by_cases hm : m = j
        · subst hm; rw [uQ_at]; intro q; exact h2 m (by rw [hs]; simp [q])
        · rw [uQ_ne _ _ hm]; exact h2 m
theorem uL_at (y : Nat → Nat) (l v : Nat) : uL y l v l = v := by simp [uL]
theorem uL_ne (y : Nat → Nat) {l j : Nat} (v : Nat) (h : j ≠ l) : uL y l v j = y j := by simp [uL, h]
theorem xs_0 (E : aE) (X : Nat → Bool) (y : Nat → Nat) (k : Nat) : xStep E X y (0, k) = if X k = true then uL y (E 9 k) (y (E 9 k) + 1) else y := rfl
theorem xs_s (E : aE) (X : Nat → Bool) (y : Nat → Nat) (j t : Nat) : xStep E X y (j + 1, t) = uL y j (y j - 1) := rfl
/-- X's lines are never longer than those that take all -/
def YL (y : Nat → Nat) (s : aV) : Prop := ∀ j, y j ≤ (s.1 j).length
theorem YL_step {E : aE} {X : Nat → Bool} {y : Nat → Nat} {s : aV} (e : Nat × Nat) (h : YL y s) : YL (xStep E X y e) (aStep E s e) := by
  obtain ⟨a, b⟩ := e
  cases a with
  | zero =>
    intro j
    rw [xs_0, step_0]
    dsimp only
    have := h j
    by_cases hj : j = E 9 b
    · subst hj
      rw [uQ_at]
      split
      · rw [uL_at]; simp; exact this
      · simp; omega
    · rw [uQ_ne _ _ hj]
      split
      · rw [uL_ne _ _ hj]; exact this
      · exact this
  | succ j =>
    intro m
    rw [xs_s]
    have := h m
    cases hs : s.1 j with
    | nil =>
      rw [step_e _ _ _ _ hs]
      by_cases hm : m = j
      · subst hm; rw [uL_at]; omega
      · rw [uL_ne _ _ hm]; exact this
    | cons i r =>
      rw [step_c _ _ _ _ hs]
      dsimp only
      by_cases hm : m = j
      · subst hm; rw [uL_at, uQ_at]; rw [hs] at this; simp at this; omega
      · rw [uL_ne _ _ hm, uQ_ne _ _ hm]; exact this
/-- as many letters stand at X's ticks as X's lines send -/
theorem fl_cnt {E : aE} {X : Nat → Bool} : ∀ (es : List (Nat × Nat)) (s : aV) (y : Nat → Nat), WF E es s → YL y s → cnt (fl E X es s y) (E 0 5) = bz E X es y := by
  intro es
  induction es with
  | nil => intro s y _ _; exact cnt_0.mpr (fun _ _ => by simp [fl])
  | cons e es ih =>
    intro s y hw hy
    obtain ⟨a, b⟩ := e
    cases a with
    | zero =>
      rw [fl_0]
      show _ = bz E X es (xStep E X y (0, b))
      exact ih _ _ (WF_0 hw) (YL_step _ hy)
    | succ j =>
      have hi := ih _ _ (WF_s hw) (YL_step (E := E) (X := X) (j + 1, b) hy)
      show _ = (if 0 < y j then 1 else 0) + bz E X es (xStep E X y (j + 1, b))
      cases hs : s.1 j with
      | nil =>
        have := hy j
        rw [hs] at this
        simp at this
        rw [fl_e _ _ _ _ _ _ _ hs, hi, if_neg (by omega)]
        omega
      | cons i r =>
        obtain ⟨w1, w2, w3⟩ := hw
        rw [arr_s] at w3
        obtain ⟨a1, a2⟩ := w3 j
        obtain ⟨b1, b2, b3, b4⟩ := a2 i (by rw [hs]; simp)
        have hno : fl E X es (aStep E s (j + 1, b)) (xStep E X y (j + 1, b)) i = false := by
          refine fl_no _ _ _ b2 (fun m => ?_)
          rw [step_c _ _ _ _ hs]
          dsimp only
          by_cases hm : m = j
          · subst hm
            rw [uQ_at]
            rw [hs, List.nodup_cons] at a1
            exact a1.1
          · rw [uQ_ne _ _ hm]
            intro q
            exact hm (((w3 m).2 i q).1.symm.trans b1)
        have := cnt_one (p := fl E X ((j + 1, b) :: es) s y) (q := fl E X es (aStep E s (j + 1, b)) (xStep E X y (j + 1, b))) b3 (fun x _ hx => by rw [fl_c _ _ _ _ _ _ _ hs, if_neg hx])
        rw [hno, fl_c _ _ _ _ _ _ _ hs, if_pos rfl] at this
        rw [hi] at this
        by_cases hy0 : 0 < y j
        · simp [hy0] at this ⊢; omega
        · simp [hy0] at this ⊢; omega
/-- no more of the letters that are there stand at X's ticks than X's line is long -/
theorem fl_le {E : aE} {X : Nat → Bool} : ∀ (es : List (Nat × Nat)) (s : aV) (y : Nat → Nat), WF E es s → ∀ (j : Nat) (σ τ : List Nat) (r : Nat), s.1 j = τ ++ σ → y j ≤ r + τ.length → (σ.filter (fl E X es s y)).length ≤ r := by
  intro es
  induction es with
  | nil =>
    intro s y _ j σ τ r _ _
    have : σ.filter (fl E X [] s y) = [] := List.filter_eq_nil_iff.mpr (fun x _ => by simp [fl])
    rw [this]
    simp
  | cons e es ih =>
    intro s y hw j σ τ r hs hy
    obtain ⟨a, b⟩ := e
    cases a with
    | zero =>
      rw [fl_0]
      have hw' := WF_0 hw
      by_cases hj : j = E 9 b
      · refine ih _ _ hw' j σ (b :: τ) r ?_ ?_
        · rw [step_0]; dsimp only; rw [hj, uQ_at, ← hj, hs]; rfl
        · rw [xs_0]
          split
          · rw [hj, uL_at, ← hj]; simp; omega
          · simp; omega
      · refine ih _ _ hw' j σ τ r ?_ ?_
        · rw [step_0]; dsimp only; rw [uQ_ne _ _ hj]; exact hs
        · rw [xs_0]
          split
          · rw [uL_ne _ _ hj]; exact hy
          · exact hy
    | succ m =>
      have hw' := WF_s hw
      obtain ⟨w1, w2, w3⟩ := hw
      by_cases hm : j = m
      · subst hm
        cases τ with
        | nil =>
          cases σ with
          | nil => simp
          | cons i σ =>
            have hs' : s.1 j = i :: σ := by simpa using hs
            have hnd : i ∉ σ := by
              have := (w3 j).1
              rw [hs', List.nodup_cons] at this
              exact this.1
            have hst : (aStep E s (j + 1, b)).1 j = [] ++ σ := by rw [step_c _ _ _ _ hs']; dsimp only; rw [uQ_at]; rfl
            have hfe : σ.filter (fl E X ((j + 1, b) :: es) s y) = σ.filter (fl E X es (aStep E s (j + 1, b)) (xStep E X y (j + 1, b))) := by
              apply List.filter_congr
              intro x hx
              rw [fl_c _ _ _ _ _ _ _ hs', if_neg (by intro z; subst z; exact hnd hx)]
            simp at hy
            by_cases hy0 : 0 < y j
            · have := ih _ (xStep E X y (j + 1, b)) hw' j σ [] (r - 1) hst (by rw [xs_s, uL_at]; simp; omega)
              rw [List.filter_cons, fl_c _ _ _ _ _ _ _ hs', if_pos rfl, hfe]
              simp [hy0]
              omega
            · have := ih _ (xStep E X y (j + 1, b)) hw' j σ [] r hst (by rw [xs_s, uL_at]; simp; omega)
              rw [List.filter_cons, fl_c _ _ _ _ _ _ _ hs', if_pos rfl, hfe]
              simp [hy0]
              omega
        | cons i τ =>
          have hs' : s.1 j = i :: (τ ++ σ) := by simpa using hs
          have hnd : i ∉ σ := by
            have := (w3 j).1
            rw [hs', List.nodup_cons] at this
            intro q
            exact this.1 (by simp [q])
          have hfe : σ.filter (fl E X ((j + 1, b) :: es) s y) = σ.filter (fl E X es (aStep E s (j + 1, b)) (xStep E X y (j + 1, b))) := by
            apply List.filter_congr
            intro x hx
            rw [fl_c _ _ _ _ _ _ _ hs', if_neg (by intro z; subst z; exact hnd hx)]
          rw [hfe]
          refine ih _ _ hw' j σ τ r ?_ ?_
          · rw [step_c _ _ _ _ hs']; dsimp only; rw [uQ_at]
          · rw [xs_s, uL_at]; simp at hy; omega
      · cases hsm : s.1 m with
        | nil =>
          rw [fl_e _ _ _ _ _ _ _ hsm]
          refine ih _ _ hw' j σ τ r ?_ ?_
          · rw [step_e _ _ _ _ hsm]; exact hs
          · rw [xs_s, uL_ne _ _ hm]; exact hy
        | cons i rr =>
          have hnd : i ∉ σ := by
            intro q
            have q1 := ((w3 j).2 i (by rw [hs]; simp [q])).1
            have q2 := ((w3 m).2 i (by rw [hsm]; simp)).1
            exact hm (q1.symm.trans q2)
          have hfe : σ.filter (fl E X ((m + 1, b) :: es) s y) = σ.filter (fl E X es (aStep E s (m + 1, b)) (xStep E X y (m + 1, b))) := by
            apply List.filter_congr
            intro x hx
            rw [fl_c _ _ _ _ _ _ _ hsm, if_neg (by intro z; subst z; exact hnd hx)]
          rw [hfe]
          refine ih _ _ hw' j σ τ r ?_ ?_
          · rw [step_c _ _ _ _ hsm]; dsimp only; rw [uQ_ne _ _ hm]; exact hs
          · rw [xs_s, uL_ne _ _ hm]; exact hy
/-- giving up, whenever too many meet, the stay that ends last -/
def kV (Y : Nat → Bool) (lv : Nat → Nat) (i : Nat) : Nat := if Y i = true then lv i + 1 else 0
def kM (v : Nat → Nat) : Nat → Nat
  | 0 => 0
  | k + 1 => if v (kM v k) < v (k + 1) then k + 1 else kM v k
def kA (Y : Nat → Bool) (k : Nat) : Nat → Bool := fun i => if i = k then true else Y i
def kD (Y : Nat → Bool) (k : Nat) : Nat → Bool := fun i => if i = k then false else Y i
def kO (Y : Nat → Bool) (lv : Nat → Nat) (t k : Nat) : Nat := cnt (fun i => Y i && decide (t ≤ lv i)) k
def kR (tc lv : Nat → Nat) (B : Nat) : Nat → Nat → Bool
  | 0 => fun _ => false
  | k + 1 => if B < kO (kA (kR tc lv B k) k) lv (tc k) (k + 1) then kD (kA (kR tc lv B k) k) (kM (kV (kA (kR tc lv B k) k) lv) k) else kA (kR tc lv B k) k
theorem kM_le (v : Nat → Nat) (k : Nat) : kM v k ≤ k := by
  induction k with
  | zero => exact Nat.le_refl _
  | succ k ih => unfold kM; split <;> omega
theorem kM_max (v : Nat → Nat) (k : Nat) : ∀ i, i ≤ k → v i ≤ v (kM v k) := by
  induction k with
  | zero => intro i hi; have : i = 0 := by omega
            subst this; exact Nat.le_refl _
  | succ k ih =>
    intro i hi
    unfold kM
    by_cases hik : i = k + 1
    · subst hik; split <;> omega
    · have := ih i (by omega)
      split <;> omega
theorem cnt_mono {p q : Nat → Bool} : ∀ {n : Nat}, (∀ k, k < n → p k = true → q k = true) → cnt p n ≤ cnt q n := by
  intro n
  induction n with
  | zero => intro _; exact Nat.le_refl _
  | succ n ih =>
    intro h
    unfold cnt
    have a := ih (fun k hk => h k (by omega))
    have b := h n (by omega)
    by_cases hp : p n = true
    · rw [if_pos hp, if_pos (b hp)]; omega
    · rw [if_neg hp]; omega
theorem cnt_split {p q : Nat → Bool} : ∀ {n : Nat}, cnt p n = cnt (fun i => p i && q i) n + cnt (fun i => p i && !q i) n := by
  intro n
  induction n with
  | zero => rfl
  | succ n ih =>
    unfold cnt
    rw [ih]
    cases hp : p n <;> cases hq : q n <;> simp <;> omega
theorem kR_hi {tc lv : Nat → Nat} {B : Nat} : ∀ k i, k ≤ i → kR tc lv B k i = false := by
  intro k
  induction k with
  | zero => intro i _; rfl
  | succ k ih =>
    intro i hi
    have h0 : kA (kR tc lv B k) k i = false := by unfold kA; rw [if_neg (by omega)]; exact ih i (by omega)
    unfold kR
    split
    · unfold kD; split
      · rfl
      · exact h0
    · exact h0
theorem cnt_succ (p : Nat → Bool) (n : Nat) : cnt p (n + 1) = cnt p n + (if p n = true then 1 else 0) := rfl
theorem kA_cnt {Y : Nat → Bool} {k : Nat} (f : Nat → Bool) : cnt (fun i => kA Y k i && f i) (k + 1) = cnt (fun i => Y i && f i) k + (if f k = true then 1 else 0) := by
  show cnt _ k + _ = _
  rw [cnt_ext (q := fun i => Y i && f i) (fun i hi => by unfold kA; rw [if_neg (by omega)])]
  simp [kA]
/-- where the greatest is one that is kept -/
theorem kM_kept {Y : Nat → Bool} {lv : Nat → Nat} {t k : Nat} (h : 0 < kO Y lv t (k + 1)) : Y (kM (kV Y lv) k) = true ∧ t ≤ lv (kM (kV Y lv) k) ∧ ∀ i, i ≤ k → Y i = true → lv i ≤ lv (kM (kV Y lv) k) := by
  have hex : ∃ i, i ≤ k ∧ Y i = true ∧ t ≤ lv i := by
    apply Classical.byContradiction
    intro hn
    have : kO Y lv t (k + 1) = 0 := cnt_0.mpr (fun i hi => by
      apply Bool.eq_false_iff.mpr
      intro z
      simp at z
      exact hn ⟨i, by omega, z.1, z.2⟩)
    omega
  obtain ⟨i, h1, h2, h3⟩ := hex
  have hm := kM_max (kV Y lv) k
  have hi := hm i h1
  have hv : kV Y lv i = lv i + 1 := if_pos h2
  have hY : Y (kM (kV Y lv) k) = true := by
    cases hc : Y (kM (kV Y lv) k) with
    | true => rfl
    | false =>
      have : kV Y lv (kM (kV Y lv) k) = 0 := if_neg (by rw [hc]; decide)
      omega
  have hv2 : kV Y lv (kM (kV Y lv) k) = lv (kM (kV Y lv) k) + 1 := if_pos hY
  refine ⟨hY, by omega, fun x hx hyx => ?_⟩
  have := hm x hx
  have hv3 : kV Y lv x = lv x + 1 := if_pos hyx
  omega
theorem kD_cnt {Y : Nat → Bool} {m k : Nat} (hm : m < k) (hY : Y m = true) (f : Nat → Bool) : cnt (fun i => kD Y m i && f i) k + (if f m = true then 1 else 0) = cnt (fun i => Y i && f i) k := by
  have := cnt_one (p := fun i => kD Y m i && f i) (q := fun i => Y i && f i) hm (fun i _ him => by simp [kD, him])
  have e1 : (kD Y m m && f m) = false := by simp [kD]
  have e2 : (Y m && f m) = f m := by simp [hY]
  simp only [e1, e2] at this
  rw [this]
  rfl
theorem kR_step {tc lv : Nat → Nat} {B k : Nat} (h : kO (kR tc lv B k) lv (tc k) k ≤ B) : kO (kR tc lv B (k + 1)) lv (tc k) (k + 1) ≤ B := by
  have hadd := kA_cnt (Y := kR tc lv B k) (k := k) (fun i => decide (tc k ≤ lv i))
  have hadd' : kO (kA (kR tc lv B k) k) lv (tc k) (k + 1) ≤ B + 1 := by
    unfold kO at h ⊢
    rw [hadd]
    split <;> omega
  have e : kR tc lv B (k + 1) = if B < kO (kA (kR tc lv B k) k) lv (tc k) (k + 1) then kD (kA (kR tc lv B k) k) (kM (kV (kA (kR tc lv B k) k) lv) k) else kA (kR tc lv B k) k := rfl
  rw [e]
  generalize kA (kR tc lv B k) k = Y at *
  by_cases hb : B < kO Y lv (tc k) (k + 1)
  · rw [if_pos hb]
    have hm := kM_kept (Nat.lt_of_le_of_lt (Nat.zero_le _) hb)
    have hd := kD_cnt (show kM (kV Y lv) k < k + 1 by have := kM_le (kV Y lv) k; omega) hm.1 (fun i => decide (tc k ≤ lv i))
    rw [if_pos (by simp [hm.2.1])] at hd
    unfold kO at *
    omega
  · rw [if_neg hb]; exact Nat.le_of_not_lt hb
/-- no more of the kept stays meet than there is room -/
theorem kR_occ {tc lv : Nat → Nat} {B c : Nat} (hs : ∀ i k, i ≤ k → k < c → tc i ≤ tc k) : ∀ k, k < c → kO (kR tc lv B (k + 1)) lv (tc k) (k + 1) ≤ B := by
  intro k
  induction k with
  | zero => intro hk; exact kR_step (Nat.zero_le _)
  | succ k ih =>
    intro hk
    refine kR_step (Nat.le_trans (cnt_mono (fun i hi h => ?_)) (ih (by omega)))
    simp at h ⊢
    have := hs k (k + 1) (by omega) hk
    exact ⟨h.1, by omega⟩
/-- what is kept later was kept before -/
theorem kR_sub {tc lv : Nat → Nat} {B : Nat} : ∀ m k i, i < k → kR tc lv B (k + m) i = true → kR tc lv B k i = true := by
  intro m
  induction m with
  | zero => intro k i _ h; exact h
  | succ m ih =>
    intro k i hi h
    apply ih k i hi
    have e : k + (m + 1) = (k + m) + 1 := by omega
    rw [e] at h
    unfold kR at h
    have hA : kA (kR tc lv B (k + m)) (k + m) i = true := by
      split at h
      · unfold kD at h
        split at h
        · exact absurd h (by decide)
        · exact h
      · exact h
    unfold kA at hA
    rw [if_neg (by omega)] at hA
    exact hA
theorem kR_ok {tc lv : Nat → Nat} {B c : Nat} (hs : ∀ i k, i ≤ k → k < c → tc i ≤ tc k) {k : Nat} (hk : k < c) : kO (kR tc lv B c) lv (tc k) (k + 1) ≤ B := by
  refine Nat.le_trans (cnt_mono (fun i hi h => ?_)) (kR_occ (lv := lv) hs k hk)
  simp at h ⊢
  have := kR_sub (c - (k + 1)) (k + 1) i hi (by rw [show k + 1 + (c - (k + 1)) = c by omega]; exact h.1)
  exact ⟨this, h.2⟩
theorem nlt_d (a b : Nat) : (!decide (a < b)) = decide (b ≤ a) := by
  rw [← decide_not]
  exact decide_eq_decide.mpr Nat.not_lt
/-- no choice of stays of which no more than B meet is greater -/
theorem kR_best {tc lv : Nat → Nat} {B c : Nat} (hs : ∀ i k, i ≤ k → k < c → tc i ≤ tc k) (Z : Nat → Bool) (hZ : ∀ k, k < c → kO Z lv (tc k) (k + 1) ≤ B) : ∀ k, k ≤ c → ∀ s, (0 < k → tc (k - 1) ≤ s) → cnt (fun i => Z i && decide (lv i < s)) k ≤ cnt (fun i => kR tc lv B k i && decide (lv i < s)) k := by
  intro k
  induction k with
  | zero => intro _ s _; exact Nat.le_refl _
  | succ k ih =>
    intro hk s hs1
    have hs1 : tc k ≤ s := hs1 (by omega)
    have hpre : ∀ s, tc k ≤ s → cnt (fun i => Z i && decide (lv i < s)) (k + 1) ≤ cnt (fun i => kA (kR tc lv B k) k i && decide (lv i < s)) (k + 1) := by
      intro s hs2
      have h1 := ih (by omega) s (fun h0 => Nat.le_trans (hs (k - 1) k (by omega) (by omega)) hs2)
      rw [kA_cnt]
      rw [cnt_succ]
      have : (if (Z k && decide (lv k < s)) = true then 1 else 0) ≤ (if decide (lv k < s) = true then 1 else 0) := by
        cases Z k <;> simp
      omega
    have hnow := hpre s hs1
    show _ ≤ cnt (fun i => (if B < kO (kA (kR tc lv B k) k) lv (tc k) (k + 1) then kD (kA (kR tc lv B k) k) (kM (kV (kA (kR tc lv B k) k) lv) k) else kA (kR tc lv B k) k) i && decide (lv i < s)) (k + 1)
    split
    · next h =>
      have hm := kM_kept (Nat.lt_of_le_of_lt (Nat.zero_le _) h)
      have hml : kM (kV (kA (kR tc lv B k) k) lv) k < k + 1 := by have := kM_le (kV (kA (kR tc lv B k) k) lv) k; omega
      have hd := kD_cnt hml hm.1 (fun i => decide (lv i < s))
      by_cases hls : lv (kM (kV (kA (kR tc lv B k) k) lv) k) < s
      · rw [if_pos (by simp [hls])] at hd
        have hall : cnt (fun i => kA (kR tc lv B k) k i && decide (lv i < s)) (k + 1) = cnt (kA (kR tc lv B k) k) (k + 1) := by
          apply cnt_ext
          intro i hi
          cases hc : kA (kR tc lv B k) k i with
          | false => simp
          | true => have := hm.2.2 i (by omega) hc; simp; omega
        have hsp := cnt_split (p := kA (kR tc lv B k) k) (q := fun i => decide (lv i < tc k)) (n := k + 1)
        have hsz := cnt_split (p := Z) (q := fun i => decide (lv i < tc k)) (n := k + 1)
        have ho : cnt (fun i => kA (kR tc lv B k) k i && !decide (lv i < tc k)) (k + 1) = kO (kA (kR tc lv B k) k) lv (tc k) (k + 1) := by
          apply cnt_ext; intro i _; rw [nlt_d]
        have hoz : cnt (fun i => Z i && !decide (lv i < tc k)) (k + 1) = kO Z lv (tc k) (k + 1) := by
          apply cnt_ext; intro i _; rw [nlt_d]
        have hz := hZ k (by omega)
        have hp := hpre (tc k) (Nat.le_refl _)
        have hzs : cnt (fun i => Z i && decide (lv i < s)) (k + 1) ≤ cnt Z (k + 1) := cnt_mono (fun i _ h => by simp at h; exact h.1)
        omega
      · rw [if_neg (by simp [hls])] at hd
        rw [Nat.add_zero] at hd
        rw [hd]
        exact hnow
    · exact hnow
theorem kR_top {tc lv : Nat → Nat} {B c M : Nat} (hs : ∀ i k, i ≤ k → k < c → tc i ≤ tc k) (hM : ∀ i, i < c → lv i < M ∧ tc i < M) (Z : Nat → Bool) (hZ : ∀ k, k < c → kO Z lv (tc k) (k + 1) ≤ B) : cnt Z c ≤ cnt (kR tc lv B c) c := by
  have := kR_best hs Z hZ c (Nat.le_refl _) M (fun h0 => Nat.le_of_lt (hM (c - 1) (by omega)).2)
  have e1 : cnt (fun i => Z i && decide (lv i < M)) c = cnt Z c := cnt_ext (fun i hi => by simp [(hM i hi).1])
  have e2 : cnt (fun i => kR tc lv B c i && decide (lv i < M)) c = cnt (kR tc lv B c) c := cnt_ext (fun i hi => by simp [(hM i hi).1])
  omega
theorem aRun_app (E : aE) (s : aV) (a b : List (Nat × Nat)) : aRun E s (a ++ b) = aRun E (aRun E s a) b := List.foldl_append
theorem xRun_app (E : aE) (X : Nat → Bool) (y : Nat → Nat) (a b : List (Nat × Nat)) : xRun E X y (a ++ b) = xRun E X (xRun E X y a) b := List.foldl_append
theorem arr_app (a b : List (Nat × Nat)) : arr (a ++ b) = arr a ++ arr b := by simp [arr]
theorem WF_step {E : aE} {s : aV} {e : Nat × Nat} {es : List (Nat × Nat)} (h : WF E (e :: es) s) : WF E es (aStep E s e) := by
  obtain ⟨a, b⟩ := e
  cases a with
  | zero => exact WF_0 h
  | succ j => exact WF_s h
theorem WF_app {E : aE} : ∀ (a : List (Nat × Nat)) {s : aV} {b : List (Nat × Nat)}, WF E (a ++ b) s → WF E b (aRun E s a) := by
  intro a
  induction a with
  | nil => intro s b h; exact h
  | cons e a ih => intro s b h; exact ih (WF_step h)
theorem YL_run {E : aE} {X : Nat → Bool} : ∀ (a : List (Nat × Nat)) {y : Nat → Nat} {s : aV}, YL y s → YL (xRun E X y a) (aRun E s a) := by
  intro a
  induction a with
  | nil => intro y s h; exact h
  | cons e a ih => intro y s h; exact ih (YL_step e h)
/-- where a letter is: in its line, or gone, or to come -/
theorem in_step {E : aE} {s : aV} {e : Nat × Nat} {x : Nat} : x ∈ (aStep E s e).1 (E 9 x) → x ∈ s.1 (E 9 x) ∨ e = (0, x) := by
  obtain ⟨a, b⟩ := e
  cases a with
  | zero =>
    rw [step_0]
    dsimp only
    intro h
    by_cases hj : E 9 x = E 9 b
    · rw [hj, uQ_at] at h
      simp at h
      rcases h with h | h
      · subst h; exact Or.inr rfl
      · left; rw [hj]; exact h
    · rw [uQ_ne _ _ hj] at h; exact Or.inl h
  | succ j =>
    intro h
    left
    cases hs : s.1 j with
    | nil => rw [step_e _ _ _ _ hs] at h; exact h
    | cons i r =>
      rw [step_c _ _ _ _ hs] at h
      dsimp only at h
      by_cases hj : E 9 x = j
      · rw [hj, uQ_at] at h; rw [hj, hs]; simp [h]
      · rw [uQ_ne _ _ hj] at h; exact h
theorem gone {E : aE} {x : Nat} : ∀ (es : List (Nat × Nat)) (s : aV), x ∉ s.1 (E 9 x) → x ∉ arr es → x ∉ (aRun E s es).1 (E 9 x) := by
  intro es
  induction es with
  | nil => intro s h _; exact h
  | cons e es ih =>
    intro s h1 h2
    have h3 : x ∉ arr es := by
      intro q
      apply h2
      obtain ⟨a, b⟩ := e
      cases a with
      | zero => rw [arr_0]; simp [q]
      | succ j => rw [arr_s]; exact q
    refine ih _ (fun q => ?_) h3
    rcases in_step q with q | q
    · exact h1 q
    · subst q
      rw [arr_0] at h2
      simp at h2
theorem lv_keep {E : aE} {x : Nat} : ∀ (es : List (Nat × Nat)) (s : aV), WF E es s → x ∉ s.1 (E 9 x) → x ∉ arr es → (aRun E s es).2 x = s.2 x := by
  intro es
  induction es with
  | nil => intro s _ _ _; rfl
  | cons e es ih =>
    intro s hw h1 h2
    have h3 : x ∉ arr es := by
      intro q
      apply h2
      obtain ⟨a, b⟩ := e
      cases a with
      | zero => rw [arr_0]; simp [q]
      | succ j => rw [arr_s]; exact q
    show (aRun E (aStep E s e) es).2 x = _
    rw [ih _ (WF_step hw) (fun q => ?_) h3]
    · obtain ⟨a, b⟩ := e
      cases a with
      | zero => rfl
      | succ j =>
        cases hs : s.1 j with
        | nil => rw [step_e _ _ _ _ hs]
        | cons i r =>
          rw [step_c _ _ _ _ hs]
          dsimp only
          rw [if_neg]
          intro z
          subst z
          have := ((hw.2.2 j).2 x (by rw [hs]; simp)).1
          apply h1
          rw [this, hs]
          simp
    · rcases in_step q with q | q
      · exact h1 q
      · subst q
        rw [arr_0] at h2
        simp at h2
/-- a letter that went, went at a tick at which its line may send -/
theorem lv_mem {E : aE} {x : Nat} : ∀ (es : List (Nat × Nat)) (s : aV), WF E es s → (x ∈ s.1 (E 9 x) ∨ x ∈ arr es) → x ∉ (aRun E s es).1 (E 9 x) → ∃ m t, (m + 1, t) ∈ es ∧ (aRun E s es).2 x = t := by
  intro es
  induction es with
  | nil => intro s _ h1 h2; exact absurd (h1.resolve_right (by simp [arr])) h2
  | cons e es ih =>
    intro s hw h1 h2
    have hrun : aRun E s (e :: es) = aRun E (aStep E s e) es := rfl
    rw [hrun] at h2 ⊢
    by_cases h3 : x ∈ (aStep E s e).1 (E 9 x) ∨ x ∈ arr es
    · obtain ⟨m, t, q1, q2⟩ := ih _ (WF_step hw) h3 h2
      exact ⟨m, t, by simp [q1], q2⟩
    · have h4 : x ∉ (aStep E s e).1 (E 9 x) := fun q => h3 (Or.inl q)
      have h5 : x ∉ arr es := fun q => h3 (Or.inr q)
      obtain ⟨a, b⟩ := e
      cases a with
      | zero =>
        exfalso
        rw [arr_0] at h1
        rw [step_0] at h4
        dsimp only at h4
        rcases h1 with h1 | h1
        · by_cases hj : E 9 x = E 9 b
          · rw [hj, uQ_at] at h4; rw [hj] at h1; simp at h4; exact h4.2 h1
          · rw [uQ_ne _ _ hj] at h4; exact h4 h1
        · simp at h1
          rcases h1 with h1 | h1
          · subst h1; rw [uQ_at] at h4; simp at h4
          · exact h5 h1
      | succ j =>
        rw [arr_s] at h1
        have h1' := h1.resolve_right h5
        cases hs : s.1 j with
        | nil => rw [step_e _ _ _ _ hs] at h4; exact absurd h1' h4
        | cons i r =>
          have hx : x = i := by
            apply Classical.byContradiction
            intro hne
            apply h4
            rw [step_c _ _ _ _ hs]
            dsimp only
            by_cases hj : E 9 x = j
            · rw [hj, uQ_at]; rw [hj, hs] at h1'; simpa [hne] using h1'
            · rw [uQ_ne _ _ hj]; exact h1'
          refine ⟨j, b, by simp, ?_⟩
          rw [lv_keep es _ (WF_s hw) h4 h5, step_c _ _ _ _ hs]
          simp [hx]
/-- what stands behind a while of letters that are still there -/
theorem fl_app {E : aE} {X : Nat → Bool} {x : Nat} : ∀ (a b : List (Nat × Nat)) (s : aV) (y : Nat → Nat), WF E (a ++ b) s → x ∈ (aRun E s a).1 (E 9 x) → fl E X (a ++ b) s y x = fl E X b (aRun E s a) (xRun E X y a) x := by
  intro a
  induction a with
  | nil => intro b s y _ _; rfl
  | cons e a ih =>
    intro b s y hw hx
    have hi := ih b (aStep E s e) (xStep E X y e) (WF_step hw) hx
    show fl E X (e :: (a ++ b)) s y x = _
    obtain ⟨m, t⟩ := e
    cases m with
    | zero => rw [fl_0]; exact hi
    | succ j =>
      cases hs : s.1 j with
      | nil => rw [fl_e _ _ _ _ _ _ _ hs]; exact hi
      | cons i r =>
        rw [fl_c _ _ _ _ _ _ _ hs, if_neg]
        · exact hi
        · intro z
          subst z
          have hw' : WF E ((j + 1, t) :: (a ++ b)) s := hw
          obtain ⟨q1, q2, q3, q4⟩ := (hw'.2.2 j).2 x (by rw [hs]; simp)
          rw [arr_s, arr_app] at q2
          refine gone a (aStep E s (j + 1, t)) ?_ (fun q => q2 (by simp [q])) hx
          rw [step_c _ _ _ _ hs]
          dsimp only
          rw [q1, uQ_at]
          have := (hw'.2.2 j).1
          rw [hs, List.nodup_cons] at this
          exact this.1
theorem len_cnt {c : Nat} : ∀ (L : List Nat), L.Nodup → (∀ i, i ∈ L → i < c) → L.length = cnt (fun i => decide (i ∈ L)) c := by
  intro L
  induction L with
  | nil => intro _ _; exact (cnt_0.mpr (fun k _ => by simp)).symm
  | cons a L ih =>
    intro h1 h2
    rw [List.nodup_cons] at h1
    have := ih h1.2 (fun i hi => h2 i (by simp [hi]))
    have q := cnt_one (p := fun i => decide (i ∈ a :: L)) (q := fun i => decide (i ∈ L)) (h2 a (by simp)) (fun i _ hia => by simp [hia])
    have e1 : decide (a ∈ L) = false := by simp [h1.1]
    have e2 : decide (a ∈ a :: L) = true := by simp
    simp only [e1, e2] at q
    simp only [List.length_cons, this]
    have z1 : (if (false = true) then 1 else 0) = 0 := rfl
    rw [z1, if_pos trivial] at q
    omega
theorem cnt_add4 {a b c d q : Nat → Bool} : ∀ {n : Nat}, (∀ i, i < n → (if a i = true then 1 else 0) + (if b i = true then 1 else 0) + (if c i = true then 1 else 0) + (if d i = true then 1 else 0) = (if q i = true then 1 else 0)) → cnt a n + cnt b n + cnt c n + cnt d n = cnt q n := by
  intro n
  induction n with
  | zero => intro _; rfl
  | succ n ih =>
    intro h
    have h1 := ih (fun i hi => h i (by omega))
    have h2 := h n (by omega)
    rw [cnt_succ, cnt_succ, cnt_succ, cnt_succ, cnt_succ]
    omega
/-- how many of Z are there -/
def occ (Z : Nat → Bool) (s : aV) : Nat := ((s.1 0).filter Z).length + ((s.1 1).filter Z).length + ((s.1 2).filter Z).length + ((s.1 3).filter Z).length
theorem occ_cnt {E : aE} {Z : Nat → Bool} {s : aV} {es : List (Nat × Nat)} (hw : WF E es s) (h4 : ∀ i, i < E 0 5 → E 9 i < 4) : occ Z s = cnt (fun i => Z i && decide (i ∈ s.1 (E 9 i))) (E 0 5) := by
  have hl : ∀ j, ((s.1 j).filter Z).length = cnt (fun i => decide (i ∈ (s.1 j).filter Z)) (E 0 5) := fun j => len_cnt _ ((hw.2.2 j).1.filter _) (fun i hi => ((hw.2.2 j).2 i (List.mem_filter.mp hi).1).2.2.1)
  unfold occ
  rw [hl 0, hl 1, hl 2, hl 3]
  apply cnt_add4
  intro i hi
  have hln := h4 i hi
  have hz : ∀ j, j ≠ E 9 i → decide (i ∈ (s.1 j).filter Z) = false := by
    intro j hj
    apply decide_eq_false
    intro q
    exact hj ((hw.2.2 j).2 i (List.mem_filter.mp q).1).1.symm
  have hy : decide (i ∈ (s.1 (E 9 i)).filter Z) = (Z i && decide (i ∈ s.1 (E 9 i))) := by
    by_cases h1 : i ∈ s.1 (E 9 i) <;> by_cases h2 : Z i = true <;> simp [h1, h2]
  rw [← hy]
  generalize E 9 i = l at *
  rcases (show l = 0 ∨ l = 1 ∨ l = 2 ∨ l = 3 by omega) with rfl | rfl | rfl | rfl
  · rw [hz 1 (by decide), hz 2 (by decide), hz 3 (by decide)]; simp
  · rw [hz 0 (by decide), hz 2 (by decide), hz 3 (by decide)]; simp
  · rw [hz 0 (by decide), hz 1 (by decide), hz 3 (by decide)]; simp
  · rw [hz 0 (by decide), hz 1 (by decide), hz 2 (by decide)]; simp
def tot4 (y : Nat → Nat) : Nat := y 0 + y 1 + y 2 + y 3
theorem tot4_uL (y : Nat → Nat) {l : Nat} (v : Nat) (hl : l < 4) : tot4 (uL y l v) + y l = tot4 y + v := by
  rcases (show l = 0 ∨ l = 1 ∨ l = 2 ∨ l = 3 by omega) with rfl | rfl | rfl | rfl <;> simp [tot4, uL] <;> omega
/-- what comes, goes -/
theorem bz_sum {E : aE} {X : Nat → Bool} (h4 : ∀ i, i < E 0 5 → E 9 i < 4) : ∀ (es : List (Nat × Nat)) (y : Nat → Nat), (∀ e, e ∈ es → e.1 ≤ 4) → (∀ k, k ∈ arr es → k < E 0 5) → bz E X es y + tot4 (xRun E X y es) = tot4 y + ((arr es).filter X).length := by
  intro es
  induction es with
  | nil => intro y _ _; simp [bz, xRun, arr]
  | cons e es ih =>
    intro y h1 h2
    have hrun : xRun E X y (e :: es) = xRun E X (xStep E X y e) es := rfl
    rw [hrun]
    obtain ⟨a, b⟩ := e
    cases a with
    | zero =>
      have hi := ih (xStep E X y (0, b)) (fun e he => h1 e (by simp [he])) (fun k hk => h2 k (by rw [arr_0]; simp [hk]))
      have hl := h4 b (h2 b (by rw [arr_0]; simp))
      show bz E X es (xStep E X y (0, b)) + _ = _
      rw [hi, arr_0, xs_0, List.filter_cons]
      by_cases hX : X b = true
      · rw [if_pos hX, if_pos hX]
        have := tot4_uL y (y (E 9 b) + 1) hl
        simp
        omega
      · rw [if_neg hX, if_neg hX]
    | succ j =>
      have hi := ih (xStep E X y (j + 1, b)) (fun e he => h1 e (by simp [he])) (fun k hk => h2 k (by rw [arr_s]; exact hk))
      have hj : j + 1 ≤ 4 := h1 (j + 1, b) (by simp)
      show (if 0 < y j then 1 else 0) + bz E X es (xStep E X y (j + 1, b)) + _ = _
      rw [arr_s]
      have := tot4_uL y (y j - 1) (show j < 4 by omega)
      rw [xs_s] at hi ⊢
      split <;> omega
/-- Y's own lines are no longer than what of Y is there -/
theorem dom_step {E : aE} {Y : Nat → Bool} {y : Nat → Nat} {s : aV} (e : Nat × Nat) (h : ∀ j, y j ≤ ((s.1 j).filter Y).length) : ∀ j, xStep E Y y e j ≤ (((aStep E s e).1 j).filter Y).length := by
  obtain ⟨a, b⟩ := e
  cases a with
  | zero =>
    intro j
    rw [xs_0, step_0]
    dsimp only
    have := h j
    by_cases hj : j = E 9 b
    · subst hj
      rw [uQ_at, List.filter_cons]
      by_cases hX : Y b = true
      · rw [if_pos hX, if_pos hX, uL_at]; simp; exact this
      · rw [if_neg hX, if_neg hX]; exact this
    · rw [uQ_ne _ _ hj]
      split
      · rw [uL_ne _ _ hj]; exact this
      · exact this
  | succ m =>
    intro j
    rw [xs_s]
    have := h j
    cases hs : s.1 m with
    | nil =>
      rw [step_e _ _ _ _ hs]
      by_cases hm : j = m
      · subst hm; rw [uL_at]; omega
      · rw [uL_ne _ _ hm]; exact this
    | cons i r =>
      rw [step_c _ _ _ _ hs]
      dsimp only
      by_cases hm : j = m
      · subst hm
        rw [uL_at, uQ_at]
        rw [hs, List.filter_cons] at this
        split at this
        · simp at this; omega
        · omega
      · rw [uL_ne _ _ hm, uQ_ne _ _ hm]; exact this
theorem dom_run {E : aE} {Y : Nat → Bool} : ∀ (a : List (Nat × Nat)) {y : Nat → Nat} {s : aV}, (∀ j, y j ≤ ((s.1 j).filter Y).length) → ∀ j, xRun E Y y a j ≤ (((aRun E s a).1 j).filter Y).length := by
  intro a
  induction a with
  | nil => intro y s h; exact h
  | cons e a ih => intro y s h; exact ih (dom_step e h)
/-- the letters ahead of a tick -/
def pT (E : aE) (t : Nat) : Nat := cnt (fun k => decide (E 8 k < t)) (E 0 5)
def svT (E : aE) (t : Nat) : Nat → List (Nat × Nat)
  | 0 => []
  | j + 1 => svT E t j ++ (if (t + 1) % E 3 j = 0 then [(j + 1, t)] else [])
def arv (a m : Nat) : List (Nat × Nat) := (List.range' a m).map (fun k => (0, k))
def evT (E : aE) (t : Nat) : List (Nat × Nat) := arv (pT E t) (pT E (t + 1) - pT E t) ++ svT E t (E 0 0)
def evs (E : aE) : Nat → Nat → List (Nat × Nat)
  | _, 0 => []
  | a, m + 1 => evT E a ++ evs E (a + 1) m
def pre (E : aE) (k : Nat) : List (Nat × Nat) := evs E 0 (E 8 k) ++ arv (pT E (E 8 k)) (k + 1 - pT E (E 8 k))
theorem cnt_down {p : Nat → Bool} : ∀ {c : Nat}, (∀ i k, i ≤ k → k < c → p k = true → p i = true) → ∀ k, k < c → (k < cnt p c ↔ p k = true) := by
  intro c
  induction c with
  | zero => intro _ k hk; omega
  | succ c ih =>
    intro h k hk
    have ih' := ih (fun i k a b d => h i k a (by omega) d)
    rw [cnt_succ]
    by_cases hp : p c = true
    · rw [if_pos hp]
      have hall : cnt p c = c := by
        apply Nat.le_antisymm (cnt_le _ _)
        cases c with
        | zero => exact Nat.zero_le _
        | succ c =>
          have := (ih' c (by omega)).mpr (h c (c + 1) (by omega) (by omega) hp)
          omega
      exact ⟨fun _ => h k c (by omega) (by omega) hp, fun _ => by omega⟩
    · rw [if_neg hp, Nat.add_zero]
      by_cases hkc : k = c
      · subst hkc
        have := cnt_le p k
        exact ⟨fun q => by omega, fun q => absurd q hp⟩
      · exact ih' k (by omega)
theorem pT_iff {E : aE} (hE : EI E) {k : Nat} (hk : k < E 0 5) (t : Nat) : k < pT E t ↔ E 8 k < t := by
  unfold pT
  rw [cnt_down (fun i k a b d => ?_) k hk]
  · simp
  · simp at d ⊢
    have := hE.2.2.2.2.2.1 i k a b
    omega
theorem pT_le (E : aE) (t : Nat) : pT E t ≤ E 0 5 := cnt_le _ _
theorem pT_mono (E : aE) {a b : Nat} (h : a ≤ b) : pT E a ≤ pT E b := cnt_mono (fun k _ q => by simp at q ⊢; omega)
theorem arr_arv (a m : Nat) : arr (arv a m) = List.range' a m := by
  unfold arr arv
  rw [List.filter_eq_self.mpr (fun e he => by simp at he; obtain ⟨x, _, rfl⟩ := he; rfl), List.map_map]
  exact List.map_id _
theorem sv_mem {E : aE} {t : Nat} : ∀ m e, e ∈ svT E t m → ∃ j, j < m ∧ e = (j + 1, t) ∧ (t + 1) % E 3 j = 0 := by
  intro m
  induction m with
  | zero => intro e he; simp [svT] at he
  | succ m ih =>
    intro e he
    unfold svT at he
    rw [List.mem_append] at he
    rcases he with he | he
    · obtain ⟨j, h1, h2⟩ := ih e he
      exact ⟨j, by omega, h2⟩
    · split at he
      · next h => simp at he; exact ⟨m, by omega, he, h⟩
      · simp at he
theorem arr_sv (E : aE) (t m : Nat) : arr (svT E t m) = [] := by
  unfold arr
  rw [List.filter_eq_nil_iff.mpr, List.map_nil]
  intro e he
  obtain ⟨j, -, rfl, -⟩ := sv_mem m e he
  simp
theorem evs_add (E : aE) : ∀ m a n, evs E a (m + n) = evs E a m ++ evs E (a + m) n := by
  intro m
  induction m with
  | zero => intro a n; rw [Nat.zero_add]; rfl
  | succ m ih =>
    intro a n
    rw [show m + 1 + n = (m + n) + 1 by omega]
    show evT E a ++ evs E (a + 1) (m + n) = (evT E a ++ evs E (a + 1) m) ++ _
    rw [ih (a + 1) n, List.append_assoc, show a + 1 + m = a + (m + 1) by omega]
theorem arr_evs {E : aE} : ∀ m a, arr (evs E a m) = List.range' (pT E a) (pT E (a + m) - pT E a) := by
  intro m
  induction m with
  | zero => intro a; simp [evs, arr]
  | succ m ih =>
    intro a
    have h1 := pT_mono E (show a ≤ a + 1 by omega)
    have h2 := pT_mono E (show a + 1 ≤ a + (m + 1) by omega)
    show arr ((arv _ _ ++ svT E a _) ++ evs E (a + 1) m) = _
    rw [arr_app, arr_app, arr_arv, arr_sv, ih (a + 1), List.append_nil, show a + 1 + m = a + (m + 1) by omega]
    rw [show pT E (a + (m + 1)) - pT E a = (pT E (a + 1) - pT E a) + (pT E (a + (m + 1)) - pT E (a + 1)) by omega, ← List.range'_append_1, show pT E a + (pT E (a + 1) - pT E a) = pT E (a + 1) by omega]
theorem pT_0 (E : aE) : pT E 0 = 0 := cnt_0.mpr (fun k _ => by simp)
theorem pT_40 {E : aE} (hE : EI E) {t : Nat} (ht : 40 ≤ t) : pT E t = E 0 5 := by
  have h : ∀ n, n ≤ E 0 5 → cnt (fun k => decide (E 8 k < t)) n = n := by
    intro n
    induction n with
    | zero => intro _; rfl
    | succ n ih =>
      intro hn
      rw [cnt_succ, ih (by omega), if_pos]
      have := (hE.2.2.2.2.1 n (by omega)).2
      simp
      omega
  exact h _ (Nat.le_refl _)
theorem sv_tick {E : aE} {a m : Nat} {j t : Nat} (h : (j + 1, t) ∈ evs E a m) : a ≤ t ∧ t < a + m ∧ j < E 0 0 := by
  induction m generalizing a with
  | zero => simp [evs] at h
  | succ m ih =>
    unfold evs evT at h
    rw [List.mem_append, List.mem_append] at h
    rcases h with (h | h) | h
    · unfold arv at h
      rw [List.mem_map] at h
      obtain ⟨x, -, hx⟩ := h
      have := congrArg Prod.fst hx
      simp at this
    · obtain ⟨i, h1, h2, -⟩ := sv_mem _ _ h
      have e1 := congrArg Prod.fst h2
      have e2 := congrArg Prod.snd h2
      simp at e1 e2
      omega
    · have := ih h
      omega
def sZ : aV := (fun _ => [], fun _ => 0)
def yZ : Nat → Nat := fun _ => 0
theorem WF_evs {E : aE} (hE : EI E) (M : Nat) : WF E (evs E 0 M) sZ := by
  have hn4 := hE.2.1
  rw [show WF E (evs E 0 M) sZ ↔ _ from Iff.rfl]
  unfold WF
  rw [arr_evs, pT_0, Nat.zero_add, Nat.sub_zero]
  refine ⟨List.nodup_range', fun k hk => ?_, fun j => ⟨by simp [sZ], fun i hi => by simp [sZ] at hi⟩⟩
  rw [List.mem_range'_1] at hk
  have := pT_le E M
  have := hE.2.2.2.2.1 k (by omega)
  omega
/-- the events, cut behind a letter's coming -/
theorem pre_split {E : aE} (hE : EI E) {k M : Nat} (hk : k < E 0 5) (hM : E 8 k < M) : ∃ suf, evs E 0 M = pre E k ++ suf ∧ (∀ j t, (j + 1, t) ∈ suf → E 8 k ≤ t) ∧ (∀ j t, (j + 1, t) ∈ pre E k → t < E 8 k) ∧ arr (pre E k) = List.range' 0 (k + 1) := by
  have h1 : pT E (E 8 k) ≤ k := Nat.le_of_not_lt (fun q => by have := (pT_iff hE hk _).mp q; omega)
  have h2 : k + 1 ≤ pT E (E 8 k + 1) := (pT_iff hE hk _).mpr (by omega)
  refine ⟨arv (k + 1) (pT E (E 8 k + 1) - (k + 1)) ++ svT E (E 8 k) (E 0 0) ++ evs E (E 8 k + 1) (M - E 8 k - 1), ?_, ?_, ?_, ?_⟩
  · have e1 := evs_add E (E 8 k) 0 (M - E 8 k)
    rw [show E 8 k + (M - E 8 k) = M by omega, Nat.zero_add] at e1
    have e2 : evs E (E 8 k) (M - E 8 k) = evT E (E 8 k) ++ evs E (E 8 k + 1) (M - E 8 k - 1) := by
      rw [show M - E 8 k = (M - E 8 k - 1) + 1 by omega]
      rfl
    have e3 : arv (pT E (E 8 k)) (pT E (E 8 k + 1) - pT E (E 8 k)) = arv (pT E (E 8 k)) (k + 1 - pT E (E 8 k)) ++ arv (k + 1) (pT E (E 8 k + 1) - (k + 1)) := by
      unfold arv
      rw [← List.map_append]
      congr 1
      rw [show pT E (E 8 k + 1) - pT E (E 8 k) = (k + 1 - pT E (E 8 k)) + (pT E (E 8 k + 1) - (k + 1)) by omega, ← List.range'_append_1, show pT E (E 8 k) + (k + 1 - pT E (E 8 k)) = k + 1 by omega]
    rw [e1, e2]
    unfold pre evT
    rw [e3]
    simp only [List.append_assoc]
  · intro j t h
    rw [List.mem_append, List.mem_append] at h
    rcases h with (h | h) | h
    · unfold arv at h
      rw [List.mem_map] at h
      obtain ⟨x, -, hx⟩ := h
      have := congrArg Prod.fst hx
      simp at this
    · obtain ⟨i, -, q, -⟩ := sv_mem _ _ h
      have := congrArg Prod.snd q
      simp at this
      omega
    · have := sv_tick h
      omega
  · intro j t h
    unfold pre at h
    rw [List.mem_append] at h
    rcases h with h | h
    · have := sv_tick h
      omega
    · unfold arv at h
      rw [List.mem_map] at h
      obtain ⟨x, -, hx⟩ := h
      have := congrArg Prod.fst hx
      simp at this
  · unfold pre
    rw [arr_app, arr_evs, arr_arv, pT_0, Nat.sub_zero, Nat.zero_add]
    have := @List.range'_append_1 0 (pT E (E 8 k)) (k + 1 - pT E (E 8 k))
    rw [Nat.zero_add] at this
    rw [this]
    congr 1
    omega
theorem cnt_cut {p : Nat → Bool} {a c : Nat} (hac : a ≤ c) (h : ∀ i, a ≤ i → i < c → p i = false) : cnt p c = cnt p a := by
  obtain ⟨d, rfl⟩ : ∃ d, c = a + d := ⟨c - a, by omega⟩
  clear hac
  induction d with
  | zero => rfl
  | succ d ih =>
    rw [← Nat.add_assoc, cnt_succ, ih (fun i h1 h2 => h i h1 (by omega)), h (a + d) (by omega) (by omega)]
    rfl
theorem filter_cnt (X : Nat → Bool) : ∀ n, ((List.range' 0 n).filter X).length = cnt X n := by
  intro n
  induction n with
  | zero => rfl
  | succ n ih =>
    rw [List.range'_concat, List.filter_append, List.length_append, ih, cnt_succ]
    congr 1
    rw [Nat.zero_add, Nat.one_mul]
    by_cases h : X n = true <;> simp [h]
/-- who is there when a letter has come -/
theorem present {E : aE} (hE : EI E) {M : Nat} (hM : 40 ≤ M) (hfin : ∀ j, (aRun E sZ (evs E 0 M)).1 j = []) {k : Nat} (hk : k < E 0 5) {i : Nat} (_hi : i < E 0 5) : i ∈ (aRun E sZ (pre E k)).1 (E 9 i) ↔ i ≤ k ∧ E 8 k ≤ (aRun E sZ (evs E 0 M)).2 i := by
  have h40 := (hE.2.2.2.2.1 k hk).2
  obtain ⟨suf, e1, e2, e3, e4⟩ := pre_split hE hk (show E 8 k < M by omega)
  have hw := WF_evs hE M
  have hwp : WF E (pre E k ++ suf) sZ := by rw [← e1]; exact hw
  have hws : WF E suf (aRun E sZ (pre E k)) := WF_app _ hwp
  have hwpre : WF E (pre E k) sZ := by
    refine ⟨by rw [e4]; exact List.nodup_range', fun x hx => hwp.2.1 x (by rw [arr_app]; simp [hx]), fun j => ⟨by simp [sZ], fun i hi => by simp [sZ] at hi⟩⟩
  have hrun : aRun E sZ (evs E 0 M) = aRun E (aRun E sZ (pre E k)) suf := by rw [e1, aRun_app]
  have hno : i ∉ sZ.1 (E 9 i) := by simp [sZ]
  constructor
  · intro h
    have hik : i ≤ k := by
      apply Classical.byContradiction
      intro q
      exact gone _ _ hno (by rw [e4, List.mem_range'_1]; omega) h
    refine ⟨hik, ?_⟩
    obtain ⟨m, t, q1, q2⟩ := lv_mem suf _ hws (Or.inl h) (by rw [← hrun, hfin]; simp)
    rw [hrun, q2]
    exact e2 m t q1
  · rintro ⟨h1, h2⟩
    apply Classical.byContradiction
    intro h3
    obtain ⟨m, t, q1, q2⟩ := lv_mem (pre E k) _ hwpre (Or.inr (by rw [e4, List.mem_range'_1]; omega)) h3
    have hnot : i ∉ arr suf := by
      have := hwp.1
      rw [arr_app, List.nodup_append] at this
      intro q
      exact this.2.2 i (by rw [e4, List.mem_range'_1]; omega) i q rfl
    rw [hrun, lv_keep suf _ hws h3 hnot, q2] at h2
    have := e3 m t q1
    omega
theorem occ_kO {E : aE} (hE : EI E) {M : Nat} (hM : 40 ≤ M) (hfin : ∀ j, (aRun E sZ (evs E 0 M)).1 j = []) {k : Nat} (hk : k < E 0 5) (Z : Nat → Bool) : occ Z (aRun E sZ (pre E k)) = kO Z (aRun E sZ (evs E 0 M)).2 (E 8 k) (k + 1) := by
  have h40 := (hE.2.2.2.2.1 k hk).2
  obtain ⟨suf, e1, e2, e3, e4⟩ := pre_split hE hk (show E 8 k < M by omega)
  have hwp : WF E (pre E k ++ suf) sZ := by rw [← e1]; exact WF_evs hE M
  have h4 : ∀ i, i < E 0 5 → E 9 i < 4 := fun i hi => by have := hE.2.2.2.2.1 i hi; have := hE.2.1; omega
  rw [occ_cnt (WF_app _ hwp) h4]
  have := cnt_cut (p := fun i => Z i && decide (i ∈ (aRun E sZ (pre E k)).1 (E 9 i))) (a := k + 1) (c := E 0 5) (by omega) (fun i h1 h2 => by
    rw [decide_eq_false (fun q => by have := (present hE hM hfin hk h2).mp q; omega)]
    simp)
  rw [this]
  unfold kO
  apply cnt_ext
  intro i hi
  congr 1
  apply decide_eq_decide.mpr
  rw [present hE hM hfin hk (by omega)]
  exact ⟨fun q => q.2, fun q => ⟨by omega, q⟩⟩
/-- no choice that the room allows takes more -/
theorem best_le {E : aE} (hE : EI E) {M : Nat} (hM : 40 ≤ M) (hfin : ∀ j, (aRun E sZ (evs E 0 M)).1 j = []) (X : Nat → Bool) (hX : ∀ k, k < E 0 5 → tot4 (xRun E X yZ (pre E k)) ≤ E 0 1) : cnt X (E 0 5) ≤ cnt (kR (E 8) (aRun E sZ (evs E 0 M)).2 (E 0 1) (E 0 5)) (E 0 5) := by
  have hn4 := hE.2.1
  have h4 : ∀ i, i < E 0 5 → E 9 i < 4 := fun i hi => by have := hE.2.2.2.2.1 i hi; omega
  have hw := WF_evs hE M
  have hy0 : YL yZ sZ := fun j => Nat.zero_le _
  have hc := fl_cnt (X := X) _ _ _ hw hy0
  have hb := bz_sum (X := X) h4 (evs E 0 M) yZ (fun e he => by
    obtain ⟨a, b⟩ := e
    cases a with
    | zero => exact Nat.zero_le _
    | succ j => have := (sv_tick he).2.2; show j + 1 ≤ 4; omega) (fun k hk => (hw.2.1 k hk).1)
  have hyf := YL_run (E := E) (X := X) (evs E 0 M) hy0
  have hz : ∀ j, xRun E X yZ (evs E 0 M) j = 0 := fun j => by have := hyf j; rw [hfin] at this; simpa using this
  have ht : tot4 (xRun E X yZ (evs E 0 M)) = 0 := by unfold tot4; rw [hz, hz, hz, hz]
  rw [arr_evs, pT_0, Nat.zero_add, Nat.sub_zero, pT_40 hE hM, filter_cnt, ht, show tot4 yZ = 0 from rfl] at hb
  have hlv : ∀ i, i < E 0 5 → (aRun E sZ (evs E 0 M)).2 i < M := by
    intro i hi
    obtain ⟨m, t, q1, q2⟩ := lv_mem (x := i) (evs E 0 M) sZ hw (Or.inr (by rw [arr_evs, pT_0, Nat.zero_add, Nat.sub_zero, pT_40 hE hM, List.mem_range'_1]; omega)) (by rw [hfin]; simp)
    rw [q2]
    have := (sv_tick q1).2.1
    omega
  have := kR_top (tc := E 8) (lv := (aRun E sZ (evs E 0 M)).2) (B := E 0 1) (c := E 0 5) (M := M) (fun i k a b => hE.2.2.2.2.2.1 i k a b) (fun i hi => ⟨hlv i hi, by have := (hE.2.2.2.2.1 i hi).2; omega⟩) (fl E X (evs E 0 M) sZ yZ) (fun k hk => ?_)
  · omega
  · rw [← occ_kO hE hM hfin hk]
    have h40 := (hE.2.2.2.2.1 k hk).2
    obtain ⟨suf, e1, e2, e3, e4⟩ := pre_split hE hk (show E 8 k < M by omega)
    have hwp : WF E (pre E k ++ suf) sZ := by rw [← e1]; exact hw
    have hws : WF E suf (aRun E sZ (pre E k)) := WF_app _ hwp
    refine Nat.le_trans ?_ (hX k hk)
    have hj : ∀ j, (((aRun E sZ (pre E k)).1 j).filter (fl E X (evs E 0 M) sZ yZ)).length ≤ xRun E X yZ (pre E k) j := by
      intro j
      have hfe : ((aRun E sZ (pre E k)).1 j).filter (fl E X (evs E 0 M) sZ yZ) = ((aRun E sZ (pre E k)).1 j).filter (fl E X suf (aRun E sZ (pre E k)) (xRun E X yZ (pre E k))) := by
        apply List.filter_congr
        intro x hx
        rw [e1]
        refine fl_app _ _ _ _ hwp ?_
        rw [((hws.2.2 j).2 x hx).1]
        exact hx
      rw [hfe]
      exact fl_le suf _ _ hws j _ [] _ rfl (by simp)
    unfold occ tot4
    have := hj 0; have := hj 1; have := hj 2; have := hj 3
    omega
/-- what is kept is a choice that the room allows -/
theorem best_ge {E : aE} (hE : EI E) {M : Nat} (hM : 40 ≤ M) (hfin : ∀ j, (aRun E sZ (evs E 0 M)).1 j = []) {k : Nat} (hk : k < E 0 5) : tot4 (xRun E (kR (E 8) (aRun E sZ (evs E 0 M)).2 (E 0 1) (E 0 5)) yZ (pre E k)) ≤ E 0 1 := by
  have h1 := kR_ok (tc := E 8) (lv := (aRun E sZ (evs E 0 M)).2) (B := E 0 1) (c := E 0 5) (fun i k a b => hE.2.2.2.2.2.1 i k a b) hk
  rw [← occ_kO hE hM hfin hk] at h1
  refine Nat.le_trans ?_ h1
  have hd := dom_run (E := E) (Y := kR (E 8) (aRun E sZ (evs E 0 M)).2 (E 0 1) (E 0 5)) (pre E k) (y := yZ) (s := sZ) (fun j => Nat.zero_le _)
  unfold occ tot4
  have := hd 0; have := hd 1; have := hd 2; have := hd 3
  omega
theorem sv_len {E : aE} {t : Nat} (j : Nat) : ∀ m (s : aV), ((aRun E s (svT E t m)).1 j).length = if j < m ∧ (t + 1) % E 3 j = 0 then (s.1 j).length - 1 else (s.1 j).length := by
  intro m
  induction m with
  | zero => intro s; rw [if_neg (by omega)]; rfl
  | succ m ih =>
    intro s
    unfold svT
    rw [aRun_app]
    generalize hs : aRun E s (svT E t m) = s1
    have hi := ih s
    rw [hs] at hi
    by_cases hp : (t + 1) % E 3 m = 0
    · rw [if_pos hp]
      show ((aStep E s1 (m + 1, t)).1 j).length = _
      by_cases hjm : j = m
      · subst hjm
        rw [if_neg (by omega)] at hi
        rw [if_pos ⟨by omega, hp⟩]
        cases hq : s1.1 j with
        | nil => rw [step_e _ _ _ _ hq, hq]; rw [hq] at hi; simp at hi ⊢; omega
        | cons i r => rw [step_c _ _ _ _ hq]; dsimp only; rw [uQ_at]; rw [hq] at hi; simp at hi; omega
      · have hst : (aStep E s1 (m + 1, t)).1 j = s1.1 j := by
          cases hq : s1.1 m with
          | nil => rw [step_e _ _ _ _ hq]
          | cons i r => rw [step_c _ _ _ _ hq]; dsimp only; rw [uQ_ne _ _ hjm]
        rw [hst, hi]
        by_cases hjlt : j < m
        · by_cases hpj : (t + 1) % E 3 j = 0
          · rw [if_pos ⟨hjlt, hpj⟩, if_pos ⟨by omega, hpj⟩]
          · rw [if_neg (fun q => hpj q.2), if_neg (fun q => hpj q.2)]
        · rw [if_neg (by omega), if_neg (by omega)]
    · rw [if_neg hp]
      show (s1.1 j).length = _
      rw [hi]
      by_cases hjm : j = m
      · subst hjm; rw [if_neg (by omega), if_neg (fun q => hp q.2)]
      · by_cases hjlt : j < m
        · by_cases hpj : (t + 1) % E 3 j = 0
          · rw [if_pos ⟨hjlt, hpj⟩, if_pos ⟨by omega, hpj⟩]
          · rw [if_neg (fun q => hpj q.2), if_neg (fun q => hpj q.2)]
        · rw [if_neg (by omega), if_neg (by omega)]
theorem evs_snoc (E : aE) (t : Nat) : evs E 0 (t + 1) = evs E 0 t ++ evT E t := by
  have := evs_add E t 0 1
  rw [Nat.zero_add] at this
  rw [this]
  congr 1
  show evT E t ++ [] = _
  rw [List.append_nil]
theorem late_len {E : aE} (hE : EI E) {t : Nat} (ht : 40 ≤ t) (j : Nat) : ((aRun E sZ (evs E 0 (t + 1))).1 j).length = if j < E 0 0 ∧ (t + 1) % E 3 j = 0 then ((aRun E sZ (evs E 0 t)).1 j).length - 1 else ((aRun E sZ (evs E 0 t)).1 j).length := by
  rw [evs_snoc, aRun_app]
  unfold evT
  rw [pT_40 hE ht, pT_40 hE (show 40 ≤ t + 1 by omega), Nat.sub_self]
  exact sv_len j _ _
theorem all_gone {E : aE} (hE : EI E) : ∀ j, (aRun E sZ (evs E 0 440)).1 j = [] := by
  have hn4 := hE.2.1
  have hc := hE.2.2.2.1
  intro j
  have hw : ∀ t, WF E [] (aRun E sZ (evs E 0 t)) := fun t => WF_app (evs E 0 t) (by rw [List.append_nil]; exact WF_evs hE t)
  by_cases hj : j < E 0 0
  · obtain ⟨-, -, p1, p5, -⟩ := hE.2.2.2.2.2.2.1 j hj
    have hmono : ∀ t, 40 ≤ t → ((aRun E sZ (evs E 0 (t + 1))).1 j).length ≤ ((aRun E sZ (evs E 0 t)).1 j).length := by
      intro t ht
      rw [late_len hE ht j]
      split <;> omega
    have hserve : ∀ t, 40 ≤ t → (t + 1) % E 3 j = 0 → ((aRun E sZ (evs E 0 (t + 1))).1 j).length ≤ ((aRun E sZ (evs E 0 t)).1 j).length - 1 := by
      intro t ht hp
      rw [late_len hE ht j, if_pos ⟨hj, hp⟩]
      omega
    obtain ⟨L, hL⟩ : ∃ L : Nat → Nat, ∀ t, ((aRun E sZ (evs E 0 t)).1 j).length = L t := ⟨_, fun _ => rfl⟩
    simp only [hL] at hmono hserve
    have hfive : ∀ t, 40 ≤ t → L (t + 5) ≤ L t - 1 := by
      intro t ht
      have m0 : L (t + 1) ≤ L t := hmono t ht
      have m1 : L (t + 2) ≤ L (t + 1) := hmono (t + 1) (by omega)
      have m2 : L (t + 3) ≤ L (t + 2) := hmono (t + 2) (by omega)
      have m3 : L (t + 4) ≤ L (t + 3) := hmono (t + 3) (by omega)
      have m4 : L (t + 5) ≤ L (t + 4) := hmono (t + 4) (by omega)
      have hex : (t + 1) % E 3 j = 0 ∨ (t + 1 + 1) % E 3 j = 0 ∨ (t + 2 + 1) % E 3 j = 0 ∨ (t + 3 + 1) % E 3 j = 0 ∨ (t + 4 + 1) % E 3 j = 0 := by
        generalize E 3 j = p at *
        rcases (show p = 1 ∨ p = 2 ∨ p = 3 ∨ p = 4 ∨ p = 5 by omega) with rfl | rfl | rfl | rfl | rfl <;> omega
      rcases hex with h | h | h | h | h
      · have : L (t + 1) ≤ L t - 1 := hserve t ht h
        omega
      · have : L (t + 2) ≤ L (t + 1) - 1 := hserve (t + 1) (by omega) h
        omega
      · have : L (t + 3) ≤ L (t + 2) - 1 := hserve (t + 2) (by omega) h
        omega
      · have : L (t + 4) ≤ L (t + 3) - 1 := hserve (t + 3) (by omega) h
        omega
      · have : L (t + 5) ≤ L (t + 4) - 1 := hserve (t + 4) (by omega) h
        omega
    have h0 : ((aRun E sZ (evs E 0 40)).1 j).length ≤ 80 := by
      rw [len_cnt (c := E 0 5) _ ((hw 40).2.2 j).1 (fun i hi => (((hw 40).2.2 j).2 i hi).2.2.1)]
      have := cnt_le (fun i => decide (i ∈ (aRun E sZ (evs E 0 40)).1 j)) (E 0 5)
      omega
    rw [hL] at h0
    have hm : ∀ m, L (40 + 5 * m) ≤ 80 - m := by
      intro m
      induction m with
      | zero => exact h0
      | succ m ih =>
        have := hfive (40 + 5 * m) (by omega)
        rw [show 40 + 5 * (m + 1) = 40 + 5 * m + 5 by omega]
        omega
    have : L 440 ≤ 80 - 80 := hm 80
    exact List.length_eq_zero_iff.mp (by rw [hL]; omega)
  · cases hq : (aRun E sZ (evs E 0 440)).1 j with
    | nil => rfl
    | cons i r =>
      obtain ⟨a1, a2, a3, a4⟩ := ((hw 440).2.2 j).2 i (by rw [hq]; simp)
      have := (hE.2.2.2.2.1 i a3).1
      omega
