/-! the reference's best: a table over the lengths, by plain numbers -/
def plc (l : Nat) : Nat := if l = 0 then 1 else if l = 1 then 13 else if l = 2 then 169 else 2197
def enc (y : Nat → Nat) : Nat := y 0 + 13 * y 1 + 169 * y 2 + 2197 * y 3
def dg (code l : Nat) : Nat := code / plc l % 13
def allc (code : Nat) : Nat := code % 13 + code / 13 % 13 + code / 169 % 13 + code / 2197
theorem enc_uL (y : Nat → Nat) {l v : Nat} (hl : l < 4) : enc (uL y l v) + plc l * y l = enc y + plc l * v := by
  rcases (show l = 0 ∨ l = 1 ∨ l = 2 ∨ l = 3 by omega) with rfl | rfl | rfl | rfl <;> simp [enc, uL, plc] <;> omega
theorem enc_lt {y : Nat → Nat} (h : ∀ j, j < 4 → y j ≤ 12) : enc y < 28561 := by
  have := h 0 (by omega); have := h 1 (by omega); have := h 2 (by omega); have := h 3 (by omega)
  unfold enc
  omega
theorem dg_enc {y : Nat → Nat} (h : ∀ j, j < 4 → y j ≤ 12) {l : Nat} (hl : l < 4) : dg (enc y) l = y l := by
  have := h 0 (by omega); have := h 1 (by omega); have := h 2 (by omega); have := h 3 (by omega)
  unfold dg enc
  rcases (show l = 0 ∨ l = 1 ∨ l = 2 ∨ l = 3 by omega) with rfl | rfl | rfl | rfl <;> simp [plc] <;> omega
theorem enc_dg {code : Nat} (h : code < 28561) : enc (dg code) = code := by
  simp only [enc, dg, plc]
  simp
  omega
theorem dg_le (code l : Nat) : dg code l ≤ 12 := by
  unfold dg
  have := Nat.mod_lt (code / plc l) (show 13 > 0 by omega)
  omega
theorem allc_enc {y : Nat → Nat} (h : ∀ j, j < 4 → y j ≤ 12) : allc (enc y) = tot4 y := by
  have := h 0 (by omega); have := h 1 (by omega); have := h 2 (by omega); have := h 3 (by omega)
  unfold allc enc tot4
  omega
theorem plc_pos (l : Nat) : 1 ≤ plc l := by
  unfold plc
  repeat' split
  all_goals omega
theorem to_lt {code l B : Nat} (h : code < 28561) (ha : allc code < B) (hB : B ≤ 12) (hl : l < 4) : code + plc l < 28561 := by
  unfold allc at ha
  rcases (show l = 0 ∨ l = 1 ∨ l = 2 ∨ l = 3 by omega) with rfl | rfl | rfl | rfl <;> simp [plc] <;> omega
def FE (E : aE) (X : Nat → Bool) (es : List (Nat × Nat)) : Prop := ∀ a b, es = a ++ b → tot4 (xRun E X yZ a) ≤ E 0 1
theorem FE_self {E : aE} {X : Nat → Bool} {es : List (Nat × Nat)} (h : FE E X es) : tot4 (xRun E X yZ es) ≤ E 0 1 := h es [] (by simp)
theorem FE_pre {E : aE} {X : Nat → Bool} {a b : List (Nat × Nat)} (h : FE E X (a ++ b)) : FE E X a := fun c d e => h c (d ++ b) (by rw [e, List.append_assoc])
theorem FE_snoc {E : aE} {X : Nat → Bool} {es : List (Nat × Nat)} {e : Nat × Nat} (h : FE E X es) (h2 : tot4 (xRun E X yZ (es ++ [e])) ≤ E 0 1) : FE E X (es ++ [e]) := by
  intro a b hab
  rcases List.eq_nil_or_concat b with rfl | ⟨b', x, rfl⟩
  · rw [List.append_nil] at hab
    rw [← hab]; exact h2
  · rw [List.concat_eq_append, ← List.append_assoc] at hab
    have := List.append_inj' hab rfl
    exact h a b' this.1
theorem tot4_le {y z : Nat → Nat} (h : ∀ j, y j ≤ z j) : tot4 y ≤ tot4 z := by
  have := h 0; have := h 1; have := h 2; have := h 3
  unfold tot4
  omega
theorem FE_sv {E : aE} {X : Nat → Bool} {es : List (Nat × Nat)} {t : Nat} (h : FE E X es) : ∀ m, FE E X (es ++ svT E t m) := by
  intro m
  induction m with
  | zero => simpa [svT] using h
  | succ m ih =>
    unfold svT
    rw [← List.append_assoc]
    by_cases hp : (t + 1) % E 3 m = 0
    · rw [if_pos hp]
      refine FE_snoc ih ?_
      rw [xRun_app]
      refine Nat.le_trans (tot4_le (fun j => ?_)) (FE_self ih)
      show uL _ m _ j ≤ _
      by_cases hj : j = m
      · subst hj; rw [uL_at]; omega
      · rw [uL_ne _ _ hj]; exact Nat.le_refl _
    · rw [if_neg hp, List.append_nil]; exact ih
theorem xRun_congr {E : aE} {X X' : Nat → Bool} : ∀ (es : List (Nat × Nat)) (y : Nat → Nat), (∀ i, i ∈ arr es → X i = X' i) → xRun E X y es = xRun E X' y es := by
  intro es
  induction es with
  | nil => intro y _; rfl
  | cons e es ih =>
    intro y h
    obtain ⟨a, b⟩ := e
    cases a with
    | zero =>
      rw [arr_0] at h
      show xRun E X (xStep E X y (0, b)) es = xRun E X' (xStep E X' y (0, b)) es
      rw [xs_0, xs_0, h b (by simp)]
      exact ih _ (fun i hi => h i (by simp [hi]))
    | succ j =>
      rw [arr_s] at h
      exact ih _ h
theorem FE_congr {E : aE} {X X' : Nat → Bool} {es : List (Nat × Nat)} (h : FE E X es) (hc : ∀ i, i ∈ arr es → X i = X' i) : FE E X' es := by
  intro a b hab
  rw [← xRun_congr a yZ (fun i hi => hc i (by rw [hab, arr_app]; simp [hi]))]
  exact h a b hab
theorem sv_x {E : aE} {X : Nat → Bool} {t : Nat} : ∀ m (y : Nat → Nat) (j : Nat), xRun E X y (svT E t m) j = if j < m ∧ (t + 1) % E 3 j = 0 then y j - 1 else y j := by
  intro m
  induction m with
  | zero => intro y j; rw [if_neg (by omega)]; rfl
  | succ m ih =>
    intro y j
    unfold svT
    rw [xRun_app]
    by_cases hp : (t + 1) % E 3 m = 0
    · rw [if_pos hp]
      show uL (xRun E X y (svT E t m)) m _ j = _
      by_cases hj : j = m
      · subst hj; rw [uL_at, ih, if_neg (by omega), if_pos ⟨by omega, hp⟩]
      · rw [uL_ne _ _ hj, ih]
        by_cases hq : j < m ∧ (t + 1) % E 3 j = 0
        · rw [if_pos hq, if_pos ⟨by omega, hq.2⟩]
        · rw [if_neg hq, if_neg (fun z => hq ⟨by omega, z.2⟩)]
    · rw [if_neg hp]
      show xRun E X y (svT E t m) j = _
      rw [ih]
      by_cases hq : j < m ∧ (t + 1) % E 3 j = 0
      · rw [if_pos hq, if_pos ⟨by omega, hq.2⟩]
      · rw [if_neg hq, if_neg (fun z => hq ⟨by
          apply Classical.byContradiction
          intro w
          have : j = m := by omega
          subst this
          exact hp z.2, z.2⟩)]
/-- the lengths behind a tick's sending -/
def svy (E : aE) (t m code : Nat) : Nat → Nat := fun j => if j < m ∧ (t + 1) % E 3 j = 0 then dg code j - 1 else dg code j
theorem x12 {E : aE} {X : Nat → Bool} {es : List (Nat × Nat)} (hB : E 0 1 ≤ 12) (h : FE E X es) : ∀ j, j < 4 → xRun E X yZ es j ≤ 12 := by
  intro j hj
  have := FE_self h
  unfold tot4 at this
  rcases (show j = 0 ∨ j = 1 ∨ j = 2 ∨ j = 3 by omega) with rfl | rfl | rfl | rfl <;> omega
theorem sv_enc {E : aE} {X : Nat → Bool} {es : List (Nat × Nat)} {t m : Nat} (hB : E 0 1 ≤ 12) (h : FE E X es) : enc (xRun E X yZ (es ++ svT E t m)) = enc (svy E t m (enc (xRun E X yZ es))) := by
  have h12 := x12 hB h
  have e : ∀ j, j < 4 → xRun E X yZ (es ++ svT E t m) j = svy E t m (enc (xRun E X yZ es)) j := by
    intro j hj
    rw [xRun_app, sv_x]
    unfold svy
    rw [dg_enc h12 hj]
  unfold enc
  rw [e 0 (by omega), e 1 (by omega), e 2 (by omega), e 3 (by omega)]
  rfl
/-- the table knows every choice that the room allows -/
def DPI (T : Nat → Int32) (E : aE) (es : List (Nat × Nat)) : Prop := (∀ code, code < 28561 → ¬ T code < 0 → ∃ X, FE E X es ∧ enc (xRun E X yZ es) = code ∧ T code = nI ((arr es).filter X).length) ∧ (∀ X, FE E X es → ∃ n, T (enc (xRun E X yZ es)) = nI n ∧ n ≤ 80 ∧ ((arr es).filter X).length ≤ n)
def VT (T : Nat → Int32) : Prop := ∀ code, code < 28561 → ¬ T code < 0 → ∃ n, n ≤ 80 ∧ T code = nI n
theorem DPI_VT {T : Nat → Int32} {E : aE} {es : List (Nat × Nat)} (h : DPI T E es) (hl : (arr es).length ≤ 80) : VT T := by
  intro code hc hn
  obtain ⟨X, -, -, h3⟩ := h.1 code hc hn
  exact ⟨_, Nat.le_trans (List.length_filter_le _ _) hl, h3⟩
def OF (T T' : Nat → Int32) (l B : Nat) : Prop := (∀ code, code < 28561 → T' code = T code ∨ ∃ c', code = c' + plc l ∧ c' < 28561 ∧ ¬ T c' < 0 ∧ allc c' < B ∧ T' code = T c' + 1) ∧ (∀ code, code < 28561 → ¬ T code < 0 → T code ≤ T' code) ∧ (∀ c', c' < 28561 → ¬ T c' < 0 → allc c' < B → T c' + 1 ≤ T' (c' + plc l))
theorem nI_le_of {x : Int32} {n : Nat} (hn : n < 2 ^ 31) (h : nI n ≤ x) : ∃ m, x = nI m ∧ n ≤ m ∧ m < 2 ^ 31 := by
  have h0 : ¬ x < 0 := by
    rw [Int32.not_lt]
    exact Int32.le_trans (nI_pos' hn) h
  obtain ⟨m, h1, h2⟩ := nI_of h0
  subst h2
  exact ⟨m, rfl, (nI_leI hn h1).mp h, h1⟩
theorem DPI_off {T T' : Nat → Int32} {E : aE} {es : List (Nat × Nat)} {k : Nat} (hB : E 0 1 ≤ 12) (hl4 : E 9 k < 4) (h : DPI T E es) (hk : k ∉ arr es) (hlen : (arr es).length ≤ 79) (ho : OF T T' (E 9 k) (E 0 1)) : DPI T' E (es ++ [(0, k)]) := by
  obtain ⟨h1, h2⟩ := h
  obtain ⟨o1, o2, o3⟩ := ho
  have harr : arr (es ++ [(0, k)]) = arr es ++ [k] := by rw [arr_app]; rfl
  have hcong : ∀ (X : Nat → Bool) (b : Bool) i, i ∈ arr es → X i = (fun x => if x = k then b else X x) i := by
    intro X b i hi
    have : i ≠ k := fun z => hk (z ▸ hi)
    simp [this]
  have hflt : ∀ (X : Nat → Bool) (b : Bool), (arr es).filter (fun x => if x = k then b else X x) = (arr es).filter X := fun X b => List.filter_congr (fun i hi => (hcong X b i hi).symm)
  have hS : ∀ code, code < 28561 → ¬ T' code < 0 → ∃ X, FE E X (es ++ [(0, k)]) ∧ enc (xRun E X yZ (es ++ [(0, k)])) = code ∧ T' code = nI ((arr (es ++ [(0, k)])).filter X).length := by
    intro code hc hn
    rcases o1 code hc with e | ⟨c', e1, e2, e3, e4, e5⟩
    · rw [e] at hn ⊢
      obtain ⟨X, q1, q2, q3⟩ := h1 code hc hn
      refine ⟨fun x => if x = k then false else X x, ?_⟩
      have hx : xRun E (fun x => if x = k then false else X x) yZ (es ++ [(0, k)]) = xRun E X yZ es := by
        rw [xRun_app, ← xRun_congr es yZ (hcong X false)]
        show (if (if k = k then false else X k) = true then _ else _) = _
        simp
      refine ⟨FE_snoc (FE_congr q1 (hcong X false)) (by rw [hx]; exact FE_self q1), by rw [hx]; exact q2, ?_⟩
      rw [q3, harr, List.filter_append, hflt]
      simp
    · obtain ⟨X, q1, q2, q3⟩ := h1 c' e2 e3
      refine ⟨fun x => if x = k then true else X x, ?_⟩
      have h12 := x12 hB q1
      have hx : xRun E (fun x => if x = k then true else X x) yZ (es ++ [(0, k)]) = uL (xRun E X yZ es) (E 9 k) (xRun E X yZ es (E 9 k) + 1) := by
        rw [xRun_app, ← xRun_congr es yZ (hcong X true)]
        show (if (if k = k then true else X k) = true then _ else _) = _
        simp
      have htot := tot4_uL (xRun E X yZ es) (xRun E X yZ es (E 9 k) + 1) hl4
      have hall : tot4 (xRun E X yZ es) < E 0 1 := by rw [← allc_enc h12, q2]; exact e4
      have hen := enc_uL (xRun E X yZ es) (v := xRun E X yZ es (E 9 k) + 1) hl4
      rw [Nat.mul_add, Nat.mul_one] at hen
      refine ⟨FE_snoc (FE_congr q1 (hcong X true)) (by rw [hx]; omega), by rw [hx, e1]; omega, ?_⟩
      rw [e5, q3, harr, List.filter_append, hflt, nI_1]
      simp
  refine ⟨hS, fun X hX => ?_⟩
  have hX0 := FE_pre hX
  obtain ⟨n, q1, q2, q3⟩ := h2 X hX0
  have h12 := x12 hB hX0
  have hlt := enc_lt h12
  have h12' := x12 hB hX
  have hlt' := enc_lt h12'
  have hcnt80 : ∀ c : Nat, ((arr (es ++ [(0, k)])).filter X).length ≤ 80 := fun _ => Nat.le_trans (List.length_filter_le _ _) (by rw [harr]; simp; omega)
  have fin : ∀ v : Int32, ∀ n0, n0 ≤ 81 → nI n0 ≤ v → v = T' (enc (xRun E X yZ (es ++ [(0, k)]))) → ((arr (es ++ [(0, k)])).filter X).length ≤ n0 → ∃ n, T' (enc (xRun E X yZ (es ++ [(0, k)]))) = nI n ∧ n ≤ 80 ∧ ((arr (es ++ [(0, k)])).filter X).length ≤ n := by
    intro v n0 hn0 hv he hc
    obtain ⟨m, m1, m2, m3⟩ := nI_le_of (by omega) hv
    subst m1
    have hpos : ¬ T' (enc (xRun E X yZ (es ++ [(0, k)]))) < 0 := by rw [← he]; exact nI_pos m3
    obtain ⟨X2, -, -, z3⟩ := hS _ hlt' hpos
    have hle : ((arr (es ++ [(0, k)])).filter X2).length ≤ 80 := Nat.le_trans (List.length_filter_le _ _) (by rw [harr]; simp; omega)
    refine ⟨_, z3, hle, ?_⟩
    rw [← he] at z3
    have := (nI_eq m3 (by omega)).mp z3
    omega
  by_cases hXk : X k = true
  · have hx : xRun E X yZ (es ++ [(0, k)]) = uL (xRun E X yZ es) (E 9 k) (xRun E X yZ es (E 9 k) + 1) := by
      rw [xRun_app]
      show (if X k = true then _ else _) = _
      rw [if_pos hXk]
    have htot := tot4_uL (xRun E X yZ es) (xRun E X yZ es (E 9 k) + 1) hl4
    have hself := FE_self hX
    rw [hx] at hself
    have hen := enc_uL (xRun E X yZ es) (v := xRun E X yZ es (E 9 k) + 1) hl4
    rw [Nat.mul_add, Nat.mul_one] at hen
    have henc : enc (xRun E X yZ (es ++ [(0, k)])) = enc (xRun E X yZ es) + plc (E 9 k) := by rw [hx]; omega
    have := o3 _ hlt (by rw [q1]; exact nI_pos (by omega)) (by rw [allc_enc h12]; omega)
    rw [q1, nI_1, ← henc] at this
    refine fin _ (n + 1) (by omega) this rfl ?_
    rw [harr, List.filter_append, List.length_append]
    simp [hXk]
    omega
  · have hx : xRun E X yZ (es ++ [(0, k)]) = xRun E X yZ es := by
      rw [xRun_app]
      show (if X k = true then _ else _) = _
      rw [if_neg hXk]
    have := o2 _ hlt (by rw [q1]; exact nI_pos (by omega))
    rw [q1, ← hx] at this
    refine fin _ n (by omega) this rfl ?_
    rw [harr, List.filter_append, List.length_append]
    simp [hXk]
    omega
def SV (T T' : Nat → Int32) (E : aE) (t : Nat) : Prop := (∀ to, to < 28561 → ¬ T' to < 0 → ∃ code, code < 28561 ∧ ¬ T code < 0 ∧ enc (svy E t (E 0 0) code) = to ∧ T' to = T code) ∧ (∀ code, code < 28561 → ¬ T code < 0 → T code ≤ T' (enc (svy E t (E 0 0) code)))
theorem svy_lt (E : aE) (t m code : Nat) : enc (svy E t m code) < 28561 := enc_lt (fun j _ => by
  have := dg_le code j
  unfold svy
  split <;> omega)
theorem DPI_sv {T T' : Nat → Int32} {E : aE} {es : List (Nat × Nat)} {t : Nat} (hB : E 0 1 ≤ 12) (hlen : (arr es).length ≤ 80) (h : DPI T E es) (hs : SV T T' E t) : DPI T' E (es ++ svT E t (E 0 0)) := by
  obtain ⟨h1, h2⟩ := h
  obtain ⟨s1, s2⟩ := hs
  have harr : arr (es ++ svT E t (E 0 0)) = arr es := by rw [arr_app, arr_sv, List.append_nil]
  have hS : ∀ code, code < 28561 → ¬ T' code < 0 → ∃ X, FE E X (es ++ svT E t (E 0 0)) ∧ enc (xRun E X yZ (es ++ svT E t (E 0 0))) = code ∧ T' code = nI ((arr (es ++ svT E t (E 0 0))).filter X).length := by
    intro to hto hn
    obtain ⟨code, c1, c2, c3, c4⟩ := s1 to hto hn
    obtain ⟨X, q1, q2, q3⟩ := h1 code c1 c2
    exact ⟨X, FE_sv q1 _, by rw [sv_enc hB q1, q2]; exact c3, by rw [harr, c4]; exact q3⟩
  refine ⟨hS, fun X hX => ?_⟩
  have hX0 := FE_pre hX
  obtain ⟨n, q1, q2, q3⟩ := h2 X hX0
  have hlt := enc_lt (x12 hB hX0)
  have := s2 _ hlt (by rw [q1]; exact nI_pos (by omega))
  rw [q1, ← sv_enc hB hX0] at this
  obtain ⟨m, m1, m2, m3⟩ := nI_le_of (by omega) this
  have hpos : ¬ T' (enc (xRun E X yZ (es ++ svT E t (E 0 0)))) < 0 := by rw [m1]; exact nI_pos m3
  obtain ⟨X2, -, -, z3⟩ := hS _ (enc_lt (x12 hB hX)) hpos
  have hle : ((arr (es ++ svT E t (E 0 0))).filter X2).length ≤ 80 := Nat.le_trans (List.length_filter_le _ _) (by rw [harr]; exact hlen)
  refine ⟨_, z3, hle, ?_⟩
  rw [z3] at m1
  have := (nI_eq (by omega) m3).mp m1
  rw [harr] at *
  omega
theorem FE_evs {E : aE} {Y : Nat → Bool} (hE : EI E) (h : ∀ k, k < E 0 5 → tot4 (xRun E Y yZ (pre E k)) ≤ E 0 1) : ∀ t, FE E Y (evs E 0 t) := by
  have harv : ∀ t, FE E Y (evs E 0 t) → ∀ m, m ≤ pT E (t + 1) - pT E t → FE E Y (evs E 0 t ++ arv (pT E t) m) := by
    intro t ht m
    induction m with
    | zero => intro _; simpa [arv] using ht
    | succ m ih =>
      intro hm
      have hk : pT E t + m < E 0 5 := by have := pT_le E (t + 1); omega
      have h1 : ¬ E 8 (pT E t + m) < t := fun z => by have := (pT_iff hE hk t).mpr z; omega
      have h2 : E 8 (pT E t + m) < t + 1 := (pT_iff hE hk (t + 1)).mp (by omega)
      have h3 : E 8 (pT E t + m) = t := by omega
      have hp : pre E (pT E t + m) = evs E 0 t ++ arv (pT E t) (m + 1) := by
        unfold pre
        rw [h3, show pT E t + m + 1 - pT E t = m + 1 by omega]
      have hlast : evs E 0 t ++ arv (pT E t) (m + 1) = (evs E 0 t ++ arv (pT E t) m) ++ [(0, pT E t + m)] := by
        rw [List.append_assoc]
        congr 1
        unfold arv
        rw [List.range'_concat, List.map_append, Nat.one_mul]
        rfl
      rw [hlast]
      refine FE_snoc (ih (by omega)) ?_
      rw [← hlast, ← hp]
      exact h _ hk
  intro t
  induction t with
  | zero =>
    intro a b hab
    have : a = [] := by
      have := congrArg List.length hab
      simp [evs] at this
      exact List.length_eq_zero_iff.mp (by omega)
    subst this
    exact Nat.zero_le _
  | succ t ih =>
    rw [evs_snoc]
    unfold evT
    rw [← List.append_assoc]
    exact FE_sv (harv t ih _ (Nat.le_refl _)) _
/-- the table's greatest is the best -/
theorem DPI_best {T : Nat → Int32} {E : aE} {t : Nat} (hE : EI E) (hp : pT E t = E 0 5) (h : DPI T E (evs E 0 t)) : (∀ code, code < 28561 → ¬ T code < 0 → ∃ n, T code = nI n ∧ n ≤ bst E) ∧ ∃ code, code < 28561 ∧ T code = nI (bst E) := by
  have hB := hE.2.2.1
  have hall := all_gone hE
  have harr : arr (evs E 0 t) = List.range' 0 (E 0 5) := by rw [arr_evs, pT_0, Nat.zero_add, Nat.sub_zero, hp]
  have hup : ∀ code, code < 28561 → ¬ T code < 0 → ∃ n, T code = nI n ∧ n ≤ bst E := by
    intro code hc hn
    obtain ⟨X, q1, q2, q3⟩ := h.1 code hc hn
    refine ⟨_, q3, ?_⟩
    rw [harr, filter_cnt]
    refine best_le hE (M := 440) (by omega) hall X (fun k hk => ?_)
    have htk : E 8 k < t := (pT_iff hE hk t).mp (by omega)
    obtain ⟨suf, e1, -⟩ := pre_split hE hk htk
    exact q1 _ suf e1
  refine ⟨hup, ?_⟩
  have hY : FE E (kR (E 8) (fin440 E).2 (E 0 1) (E 0 5)) (evs E 0 t) := FE_evs hE (fun k hk => best_ge hE (M := 440) (by omega) hall hk) t
  obtain ⟨n, n1, n2, n3⟩ := h.2 _ hY
  rw [harr, filter_cnt] at n3
  have hlt := enc_lt (x12 hB hY)
  obtain ⟨n', m1, m2⟩ := hup _ hlt (by rw [n1]; exact nI_pos (by omega))
  rw [n1] at m1
  have hb80 : bst E ≤ 80 := by have := cnt_le (kR (E 8) (fin440 E).2 (E 0 1) (E 0 5)) (E 0 5); have := hE.2.2.2.1; unfold bst; omega
  have := (nI_eq (by omega) (by omega)).mp m1
  refine ⟨_, hlt, ?_⟩
  rw [n1]
  congr 1
  have : bst E ≤ n := n3
  omega
