/-! the reference's best: the whole -/
section MBe
variable {l : Launch} {C : xC} {G : xG}
theorem bst_80 {E : aE} (hE : EI E) : bst E ≤ 80 := by
  have := cnt_le (kR (E 8) (fin440 E).2 (E 0 1) (E 0 5)) (E 0 5)
  have := hE.2.2.2.1
  unfold bst
  omega
theorem Lb121 (hG : SH G) {K : xI} {E : aE} {x1 x2 : Int32} (hE : EI E) (h1 : ∀ code, code < 28561 → ¬ K 101 code < 0 → ∃ n, K 101 code = nI n ∧ n ≤ bst E) (h2 : ∃ code, code < 28561 ∧ K 101 code = nI (bst E)) : ∀ (k i b : Nat), i ≤ 28561 → 28561 < i + k → b ≤ bst E → (∀ code, code < i → ∀ n, K 101 code = nI n → n ≤ 80 → n ≤ b) → XF fI l C mX10_best 121 [some (.ref 69), some (.int x1), some (.int x2), some (.int (nI b)), some (.int (nI i))] [] G K (fun v K' => v = nI (bst E) ∧ K' = K) := by
  have hb80 := bst_80 hE
  intro k
  induction k with
  | zero => intro i b h1 h2; exact absurd h2 (by omega)
  | succ k ih =>
    intro i b h3 h4 hb hm
    refine VX10_best_121 hG K x1 x2 (nI b) (nI i) (pk_le 28561 i (fun hle => ?_) (fun hlt => ?_) rfl rfl)
    · obtain ⟨code, c1, c2⟩ := h2
      have := hm code (by omega) _ c2 hb80
      exact ⟨by congr 1; omega, rfl⟩
    · rw [nI_clamp (show i < 2 ^ 31 by omega)]
      refine ⟨vp_in_nI hlt (by decide), fun hle => ?_, fun hgt => ?_⟩
      · refine XF.to (ih (i + 1) b (by omega) (by omega) hb (fun code hc n e hn => ?_)) (by rw [nI_succ]) rfl rfl
        by_cases hci : code = i
        · subst hci
          rw [e] at hle
          exact (nI_leI (by omega) (by omega)).mp hle
        · exact hm code (by omega) n e hn
      · have hpos : ¬ K 101 i < 0 := fun z => hgt (Int32.le_of_lt (Int32.lt_of_lt_of_le z (nI_pos' (by omega))))
        obtain ⟨n, n1, n2⟩ := h1 i hlt hpos
        rw [n1] at hgt ⊢
        have hgt' : b < n := Nat.lt_of_not_le (fun z => hgt ((nI_leI (by omega) (by omega)).mpr z))
        refine XF.to (ih (i + 1) n (by omega) (by omega) n2 (fun code hc n' e hn => ?_)) (by rw [nI_succ]) rfl rfl
        by_cases hci : code = i
        · subst hci
          rw [n1] at e
          have := (nI_eq (by omega) (by omega)).mp e
          omega
        · have := hm code (by omega) n' e hn
          omega
set_option maxHeartbeats 4000000 in
theorem Lb59 (hG : SH G) {K0 : xI} {E : aE} {rw t : Nat} (hE : EI E) (hM0 : MB K0 E rw) (ht : t < 40) {Q : Int32 → xI → Prop} (hQ : ∀ K, FP K0 K → DPI (K 101) E (evs E 0 (t + 1)) → XF fI l C mX10_best 43 [some (.ref 69), some (.int (nI rw)), some (.int (nI (pT E (t + 1)))), some (.int (nI (t + 1))), none] [] G K Q) : ∀ (m p : Nat) (K : xI), pT E t ≤ p → p ≤ pT E (t + 1) → m = pT E (t + 1) - p → FP K0 K → DPI (K 101) E (evs E 0 t ++ arv (pT E t) (p - pT E t)) → XF fI l C mX10_best 59 [some (.ref 69), some (.int (nI rw)), some (.int (nI p)), some (.int (nI t)), none] [] G K Q := by
  have hn4 := hE.2.1
  have hB := hE.2.2.1
  have hc := hE.2.2.2.1
  have hpl := pT_le E (t + 1)
  have hr4 := hM0.2.2.1.1
  have harr : ∀ p, pT E t ≤ p → arr (evs E 0 t ++ arv (pT E t) (p - pT E t)) = List.range' 0 p := by
    intro p hp
    rw [arr_app, arr_evs, arr_arv, pT_0, Nat.sub_zero, Nat.zero_add]
    have := @List.range'_append_1 0 (pT E t) (p - pT E t)
    rw [Nat.zero_add] at this
    rw [this]
    congr 1
    omega
  have done : ∀ (p : Nat) (K : xI), p = pT E (t + 1) → FP K0 K → DPI (K 101) E (evs E 0 t ++ arv (pT E t) (p - pT E t)) → (∃ Qc : Unit → xI → Prop, XF fV l C mX10_serve 0 (xent mX10_serve [.ref 69, .int (nI t)]) [] G K Qc ∧ ∀ (u_107 : Unit) (I_107 : xI), Qc u_107 I_107 → XF fI l C mX10_best 43 [some (.ref 69), some (.int (nI rw)), some (.int (nI p)), some (.int (nI t + 1)), none] [] G I_107 Q) := by
    intro p K hp hF hD
    subst hp
    refine ⟨_, Zserve hG hE (MB_FP hM0 hF) ht, ?_⟩
    rintro - K1 ⟨f1, s1⟩
    have hD1 := DPI_sv hB (by rw [harr _ (pT_mono E (by omega))]; simp; omega) hD s1
    rw [List.append_assoc, show arv (pT E t) (pT E (t + 1) - pT E t) ++ svT E t (E 0 0) = evT E t from rfl, ← evs_snoc] at hD1
    exact XF.to (hQ K1 (hF.trans f1) hD1) (by rw [nI_succ t]) rfl rfl
  intro m
  induction m with
  | zero =>
    intro p K h1 h2 hm hF hD
    have hp : p = pT E (t + 1) := by omega
    have hM := MB_FP hM0 hF
    refine VX10_best_59 hG K (nI rw) (nI p) (nI t) ⟨vp_in_nI hr4 (by decide), ?_⟩
    rw [nI_clamp (show rw < 2 ^ 31 by omega)]
    refine pk_le (E 0 5) p (fun _ => done p K hp hF hD) (fun hlt => ?_) hM.2.2.1.2 rfl
    rw [ix80, nI_clamp (show 80 * rw + p < 2 ^ 31 by omega), (hM.2.2.2.1 p hlt).2]
    have h40 := (hE.2.2.2.2.1 p hlt).2
    have hn : ¬ E 8 p < t + 1 := fun q => by have := (pT_iff hE hlt (t + 1)).mpr q; omega
    exact ⟨vp_in_nI (by omega) (by decide), pk_eq (E 8 p) t (fun z => absurd z (by omega)) (fun _ => done p K hp hF hD) rfl rfl⟩
  | succ m ih =>
    intro p K h1 h2 hm hF hD
    have hM := MB_FP hM0 hF
    have hlt : p < E 0 5 := by omega
    have hy1 : E 8 p < t + 1 := (pT_iff hE hlt (t + 1)).mp (by omega)
    have hy2 : ¬ E 8 p < t := fun q => by have := (pT_iff hE hlt t).mpr q; omega
    obtain ⟨hl, h40⟩ := hE.2.2.2.2.1 p hlt
    refine VX10_best_59 hG K (nI rw) (nI p) (nI t) ⟨vp_in_nI hr4 (by decide), ?_⟩
    rw [nI_clamp (show rw < 2 ^ 31 by omega)]
    refine pk_le (E 0 5) p (fun z => absurd z (by omega)) (fun _ => ?_) hM.2.2.1.2 rfl
    rw [ix80, nI_clamp (show 80 * rw + p < 2 ^ 31 by omega), (hM.2.2.2.1 p hlt).1, (hM.2.2.2.1 p hlt).2]
    refine ⟨vp_in_nI (by omega) (by decide), pk_eq (E 8 p) t (fun _ => ?_) (fun z => absurd (show E 8 p = t by omega) z) rfl rfl⟩
    have hlen : (arr (evs E 0 t ++ arv (pT E t) (p - pT E t))).length ≤ 79 := by rw [harr p h1]; simp; omega
    refine ⟨_, Zoff10 hG (show E 9 p < 4 by omega) hB hM.2.1 (DPI_VT hD (by omega)), ?_⟩
    rintro - K1 ⟨f1, o1⟩
    have hD1 := DPI_off hB (show E 9 p < 4 by omega) hD (by rw [harr p h1, List.mem_range'_1]; omega) hlen o1
    have e : evs E 0 t ++ arv (pT E t) (p - pT E t) ++ [(0, p)] = evs E 0 t ++ arv (pT E t) (p + 1 - pT E t) := by
      rw [show p + 1 - pT E t = (p - pT E t) + 1 by omega, arv_snoc, List.append_assoc, show pT E t + (p - pT E t) = p by omega]
    rw [e] at hD1
    exact XF.to (ih (p + 1) K1 (by omega) (by omega) (by omega) (hF.trans (fun a h _ => f1 a h)) hD1) (by rw [nI_succ]) rfl rfl
theorem Lb43 (hG : SH G) {K0 : xI} {E : aE} {rw : Nat} (hE : EI E) (hM0 : MB K0 E rw) : ∀ (m t : Nat) (K : xI), m + t = 40 → FP K0 K → DPI (K 101) E (evs E 0 t) → XF fI l C mX10_best 43 [some (.ref 69), some (.int (nI rw)), some (.int (nI (pT E t))), some (.int (nI t)), none] [] G K (fun v K' => v = nI (bst E) ∧ FP K0 K') := by
  have hr4 := hM0.2.2.1.1
  have hc := hE.2.2.2.1
  have fin : ∀ (t : Nat) (K : xI) (x2 : Int32), pT E t = E 0 5 → FP K0 K → DPI (K 101) E (evs E 0 t) → XF fI l C mX10_best 121 [some (.ref 69), some (.int (nI rw)), some (.int x2), some (.int 0), some (.int 0)] [] G K (fun v K' => v = nI (bst E) ∧ FP K0 K') := by
    intro t K x2 hp hF hD
    obtain ⟨b1, b2⟩ := DPI_best hE hp hD
    refine XF.mono (Lb121 hG hE b1 b2 28562 0 0 (by omega) (by omega) (Nat.zero_le _) (fun code hc => absurd hc (by omega))) ?_
    rintro v K' ⟨rfl, rfl⟩
    exact ⟨rfl, hF⟩
  intro m
  induction m with
  | zero =>
    intro t K hm hF hD
    have : t = 40 := by omega
    subst this
    exact VX10_best_43 hG K (nI rw) (nI (pT E 40)) (nI 40) (pk_le 40 40 (fun _ => fin 40 K _ (pT_40 hE (by omega)) hF hD) (fun z => absurd z (by omega)) rfl rfl)
  | succ m ih =>
    intro t K hm hF hD
    have hM := MB_FP hM0 hF
    have hpl := pT_le E t
    refine VX10_best_43 hG K (nI rw) (nI (pT E t)) (nI t) (pk_le 40 t (fun z => absurd z (by omega)) (fun ht => ?_) rfl rfl)
    rw [nI_clamp (show rw < 2 ^ 31 by omega)]
    refine ⟨vp_in_nI hr4 (by decide), pk_le (E 0 5) (pT E t) (fun hle => fin t K _ (by omega) hF hD) (fun hlt => ?_) hM.2.2.1.2 rfl⟩
    refine Lb59 hG hE hM0 ht (fun K1 f1 d1 => ih (t + 1) K1 (by omega) f1 d1) _ (pT E t) K (Nat.le_refl _) (pT_mono E (by omega)) rfl hF ?_
    rw [Nat.sub_self]
    show DPI (K 101) E (evs E 0 t ++ [])
    rw [List.append_nil]
    exact hD
theorem Lb11 (hG : SH G) {K0 : xI} {E : aE} {rw : Nat} (hE : EI E) (hM0 : MB K0 E rw) : ∀ (k i : Nat), i ≤ 28561 → 28561 < i + k → ∀ K, FP K0 K → (∀ c, c < i → K 101 c = if c = 0 then 0 else (-1)) → XF fI l C mX10_best 11 [some (.ref 69), some (.int (nI rw)), some (.int (nI i)), none, none] [] G K (fun v K' => v = nI (bst E) ∧ FP K0 K') := by
  intro k
  induction k with
  | zero => intro i h1 h2; exact absurd h2 (by omega)
  | succ k ih =>
    intro i h1 h2 K hF hz
    refine VX10_best_11 hG K (nI rw) (nI i) (pk_le 28561 i (fun hle => ?_) (fun hlt => ?_) rfl rfl)
    · have : i = 28561 := by omega
      subst this
      refine XF.to (Lb43 hG hE hM0 40 0 K rfl hF ⟨fun code hc hn => ?_, fun X _ => ?_⟩) (by rw [pT_0]; rfl) rfl rfl
      · have h0 : code = 0 := by
          apply Classical.byContradiction
          intro q
          rw [hz code hc, if_neg q] at hn
          exact hn (by decide)
        subst h0
        refine ⟨fun _ => false, fun a b hab => ?_, rfl, by rw [hz 0 (by omega), if_pos rfl]; rfl⟩
        have : a = [] := by
          have := congrArg List.length hab
          simp [evs] at this
          exact List.length_eq_zero_iff.mp (by omega)
        subst this
        exact Nat.zero_le _
      · exact ⟨0, by show K 101 0 = _; rw [hz 0 (by omega), if_pos rfl]; rfl, by omega, by simp [evs, arr]⟩
    · rw [nI_clamp (show i < 2 ^ 31 by omega)]
      have step : ∀ v : Int32, v = (if i = 0 then 0 else (-1)) → XF fI l C mX10_best 11 [some (.ref 69), some (.int (nI rw)), some (.int (nI i + 1)), none, none] [] G (wI K 101 i v) (fun v K' => v = nI (bst E) ∧ FP K0 K') := by
        intro v hv
        refine XF.to (ih (i + 1) (by omega) (by omega) _ (fun a z1 z2 => by rw [wI_ne _ _ _ z1, hF a z1 z2]) (fun c hc => ?_)) (by rw [nI_succ]) rfl rfl
        rw [wI_same]
        by_cases hci : c = i
        · subst hci; rw [upd_same, hv]
        · rw [upd_ne _ _ hci]; exact hz c (by omega)
      refine pk_eq i 0 (fun h0 => ⟨vp_in_nI hlt (by decide), step 0 (by rw [if_pos h0])⟩) (fun h0 => ⟨vp_in_nI hlt (by decide), step (-1) (by rw [if_neg h0])⟩) rfl rfl
theorem Zbest10 (hG : SH G) {K : xI} {E : aE} {rw : Nat} (hE : EI E) (hM : MB K E rw) : XF fI l C mX10_best 0 (xent mX10_best [.ref 69, .int (nI rw)]) [] G K (fun v K' => v = nI (bst E) ∧ FP K K') := by
  have hr4 := hM.2.2.1.1
  refine VX10_best hG K (nI rw) ⟨_, XF.of (YX10_isRow K (nI rw)), ?_⟩
  rintro v K1 ⟨rfl, rfl⟩
  exact bI_split (fun z => absurd ⟨nI_pos' (by omega), show nI rw ≤ nI 3 from nI_le (by omega) (by omega)⟩ z) (fun _ => Lb11 hG hE hM 28562 0 (by omega) (by omega) K1 (fun _ _ _ => rfl) (fun c hc => absurd hc (by omega)))
end MBe
