/-! the reference's best -/
section MBe
variable {l : Launch} {C : xC} {G : xG}
theorem Zplace (hG : SH G) (I : xI) {j : Nat} (hj : j < 4) : XF fI l C mX10_place 0 (xent mX10_place [.int (nI j)]) [] G I (fun v I' => v = nI (plc j) ∧ I' = I) := by
  refine VX10_place hG I (nI j) ?_
  rcases lt4 hj with rfl | rfl | rfl | rfl
  · exact ⟨fun _ => ⟨rfl, rfl⟩, fun z => absurd rfl z⟩
  · exact ⟨fun z => absurd z (by decide), fun _ => ⟨fun _ => ⟨rfl, rfl⟩, fun z => absurd rfl z⟩⟩
  · exact ⟨fun z => absurd z (by decide), fun _ => ⟨fun z => absurd z (by decide), fun _ => ⟨fun _ => ⟨rfl, rfl⟩, fun z => absurd rfl z⟩⟩⟩
  · exact ⟨fun z => absurd z (by decide), fun _ => ⟨fun z => absurd z (by decide), fun _ => ⟨fun z => absurd z (by decide), fun _ => ⟨rfl, rfl⟩⟩⟩⟩
theorem ZlenIn (hG : SH G) (I : xI) {code j : Nat} (hc : code < 28561) (hj : j < 4) : XF fI l C mX10_lengthIn 0 (xent mX10_lengthIn [.int (nI code), .int (nI j)]) [] G I (fun v I' => v = nI (dg code j) ∧ I' = I) := by
  refine VX10_lengthIn hG I (nI code) (nI j) ⟨_, Zplace hG I hj, ?_⟩
  rintro v I1 ⟨rfl, rfl⟩
  have h1 := plc_pos j
  have h2 : plc j ≤ 2197 := by unfold plc; repeat' split
                               all_goals omega
  refine ⟨nI_ne0 (by omega) (by omega), ?_, rfl⟩
  have hd : code / plc j ≤ code := Nat.div_le_self _ _
  rw [pk_div (by omega) (by omega) (by omega), show (13 : Int32) = nI 13 from rfl, pk_rem (by omega) (by omega) (by omega)]
  rfl
theorem ZallIn (hG : SH G) (I : xI) {code : Nat} (hc : code < 28561) : XF fI l C mX10_allIn 0 (xent mX10_allIn [.int (nI code)]) [] G I (fun v I' => v = nI (allc code) ∧ I' = I) := by
  refine VX10_allIn hG I (nI code) ⟨?_, rfl⟩
  rw [show (13 : Int32) = nI 13 from rfl, show (169 : Int32) = nI 169 from rfl, show (2197 : Int32) = nI 2197 from rfl]
  rw [pk_rem (show code < 2 ^ 31 by omega) (by omega) (by omega), pk_div (show code < 2 ^ 31 by omega) (show 0 < 13 by omega) (by omega), pk_div (show code < 2 ^ 31 by omega) (show 0 < 169 by omega) (by omega), pk_div (show code < 2 ^ 31 by omega) (show 0 < 2197 by omega) (by omega), pk_rem (show code / 13 < 2 ^ 31 by omega) (by omega) (by omega), pk_rem (show code / 169 < 2 ^ 31 by omega) (by omega) (by omega), nI_add, nI_add, nI_add]
  rfl
def OFi (T0 T : Nat → Int32) (lx B i : Nat) : Prop := (∀ code, code < i → T code = T0 code) ∧ (∀ code, code < 28561 → T code = T0 code ∨ ∃ c', code = c' + plc lx ∧ c' < 28561 ∧ ¬ T0 c' < 0 ∧ allc c' < B ∧ T code = T0 c' + 1) ∧ (∀ code, code < 28561 → ¬ T0 code < 0 → T0 code ≤ T code) ∧ (∀ c', i ≤ c' → c' < 28561 → ¬ T0 c' < 0 → allc c' < B → T0 c' + 1 ≤ T (c' + plc lx))
theorem upd_self (f : Nat → Int32) (k : Nat) : upd f k (f k) = f := by
  funext x
  unfold upd
  split
  · next h => rw [h]
  · rfl
set_option maxHeartbeats 4000000 in
theorem Loff10 (hG : SH G) {K0 : xI} {lx B : Nat} (hl : lx < 4) (hB : B ≤ 12) (hroom : K0 69 0 = nI B) (hV : VT (K0 101)) : ∀ (i : Nat) (K : xI), i ≤ 28561 → (∀ a, a ≠ 101 → K a = K0 a) → OFi (K0 101) (K 101) lx B i → XF fV l C mX10_offer 4 [some (.ref 69), some (.int (nI lx)), some (.int (nI i + (-1))), none] [] G K (fun _ K' => (∀ a, a ≠ 101 → K' a = K0 a) ∧ OF (K0 101) (K' 101) lx B) := by
  intro i
  induction i with
  | zero =>
    intro K _ hF hO
    refine VX10_offer_4 hG K (nI lx) (nI 0 + (-1)) ⟨fun _ => ?_, fun z => absurd (by decide) z⟩
    exact ⟨hF, hO.2.1, hO.2.2.1, fun c' h1 h2 h3 => hO.2.2.2 c' (Nat.zero_le _) h1 h2 h3⟩
  | succ d ih =>
    intro K hi hF hO
    rw [pk_m1]
    obtain ⟨o1, o2, o3, o4⟩ := hO
    have hTd : K 101 d = K0 101 d := o1 d (by omega)
    refine VX10_offer_4 hG K (nI lx) (nI d) ⟨fun z => absurd z (nI_pos (by omega)), fun _ => ?_⟩
    rw [nI_clamp (show d < 2 ^ 31 by omega), hTd]
    refine ⟨vp_in_nI (by omega) (by decide), fun hneg => ?_, fun hpos => ?_⟩
    · refine ih K (by omega) hF ⟨fun code hc => o1 code (by omega), o2, o3, fun c' h1 h2 h3 h4 => ?_⟩
      by_cases hcd : c' = d
      · subst hcd; exact absurd hneg h3
      · exact o4 c' (by omega) h2 h3 h4
    · obtain ⟨n, hn80, hn⟩ := hV d (by omega) hpos
      refine ⟨_, ZallIn hG K (show d < 28561 by omega), ?_⟩
      rintro v K1 ⟨rfl, rfl⟩
      have hal : allc d ≤ 48 := by unfold allc; omega
      refine pk_le B (allc d) (fun hge => ?_) (fun hlt => ?_) (by rw [hF 69 (by decide)]; exact hroom) rfl
      · refine ih K1 (by omega) hF ⟨fun code hc => o1 code (by omega), o2, o3, fun c' h1 h2 h3 h4 => ?_⟩
        by_cases hcd : c' = d
        · subst hcd; omega
        · exact o4 c' (by omega) h2 h3 h4
      · refine ⟨_, Zplace hG K1 hl, ?_⟩
        rintro v K2 ⟨rfl, rfl⟩
        have hto := to_lt (show d < 28561 by omega) hlt hB hl
        have hpp := plc_pos lx
        rw [nI_add, nI_clamp (show d + plc lx < 2 ^ 31 by omega), hTd]
        refine ⟨vp_in_nI hto (by decide), fun hle => ?_, fun hgt => ?_⟩
        · refine ih _ (by omega) (fun a ha => by rw [wI_ne _ _ _ ha, hF a ha]) ?_
          rw [wI_same, upd_self]
          refine ⟨fun code hc => o1 code (by omega), o2, o3, fun c' h1 h2 h3 h4 => ?_⟩
          by_cases hcd : c' = d
          · subst hcd; exact hle
          · exact o4 c' (by omega) h2 h3 h4
        · refine ih _ (by omega) (fun a ha => by rw [wI_ne _ _ _ ha, hF a ha]) ?_
          rw [wI_same]
          refine ⟨fun code hc => ?_, fun code hc => ?_, fun code hc hp => ?_, fun c' h1 h2 h3 h4 => ?_⟩
          · rw [upd_ne _ _ (by omega)]; exact o1 code (by omega)
          · by_cases hct : code = d + plc lx
            · subst hct; rw [upd_same]; exact Or.inr ⟨d, rfl, by omega, hpos, hlt, rfl⟩
            · rw [upd_ne _ _ hct]; exact o2 code hc
          · by_cases hct : code = d + plc lx
            · subst hct
              rw [upd_same]
              exact Int32.le_trans (o3 _ hc hp) (Int32.le_of_lt (Int32.not_le.mp hgt))
            · rw [upd_ne _ _ hct]; exact o3 code hc hp
          · by_cases hcd : c' = d
            · subst hcd; rw [upd_same]; exact Int32.le_refl _
            · rw [upd_ne _ _ (by omega)]; exact o4 c' (by omega) h2 h3 h4
theorem Zoff10 (hG : SH G) {K : xI} {lx B : Nat} (hl : lx < 4) (hB : B ≤ 12) (hroom : K 69 0 = nI B) (hV : VT (K 101)) : XF fV l C mX10_offer 0 (xent mX10_offer [.ref 69, .int (nI lx)]) [] G K (fun _ K' => (∀ a, a ≠ 101 → K' a = K a) ∧ OF (K 101) (K' 101) lx B) :=
  VX10_offer hG K (nI lx) (Loff10 hG hl hB hroom hV 28561 K (by omega) (fun _ _ => rfl) ⟨fun _ _ => rfl, fun _ _ => Or.inl rfl, fun _ _ _ => Int32.le_refl _, fun c' h1 h2 => absurd h2 (by omega)⟩)
/-- the givens that the table needs -/
def MB (K : xI) (E : aE) (rw : Nat) : Prop := K 69 1 = nI (E 0 0) ∧ K 69 0 = nI (E 0 1) ∧ (rw < 4 ∧ K 81 rw = nI (E 0 5)) ∧ (∀ k, k < E 0 5 → K 83 (80 * rw + k) = nI (E 9 k) ∧ K 82 (80 * rw + k) = nI (E 8 k)) ∧ (∀ j, j < E 0 0 → K 72 j = nI (E 3 j))
def FP (K K' : xI) : Prop := ∀ a, a ≠ 101 → a ≠ 102 → K' a = K a
theorem FP.trans {K1 K2 K3 : xI} (h1 : FP K1 K2) (h2 : FP K2 K3) : FP K1 K3 := fun a x y => (h2 a x y).trans (h1 a x y)
theorem MB_FP {K K' : xI} {E : aE} {rw : Nat} (h : MB K E rw) (f : FP K K') : MB K' E rw := by
  unfold MB at h ⊢
  rw [f 69 (by decide) (by decide), f 81 (by decide) (by decide), f 83 (by decide) (by decide), f 82 (by decide) (by decide), f 72 (by decide) (by decide)]
  exact h
theorem Lsv2 (hG : SH G) {K0 : xI} {x1 : Int32} {Q : Unit → xI → Prop} (hQ : ∀ K, (∀ a, a ≠ 102 → K a = K0 a) → (∀ c, c < 28561 → K 102 c = (-1)) → XF fV l C mX10_serve 24 [some (.ref 69), some (.int x1), some (.int 0), none, none] [] G K Q) : ∀ (k i : Nat), i ≤ 28561 → 28561 < i + k → ∀ K, (∀ a, a ≠ 102 → K a = K0 a) → (∀ c, c < i → K 102 c = (-1)) → XF fV l C mX10_serve 2 [some (.ref 69), some (.int x1), some (.int (nI i)), none, none] [] G K Q := by
  intro k
  induction k with
  | zero => intro i h1 h2; exact absurd h2 (by omega)
  | succ k ih =>
    intro i h1 h2 K hF hz
    refine VX10_serve_2 hG K x1 (nI i) (pk_le 28561 i (fun hle => ?_) (fun hlt => ?_) rfl rfl)
    · exact hQ K hF (fun c hc => hz c (by omega))
    · rw [nI_clamp (show i < 2 ^ 31 by omega)]
      refine ⟨vp_in_nI hlt (by decide), XF.to (ih (i + 1) (by omega) (by omega) _ (fun a ha => by rw [wI_ne _ _ _ ha, hF a ha]) (fun c hc => ?_)) (by rw [nI_succ]) rfl rfl⟩
      rw [wI_same]
      by_cases hci : c = i
      · subst hci; rw [upd_same]
      · rw [upd_ne _ _ hci]; exact hz c (by omega)
theorem Lsv139 (hG : SH G) {K0 : xI} {x1 : Int32} : ∀ (k i : Nat), i ≤ 28561 → 28561 < i + k → ∀ K, (∀ a, a ≠ 101 → K a = K0 a) → (∀ c, c < i → K 101 c = K0 102 c) → XF fV l C mX10_serve 139 [some (.ref 69), some (.int x1), some (.int (nI i)), none, none] [] G K (fun _ K' => (∀ a, a ≠ 101 → K' a = K0 a) ∧ ∀ c, c < 28561 → K' 101 c = K0 102 c) := by
  intro k
  induction k with
  | zero => intro i h1 h2; exact absurd h2 (by omega)
  | succ k ih =>
    intro i h1 h2 K hF hz
    refine VX10_serve_139 hG K x1 (nI i) (pk_le 28561 i (fun hle => ?_) (fun hlt => ?_) rfl rfl)
    · exact ⟨hF, fun c hc => hz c (by omega)⟩
    · rw [nI_clamp (show i < 2 ^ 31 by omega)]
      refine ⟨vp_in_nI hlt (by decide), XF.to (ih (i + 1) (by omega) (by omega) _ (fun a ha => by rw [wI_ne _ _ _ ha, hF a ha]) (fun c hc => ?_)) (by rw [nI_succ]) rfl rfl⟩
      rw [wI_same, hF 102 (by decide)]
      by_cases hci : c = i
      · subst hci; rw [upd_same]
      · rw [upd_ne _ _ hci]; exact hz c (by omega)
theorem svy_step {E : aE} {t i code : Nat} (hi : i < 4) : (dg code i = 0 ∨ ¬ (t + 1) % E 3 i = 0 → enc (svy E t (i + 1) code) = enc (svy E t i code)) ∧ (¬ dg code i = 0 → (t + 1) % E 3 i = 0 → enc (svy E t (i + 1) code) + plc i = enc (svy E t i code)) := by
  have hbase : svy E t i code i = dg code i := by unfold svy; rw [if_neg (by omega)]
  have hne : ∀ j, j ≠ i → svy E t (i + 1) code j = svy E t i code j := by
    intro j hj
    unfold svy
    by_cases hq : j < i ∧ (t + 1) % E 3 j = 0
    · rw [if_pos hq, if_pos ⟨by omega, hq.2⟩]
    · rw [if_neg hq, if_neg (fun z => hq ⟨by omega, z.2⟩)]
  have hu : svy E t (i + 1) code = uL (svy E t i code) i (svy E t (i + 1) code i) := by
    funext j
    by_cases hj : j = i
    · subst hj; rw [uL_at]
    · rw [uL_ne _ _ hj, hne j hj]
  have he := enc_uL (svy E t i code) (v := svy E t (i + 1) code i) hi
  rw [← hu, hbase] at he
  refine ⟨fun h => ?_, fun h1 h2 => ?_⟩
  · have : svy E t (i + 1) code i = dg code i := by
      unfold svy
      rcases h with h | h
      · split <;> omega
      · rw [if_neg (fun z => h z.2)]
    rw [this] at he
    omega
  · have : svy E t (i + 1) code i = dg code i - 1 := by unfold svy; rw [if_pos ⟨by omega, h2⟩]
    rw [this] at he
    have hm : plc i * dg code i = plc i * (dg code i - 1) + plc i := by
      rw [← Nat.mul_succ]
      congr 1
      omega
    omega
theorem svy_0 {E : aE} {t code : Nat} (hc : code < 28561) : enc (svy E t 0 code) = code := by
  have : svy E t 0 code = dg code := by funext j; unfold svy; rw [if_neg (by omega)]
  rw [this, enc_dg hc]
set_option maxHeartbeats 4000000 in
theorem Lsv45 (hG : SH G) {K : xI} {E : aE} {rw t code : Nat} (hE : EI E) (hM : MB K E rw) (ht : t < 40) (hc : code < 28561) {Q : Unit → xI → Prop}
    (hQ : XF fV l C mX10_serve 24 [some (.ref 69), some (.int (nI t)), some (.int (nI (code + 1))), none, none] [] G (wI K 102 (enc (svy E t (E 0 0) code)) (if K 101 code ≤ K 102 (enc (svy E t (E 0 0) code)) then K 102 (enc (svy E t (E 0 0) code)) else K 101 code)) Q) : ∀ (k i : Nat), i ≤ E 0 0 → E 0 0 < i + k → XF fV l C mX10_serve 45 [some (.ref 69), some (.int (nI t)), some (.int (nI code)), some (.int (nI (enc (svy E t i code)))), some (.int (nI i))] [] G K Q := by
  have hn4 := hE.2.1
  intro k
  induction k with
  | zero => intro i h1 h2; exact absurd h2 (by omega)
  | succ k ih =>
    intro i h1 h2
    have hlt0 := svy_lt E t i code
    refine VX10_serve_45 hG K (nI t) (nI code) (nI (enc (svy E t i code))) (nI i) (pk_le (E 0 0) i (fun hle => ?_) (fun hlt => ?_) hM.1 rfl)
    · have : i = E 0 0 := by omega
      subst this
      rw [nI_clamp (show code < 2 ^ 31 by omega), nI_clamp (show enc (svy E t (E 0 0) code) < 2 ^ 31 by omega)]
      refine ⟨vp_in_nI hc (by decide), vp_in_nI hlt0 (by decide), fun hc1 => ?_, fun hc1 => ?_⟩
      · rw [if_pos hc1] at hQ
        exact XF.to hQ (by rw [nI_succ]) rfl rfl
      · rw [if_neg hc1] at hQ
        exact XF.to hQ (by rw [nI_succ]) rfl rfl
    · have hi4 : i < 4 := by omega
      obtain ⟨s1, s2⟩ := svy_step (E := E) (t := t) (code := code) hi4
      obtain ⟨-, -, hpa, hpb, -⟩ := hE.2.2.2.2.2.2.1 i hlt
      have hd12 := dg_le code i
      refine ⟨_, ZlenIn hG K hc hi4, ?_⟩
      rintro v K1 ⟨rfl, rfl⟩
      rw [nI_clamp (show i < 2 ^ 31 by omega), hM.2.2.2.2 i hlt]
      have hzero : nI (enc (svy E t i code)) - 0 = nI (enc (svy E t i code)) := by rw [show (0 : Int32) = nI 0 from rfl, pk_sub (Nat.zero_le _), Nat.sub_zero]
      refine pk_le (dg code i) 0 (fun hz => ?_) (fun hz => ?_) rfl rfl (by omega) (by omega)
      · refine XF.to (ih (i + 1) (by omega) (by omega)) ?_ rfl rfl
        rw [s1 (Or.inl (by omega)), hzero, nI_succ]
      · refine ⟨vp_in_nI hi4 (by decide), nI_ne0 (by omega) (by omega), fun hr => ?_, fun hr => ?_⟩
        · have hr' := (sub_r (show t < 400 by omega) hpa hpb).mp hr
          refine ⟨_, Zplace hG K1 hi4, ?_⟩
          rintro v K2 ⟨rfl, rfl⟩
          have := s2 (by omega) hr'
          refine XF.to (ih (i + 1) (by omega) (by omega)) ?_ rfl rfl
          rw [← this, ← nI_add, nI_succ]
          rw [show nI (enc (svy E t (i + 1) code)) + nI (plc i) - nI (plc i) = nI (enc (svy E t (i + 1) code)) from by rw [nI_add, pk_sub (by omega), Nat.add_sub_cancel]]
        · have hr' : ¬ (t + 1) % E 3 i = 0 := fun z => hr ((sub_r (show t < 400 by omega) hpa hpb).mpr z)
          refine XF.to (ih (i + 1) (by omega) (by omega)) ?_ rfl rfl
          rw [s1 (Or.inr hr'), hzero, nI_succ]
def SVi (T A : Nat → Int32) (E : aE) (t i : Nat) : Prop := (∀ to, to < 28561 → ¬ A to < 0 → ∃ code, code < i ∧ ¬ T code < 0 ∧ enc (svy E t (E 0 0) code) = to ∧ A to = T code) ∧ (∀ code, code < i → ¬ T code < 0 → T code ≤ A (enc (svy E t (E 0 0) code)))
set_option maxHeartbeats 4000000 in
theorem Lsv24 (hG : SH G) {K0 : xI} {E : aE} {rw t : Nat} (hE : EI E) (hM0 : MB K0 E rw) (ht : t < 40) {Q : Unit → xI → Prop} (hQ : ∀ K, (∀ a, a ≠ 102 → K a = K0 a) → SVi (K0 101) (K 102) E t 28561 → XF fV l C mX10_serve 139 [some (.ref 69), some (.int (nI t)), some (.int 0), none, none] [] G K Q) : ∀ (k i : Nat), i ≤ 28561 → 28561 < i + k → ∀ K, (∀ a, a ≠ 102 → K a = K0 a) → SVi (K0 101) (K 102) E t i → XF fV l C mX10_serve 24 [some (.ref 69), some (.int (nI t)), some (.int (nI i)), none, none] [] G K Q := by
  intro k
  induction k with
  | zero => intro i h1 h2; exact absurd h2 (by omega)
  | succ k ih =>
    intro i h1 h2 K hF hS
    refine VX10_serve_24 hG K (nI t) (nI i) (pk_le 28561 i (fun hle => ?_) (fun hlt => ?_) rfl rfl)
    · have : i = 28561 := by omega
      subst this
      exact hQ K hF hS
    · rw [nI_clamp (show i < 2 ^ 31 by omega), hF 101 (by decide)]
      obtain ⟨s1, s2⟩ := hS
      refine ⟨vp_in_nI hlt (by decide), fun hneg => ?_, fun hpos => ?_⟩
      · refine XF.to (ih (i + 1) (by omega) (by omega) K hF ⟨fun to h3 h4 => ?_, fun code h3 h4 => ?_⟩) (by rw [nI_succ]) rfl rfl
        · obtain ⟨code, c1, c2⟩ := s1 to h3 h4
          exact ⟨code, by omega, c2⟩
        · by_cases hci : code = i
          · subst hci; exact absurd hneg h4
          · exact s2 code (by omega) h4
      · have hM : MB K E rw := MB_FP hM0 (fun a _ h => hF a h)
        refine XF.to (Lsv45 hG hE hM ht hlt ?_ (E 0 0 + 1) 0 (by omega) (by omega)) (by rw [svy_0 hlt]; rfl) rfl rfl
        have hsl := svy_lt E t (E 0 0) i
        refine ih (i + 1) (by omega) (by omega) _ (fun a ha => by rw [wI_ne _ _ _ ha, hF a ha]) ?_
        rw [wI_same, hF 101 (by decide)]
        refine ⟨fun to h3 h4 => ?_, fun code h3 h4 => ?_⟩
        · by_cases hto : to = enc (svy E t (E 0 0) i)
          · subst hto
            rw [upd_same] at h4 ⊢
            by_cases hle : K0 101 i ≤ K 102 (enc (svy E t (E 0 0) i))
            · rw [if_pos hle] at h4 ⊢
              obtain ⟨code, c1, c2⟩ := s1 _ h3 h4
              exact ⟨code, by omega, c2⟩
            · rw [if_neg hle]
              exact ⟨i, by omega, hpos, rfl, rfl⟩
          · rw [upd_ne _ _ hto] at h4 ⊢
            obtain ⟨code, c1, c2⟩ := s1 to h3 h4
            exact ⟨code, by omega, c2⟩
        · by_cases hci : code = i
          · subst hci
            rw [upd_same]
            split
            · assumption
            · exact Int32.le_refl _
          · have := s2 code (by omega) h4
            by_cases hto : enc (svy E t (E 0 0) code) = enc (svy E t (E 0 0) i)
            · rw [hto] at this ⊢
              rw [upd_same]
              split
              · exact this
              · next hn => exact Int32.le_trans this (Int32.le_of_lt (Int32.not_le.mp hn))
            · rw [upd_ne _ _ hto]; exact this
theorem Zserve (hG : SH G) {K : xI} {E : aE} {rw t : Nat} (hE : EI E) (hM : MB K E rw) (ht : t < 40) : XF fV l C mX10_serve 0 (xent mX10_serve [.ref 69, .int (nI t)]) [] G K (fun _ K' => FP K K' ∧ SV (K 101) (K' 101) E t) := by
  refine VX10_serve hG K (nI t) (Lsv2 hG (fun K1 f1 z1 => ?_) 28562 0 (by omega) (by omega) K (fun _ _ => rfl) (fun c hc => absurd hc (by omega)))
  have hM1 : MB K1 E rw := MB_FP hM (fun a _ h => f1 a h)
  refine Lsv24 hG hE hM1 ht (fun K2 f2 s2 => ?_) 28562 0 (by omega) (by omega) K1 (fun _ _ => rfl) ⟨fun to h3 h4 => absurd (by rw [z1 to h3]; decide) h4, fun code hc => absurd hc (by omega)⟩
  refine XF.mono (Lsv139 hG 28562 0 (by omega) (by omega) K2 (fun _ _ => rfl) (fun c hc => absurd hc (by omega))) ?_
  rintro - K3 ⟨f3, z3⟩
  refine ⟨fun a h1 h2 => by rw [f3 a h1, f2 a h2, f1 a h2], ?_⟩
  rw [f1 101 (by decide)] at s2
  refine ⟨fun to h3 h4 => ?_, fun code h3 h4 => ?_⟩
  · rw [z3 to h3] at h4 ⊢
    exact s2.1 to h3 h4
  · rw [z3 _ (svy_lt E t _ code)]
    exact s2.2 code h3 h4
end MBe
