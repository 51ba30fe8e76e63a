/-! line alike -/
section EQln
variable {l : Launch} {C : xC} {G G1 : xG} {I I' : xI}
def kc (k : Nat) : Nat := if k = 2 then 1 else if k = 1 then 8 else 2
def kn (k : Nat) : Nat := if k = 2 then 6 else if k = 1 then 3 else 2
theorem YX2_init2 {a : Nat} (ha : gO G a 2) (y : Int32) : XW l C mX2_init 0 (xent mX2_init [.ref a, .int y]) [] G I none G (wI (wI I a 1 1) a 0 y) := by
  show XW l C mX2_init 0 [some (.ref a), some (.int y)] [] G I _ _ _
  have ha2 := ha.1
  refine XW.aload_n eX2_init_0 rfl ?_
  refine XW.objInit eX2_init_1 oi2_3 (by omega) (Nat.le_of_ble_eq_true rfl) (Nat.le_of_ble_eq_true rfl) ?_
  refine XW.aload_n eX2_init_4 rfl ?_
  refine XW.iconst (v := 1) eX2_init_5 (by decide) ?_
  refine XW.putI eX2_init_6 f2_9_2 (xP_of rfl (by decide)) rfl ⟨rfl, rfl⟩ ha ?_
  refine XW.aload_n eX2_init_9 rfl ?_
  refine XW.iload_n eX2_init_10 rfl ?_
  refine XW.putI eX2_init_11 f2_15_2 (xP_of rfl (by decide)) rfl ⟨rfl, rfl⟩ ha ?_
  exact XW.vret eX2_init_14 rfl rfl rfl rfl
theorem YX2_init8 {a : Nat} (ha : gO G a 8) (y : Int32) : XW l C mX2_init 0 (xent mX2_init [.ref a, .int y]) [] G I none G (wI (wI I a 1 1) a 0 y) := by
  show XW l C mX2_init 0 [some (.ref a), some (.int y)] [] G I _ _ _
  have ha2 := ha.1
  refine XW.aload_n eX2_init_0 rfl ?_
  refine XW.objInit eX2_init_1 oi2_3 (by omega) (Nat.le_of_ble_eq_true rfl) (Nat.le_of_ble_eq_true rfl) ?_
  refine XW.aload_n eX2_init_4 rfl ?_
  refine XW.iconst (v := 1) eX2_init_5 (by decide) ?_
  refine XW.putI eX2_init_6 f2_9_8 (xP_of rfl (by decide)) rfl ⟨rfl, rfl⟩ ha ?_
  refine XW.aload_n eX2_init_9 rfl ?_
  refine XW.iload_n eX2_init_10 rfl ?_
  refine XW.putI eX2_init_11 f2_15_8 (xP_of rfl (by decide)) rfl ⟨rfl, rfl⟩ ha ?_
  exact XW.vret eX2_init_14 rfl rfl rfl rfl
theorem YX2_init1 {a : Nat} (ha : gO G a 1) (y : Int32) : XW l C mX2_init 0 (xent mX2_init [.ref a, .int y]) [] G I none G (wI (wI I a 1 1) a 0 y) := by
  show XW l C mX2_init 0 [some (.ref a), some (.int y)] [] G I _ _ _
  have ha2 := ha.1
  refine XW.aload_n eX2_init_0 rfl ?_
  refine XW.objInit eX2_init_1 oi2_3 (by omega) (Nat.le_of_ble_eq_true rfl) (Nat.le_of_ble_eq_true rfl) ?_
  refine XW.aload_n eX2_init_4 rfl ?_
  refine XW.iconst (v := 1) eX2_init_5 (by decide) ?_
  refine XW.putI eX2_init_6 f2_9_1 (xP_of rfl (by decide)) rfl ⟨rfl, rfl⟩ ha ?_
  refine XW.aload_n eX2_init_9 rfl ?_
  refine XW.iload_n eX2_init_10 rfl ?_
  refine XW.putI eX2_init_11 f2_15_1 (xP_of rfl (by decide)) rfl ⟨rfl, rfl⟩ ha ?_
  exact XW.vret eX2_init_14 rfl rfl rfl rfl
theorem YX8_init8 {a : Nat} (ha : gO G a 8) (y : Int32) : XW l C mX8_init 0 (xent mX8_init [.ref a, .int y]) [] G I none G (wI (wI (wI I a 1 1) a 0 y) a 2 1) := by
  show XW l C mX8_init 0 [some (.ref a), some (.int y)] [] G I _ _ _
  have ha2 := ha.1
  refine XW.aload_n eX8_init_0 rfl ?_
  refine XW.iload_n eX8_init_1 rfl ?_
  refine XW.callI (As := [.int y]) (st := []) eX8_init_2 okX2_init ci8_3 rfl (by omega) (YX2_init8 ha y) (xnum rfl rfl rfl rfl rfl) ?_
  refine XW.aload_n eX8_init_5 rfl ?_
  refine XW.iconst (v := 1) eX8_init_6 (by decide) ?_
  refine XW.putI eX8_init_7 f8_11_8 (xP_of rfl (by decide)) rfl ⟨rfl, rfl⟩ ha ?_
  exact XW.vret eX8_init_10 rfl rfl rfl rfl
theorem YX8_init1 {a : Nat} (ha : gO G a 1) (y : Int32) : XW l C mX8_init 0 (xent mX8_init [.ref a, .int y]) [] G I none G (wI (wI (wI I a 1 1) a 0 y) a 2 1) := by
  show XW l C mX8_init 0 [some (.ref a), some (.int y)] [] G I _ _ _
  have ha2 := ha.1
  refine XW.aload_n eX8_init_0 rfl ?_
  refine XW.iload_n eX8_init_1 rfl ?_
  refine XW.callI (As := [.int y]) (st := []) eX8_init_2 okX2_init ci8_3 rfl (by omega) (YX2_init1 ha y) (xnum rfl rfl rfl rfl rfl) ?_
  refine XW.aload_n eX8_init_5 rfl ?_
  refine XW.iconst (v := 1) eX8_init_6 (by decide) ?_
  refine XW.putI eX8_init_7 f8_11_1 (xP_of rfl (by decide)) rfl ⟨rfl, rfl⟩ ha ?_
  exact XW.vret eX8_init_10 rfl rfl rfl rfl
theorem YX1_init {a : Nat} (ha : gO G a 1) (y : Int32) : XW l C mX1_init 0 (xent mX1_init [.ref a, .int y]) [] G I none G (wI (wI (wI (wI (wI (wI I a 1 1) a 0 y) a 2 1) a 3 2) a 4 1) a 5 1) := by
  show XW l C mX1_init 0 [some (.ref a), some (.int y)] [] G I _ _ _
  have ha2 := ha.1
  refine XW.aload_n eX1_init_0 rfl ?_
  refine XW.iload_n eX1_init_1 rfl ?_
  refine XW.callI (As := [.int y]) (st := []) eX1_init_2 okX8_init ci1_3 rfl (by omega) (YX8_init1 ha y) (xnum rfl rfl rfl rfl rfl) ?_
  refine XW.aload_n eX1_init_5 rfl ?_
  refine XW.iconst (v := 2) eX1_init_6 (by decide) ?_
  refine XW.putI eX1_init_7 f1_9_1 (xP_of rfl (by decide)) rfl ⟨rfl, rfl⟩ ha ?_
  refine XW.aload_n eX1_init_10 rfl ?_
  refine XW.iconst (v := 1) eX1_init_11 (by decide) ?_
  refine XW.putI eX1_init_12 f1_15_1 (xP_of rfl (by decide)) rfl ⟨rfl, rfl⟩ ha ?_
  refine XW.aload_n eX1_init_15 rfl ?_
  refine XW.iconst (v := 1) eX1_init_16 (by decide) ?_
  refine XW.putI eX1_init_17 f1_18_1 (xP_of rfl (by decide)) rfl ⟨rfl, rfl⟩ ha ?_
  exact XW.vret eX1_init_20 rfl rfl rfl rfl
theorem ZnewLine (h95 : 103 ≤ gN G) {k : Nat} (hk : k ≤ 2) (y2 : Int32) : ∃ I1, XW l C mX9_newLine 0 (xent mX9_newLine [.int (nI k), .int y2]) [] G I (some (.ref (gN G))) (aO G (kc k) (kn k)) I1 ∧ (∀ a, a ≠ gN G → I1 a = I a) ∧ I1 (gN G) 0 = y2 ∧ I1 (gN G) 1 = 1 ∧ (k ≠ 0 → I1 (gN G) 2 = 1) ∧ (k = 2 → I1 (gN G) 3 = 2 ∧ I1 (gN G) 4 = 1 ∧ I1 (gN G) 5 = 1) := by
  have o1 : ∀ c n, gO (aO G c n) (gN G) c := fun c n => ⟨by omega, by rw [aO_N]; omega, aO_T _ _ _⟩
  rcases (show k = 0 ∨ k = 1 ∨ k = 2 by omega) with rfl | rfl | rfl
  · refine ⟨(wI (wI (wN I (gN G)) (gN G) 1 1) (gN G) 0 y2), ?_, fun a ha => by simp only [wI_ne _ _ _ ha, wN_ne _ ha], by simp [wI, upd], by simp [wI, upd], fun q => by exact absurd rfl q, fun q => by exact absurd q (by decide)⟩
    show XW l C mX9_newLine 0 [some (.int (nI 0)), some (.int y2)] [] G I _ _ _
    refine XW.iload_n eX9_newLine_0 rfl ?_
    refine XW.iconst (v := 2) eX9_newLine_1 (by decide) ?_
    refine XW.icmp_ne eX9_newLine_2 (fun _ => ?_) (fun c => absurd c (by decide))
    refine XW.iload_n eX9_newLine_14 rfl ?_
    refine XW.iconst (v := 1) eX9_newLine_15 (by decide) ?_
    refine XW.icmp_ne eX9_newLine_16 (fun _ => ?_) (fun c => absurd c (by decide))
    refine XW.new eX9_newLine_30 nw9_82 ⟨Nat.le_refl _, Nat.le_refl _⟩ ?_
    refine XW.dup eX9_newLine_33 rfl ?_
    refine XW.iload_n eX9_newLine_34 rfl ?_
    refine XW.callI (As := [.int y2]) (st := [.ref (gN G)]) eX9_newLine_35 okX2_init ci9_230 rfl (by omega) (YX2_init2 (o1 _ _) y2) (xnumG rfl rfl rfl rfl rfl (Nat.le_refl _) (Nat.le_refl _) (Nat.le_refl _) (Nat.le_refl _)) ?_
    exact XW.aret eX9_newLine_38 rfl (Or.inl ⟨_, rfl⟩) rfl rfl rfl
  · refine ⟨(wI (wI (wI (wN I (gN G)) (gN G) 1 1) (gN G) 0 y2) (gN G) 2 1), ?_, fun a ha => by simp only [wI_ne _ _ _ ha, wN_ne _ ha], by simp [wI, upd], by simp [wI, upd], fun q => by simp [wI, upd], fun q => by exact absurd q (by decide)⟩
    show XW l C mX9_newLine 0 [some (.int (nI 1)), some (.int y2)] [] G I _ _ _
    refine XW.iload_n eX9_newLine_0 rfl ?_
    refine XW.iconst (v := 2) eX9_newLine_1 (by decide) ?_
    refine XW.icmp_ne eX9_newLine_2 (fun _ => ?_) (fun c => absurd c (by decide))
    refine XW.iload_n eX9_newLine_14 rfl ?_
    refine XW.iconst (v := 1) eX9_newLine_15 (by decide) ?_
    refine XW.icmp_ne eX9_newLine_16 (fun c => absurd (by decide) c) (fun _ => ?_)
    refine XW.new eX9_newLine_19 nw9_64 ⟨Nat.le_refl _, Nat.le_refl _⟩ ?_
    refine XW.dup eX9_newLine_22 rfl ?_
    refine XW.iload_n eX9_newLine_23 rfl ?_
    refine XW.callI (As := [.int y2]) (st := [.ref (gN G)]) eX9_newLine_24 okX8_init ci9_229 rfl (by omega) (YX8_init8 (o1 _ _) y2) (xnumG rfl rfl rfl rfl rfl (Nat.le_refl _) (Nat.le_refl _) (Nat.le_refl _) (Nat.le_refl _)) ?_
    refine XW.goto eX9_newLine_27 ?_
    exact XW.aret eX9_newLine_38 rfl (Or.inl ⟨_, rfl⟩) rfl rfl rfl
  · refine ⟨(wI (wI (wI (wI (wI (wI (wN I (gN G)) (gN G) 1 1) (gN G) 0 y2) (gN G) 2 1) (gN G) 3 2) (gN G) 4 1) (gN G) 5 1), ?_, fun a ha => by simp only [wI_ne _ _ _ ha, wN_ne _ ha], by simp [wI, upd], by simp [wI, upd], fun q => by simp [wI, upd], fun q => by simp [wI, upd]⟩
    show XW l C mX9_newLine 0 [some (.int (nI 2)), some (.int y2)] [] G I _ _ _
    refine XW.iload_n eX9_newLine_0 rfl ?_
    refine XW.iconst (v := 2) eX9_newLine_1 (by decide) ?_
    refine XW.icmp_ne eX9_newLine_2 (fun c => absurd (by decide) c) (fun _ => ?_)
    refine XW.new eX9_newLine_5 nw9_92 ⟨Nat.le_refl _, Nat.le_refl _⟩ ?_
    refine XW.dup eX9_newLine_8 rfl ?_
    refine XW.iload_n eX9_newLine_9 rfl ?_
    refine XW.callI (As := [.int y2]) (st := [.ref (gN G)]) eX9_newLine_10 okX1_init ci9_226 rfl (by omega) (YX1_init (o1 _ _) y2) (xnumG rfl rfl rfl rfl rfl (Nat.le_refl _) (Nat.le_refl _) (Nat.le_refl _) (Nat.le_refl _)) ?_
    exact XW.aret eX9_newLine_13 rfl (Or.inl ⟨_, rfl⟩) rfl rfl rfl
theorem ZaddLine (hG : SH G) {n a c : Nat} {q : vw_C} (hb : gO G a c) (hc : vwCl[c]? = some q) (hy : q.1 = "LetterStore$Line" ∨ (q.1, "LetterStore$Line") ∈ xYes) (hI : I 3 1 = nI n) (hn : n < 4) : XW l C mX6_addLine 0 (xent mX6_addLine [.ref 3, .ref a]) [] G I (some (.int (nI n))) (wR G 4 n a) (wI I 3 1 (nI (n + 1))) := by
  show XW l C mX6_addLine 0 [some (.ref 3), some (.ref a), none] [] G I _ _ _
  have gx : GX G (wR G 4 n a) := GX_wR4 n a
  refine XW.aload_n eX6_addLine_0 rfl ?_
  refine XW.getI eX6_addLine_1 f6_17_6 rfl (so_3 hG) ?_
  rw [hI]
  refine XW.istore_n (ls' := [some (.ref 3), some (.ref a), some (.int (nI n))]) eX6_addLine_4 (Nat.le_of_ble_eq_true rfl) rfl ?_
  refine XW.aload_n eX6_addLine_5 rfl ?_
  refine XW.getR (b := 4) eX6_addLine_6 f6_11_6 rfl (so_3 hG) (sr_3_0 hG) ?_
  refine XW.iload_n eX6_addLine_9 rfl ?_
  refine XW.aload_n eX6_addLine_10 rfl ?_
  refine XW.aastore (c := c) eX6_addLine_11 (sa_4 hG) rfl (by decide) (vp_in_nI hn (by decide)) hb hc hy ?_
  rw [nI_clamp (by omega)]
  refine XW.aload_n eX6_addLine_12 rfl ?_
  refine XW.dup eX6_addLine_13 rfl ?_
  refine XW.getI eX6_addLine_14 f6_17_6 rfl (gx.gO (so_3 hG)) ?_
  rw [hI]
  refine XW.iconst (v := 1) eX6_addLine_17 (by decide) ?_
  refine XW.iadd eX6_addLine_18 ?_
  rw [nI_1]
  refine XW.putI eX6_addLine_19 f6_17_6 (xP_of rfl (by decide)) rfl ⟨rfl, rfl⟩ (gx.gO (so_3 hG)) ?_
  refine XW.iload_n eX6_addLine_22 rfl ?_
  exact XW.iret eX6_addLine_23 rfl rfl rfl rfl rfl
def newD (D : aE) (k m : Nat) : aE := fun x i => if i = D 0 0 ∧ 1 ≤ x ∧ x ≤ 7 then (if x = 1 then k else if x = 2 then m else if x = 5 then 2 else 1) else if x = 0 ∧ i = 0 then D 0 0 + 1 else D x i
theorem newD_00 (D : aE) (k m : Nat) : newD D k m 0 0 = D 0 0 + 1 := by unfold newD; rw [if_neg (by omega), if_pos ⟨rfl, rfl⟩]
theorem newD_0 (D : aE) (k m : Nat) {i : Nat} (h : i ≠ 0) : newD D k m 0 i = D 0 i := by unfold newD; rw [if_neg (by omega), if_neg (by omega)]
theorem newD_n (D : aE) (k m : Nat) {x : Nat} (h : 1 ≤ x ∧ x ≤ 7) : newD D k m x (D 0 0) = if x = 1 then k else if x = 2 then m else if x = 5 then 2 else 1 := by unfold newD; rw [if_pos ⟨rfl, h⟩]
theorem newD_j (D : aE) (k m : Nat) {x j : Nat} (h : 1 ≤ x) (hj : j ≠ D 0 0) : newD D k m x j = D x j := by unfold newD; rw [if_neg (by omega), if_neg (by omega)]
theorem newD_x (D : aE) (k m : Nat) {x : Nat} (h : 8 ≤ x) : newD D k m x = D x := by funext i; unfold newD; rw [if_neg (by omega), if_neg (by omega)]
theorem psum_ext {D E : aE} : ∀ n, (∀ j, j < n → D 1 j = E 1 j ∧ D 4 j = E 4 j) → psum D n = psum E n := by
  intro n
  induction n with
  | zero => intro _; rfl
  | succ n ih =>
    intro h
    unfold psum sPart
    rw [ih (fun j hj => h j (by omega)), (h n (by omega)).1, (h n (by omega)).2]
set_option maxHeartbeats 4000000 in
theorem REL_addline (h : REL G I) {D : aE} (hL : RLn G I D) (hR : RRw I D) {k m sl : Nat} (hk : k ≤ 2) (hm : m ≤ 12) (hn : D 0 0 < 4) (hp : psum D (D 0 0) + (if k = 0 then 0 else 1) ≤ D 0 1) {J : xI} (j3 : J 3 = upd (I 3) 1 (nI (D 0 0 + 1))) (j61 : J 69 = upd (I 69) 1 (nI (D 0 0 + 1))) (j62 : J 70 = upd (I 70) (D 0 0) (nI k)) (j63 : J 71 = upd (I 71) (D 0 0) (nI m)) (j64 : J 72 = upd (I 72) (D 0 0) 1) (j65 : J 73 = upd (I 73) (D 0 0) 1) (j66 : J 74 = upd (I 74) (D 0 0) 2) (j67 : J 75 = upd (I 75) (D 0 0) 1) (j68 : J 76 = upd (I 76) (D 0 0) 1) (jo : ∀ x, x < gN G → x ≠ 3 → (x < 69 ∨ 76 < x) → J x = I x) (n0 : J (gN G) 0 = nI m) (n1 : J (gN G) 1 = 1) (n2 : k ≠ 0 → J (gN G) 2 = 1) (n3 : k = 2 → J (gN G) 3 = 2 ∧ J (gN G) 4 = 1 ∧ J (gN G) 5 = 1) : REL (wR (aO G (kc k) sl) 4 (D 0 0) (gN G)) J := by
  obtain ⟨hG, D0, -, -, hT, hN, hV, hQ⟩ := h
  have h95 := hG.1
  have gx : GX G (wR (aO G (kc k) sl) 4 (D 0 0) (gN G)) := (GX_aO _ _).trans (GX_wR4 _ _)
  obtain ⟨a1, a2, a3, a4, a5, a6, a7, a8⟩ := hL
  have q4 : ∀ j, j ≠ D 0 0 → gR (wR (aO G (kc k) sl) 4 (D 0 0) (gN G)) 4 j = gR G 4 j := fun j hj => by rw [wR_k _ _ hj, aO_Rn _ _ _ (by omega)]
  have q4n : gR (wR (aO G (kc k) sl) 4 (D 0 0) (gN G)) 4 (D 0 0) = gN G := wR_at _ _ _ _
  have tn : gT (wR (aO G (kc k) sl) 4 (D 0 0) (gN G)) (gN G) = kc k := by rw [wR_T]; exact aO_T _ _ _
  have lo : ∀ x, x < 103 → x ≠ 3 → (x < 69 ∨ 76 < x) → J x = I x := fun x hx => jo x (by omega)
  have lk : ∀ j, j < D 0 0 + 1 → j ≠ D 0 0 → j < D 0 0 := fun j h1 h2 => by omega
  refine ⟨gx.SH hG, newD D k m, ⟨?_, ?_, ?_, ?_, ?_, ?_, ?_, ?_⟩, ?_, RT_ext hT (fun a ha => lo a (by omega) (by omega) (by omega)), RN_ext hN (by rw [lo 2 (by decide) (by decide) (by decide)]) (fun a ha => lo a (by omega) (by omega) (by omega)) (fun i hi => by rw [j61, upd_ne _ _ (by omega)]) (fun a z1 z2 => lo a (by omega) (by omega) (by omega)), by rw [lo 2 (by decide) (by decide) (by decide), j61, upd_ne _ _ (by decide)]; exact hV, RQ0_ext hQ (fun a ha => lo a (by omega) (by omega) (by omega))⟩
  · rw [newD_00, newD_0 _ _ _ (by decide), newD_0 _ _ _ (by decide)]
    exact ⟨by omega, by omega, a1.2.2⟩
  · rw [newD_00, newD_0 _ _ _ (by decide), newD_0 _ _ _ (by decide), j61, upd_same, upd_ne _ _ (by decide), upd_ne _ _ (by decide)]
    exact ⟨rfl, a2.2⟩
  · rw [newD_00, newD_0 _ _ _ (by decide), newD_0 _ _ _ (by decide), j3, upd_same, upd_ne _ _ (by decide), upd_ne _ _ (by decide)]
    exact ⟨rfl, a3.2⟩
  · rw [newD_00]
    intro j hj
    by_cases e : j = D 0 0
    · subst e
      rw [newD_n _ _ _ (by decide), newD_n _ _ _ (by decide), newD_n _ _ _ (by decide), newD_n _ _ _ (by decide), newD_n _ _ _ (by decide), newD_n _ _ _ (by decide), newD_n _ _ _ (by decide)]
      exact ⟨hk, hm, (by decide : 1 ≤ 1), (by decide : 1 ≤ 5), (by decide : 1 ≤ 12), (by decide : 2 ≤ 12), (by decide : 1 ≤ 12), (by decide : 1 ≤ 5)⟩
    · simp only [newD_j D k m (show 1 ≤ 1 by omega) e, newD_j D k m (show 1 ≤ 2 by omega) e, newD_j D k m (show 1 ≤ 3 by omega) e, newD_j D k m (show 1 ≤ 4 by omega) e, newD_j D k m (show 1 ≤ 5 by omega) e, newD_j D k m (show 1 ≤ 6 by omega) e, newD_j D k m (show 1 ≤ 7 by omega) e]
      exact a4 j (lk j hj e)
  · rw [newD_00]
    intro j hj
    rw [j62, j63, j64, j65, j66, j67, j68]
    by_cases e : j = D 0 0
    · subst e
      rw [newD_n _ _ _ (by decide), newD_n _ _ _ (by decide), newD_n _ _ _ (by decide), newD_n _ _ _ (by decide), newD_n _ _ _ (by decide), newD_n _ _ _ (by decide), newD_n _ _ _ (by decide)]
      simp only [upd_same]
      exact ⟨rfl, rfl, rfl, rfl, rfl, rfl, rfl⟩
    · simp only [newD_j D k m (show 1 ≤ 1 by omega) e, newD_j D k m (show 1 ≤ 2 by omega) e, newD_j D k m (show 1 ≤ 3 by omega) e, newD_j D k m (show 1 ≤ 4 by omega) e, newD_j D k m (show 1 ≤ 5 by omega) e, newD_j D k m (show 1 ≤ 6 by omega) e, newD_j D k m (show 1 ≤ 7 by omega) e, upd_ne _ _ e]
      exact a5 j (lk j hj e)
  · rw [newD_00]
    intro j hj
    by_cases e : j = D 0 0
    · subst e
      rw [q4n, tn, newD_n _ _ _ (by decide), newD_n _ _ _ (by decide), newD_n _ _ _ (by decide), newD_n _ _ _ (by decide), newD_n _ _ _ (by decide), newD_n _ _ _ (by decide), newD_n _ _ _ (by decide)]
      have go : ∀ c, kc k = c → gO (wR (aO G (kc k) sl) 4 (D 0 0) (gN G)) (gN G) c := fun c hc => ⟨by omega, by rw [wR_N, aO_N]; omega, tn.trans hc⟩
      refine ⟨?_, Or.inr h95, ?_, ?_, n0, n1, n2, n3⟩
      · rcases (show k = 0 ∨ k = 1 ∨ k = 2 by omega) with e | e | e
        · exact Or.inl (go 2 (by rw [e]; rfl))
        · exact Or.inr (Or.inl (go 8 (by rw [e]; rfl)))
        · exact Or.inr (Or.inr (go 1 (by rw [e]; rfl)))
      · show kc k = 2 ↔ k = 0
        rcases (show k = 0 ∨ k = 1 ∨ k = 2 by omega) with e | e | e <;> rw [e] <;> decide
      · show kc k = 1 ↔ k = 2
        rcases (show k = 0 ∨ k = 1 ∨ k = 2 by omega) with e | e | e <;> rw [e] <;> decide
    · obtain ⟨b1, b2, b3⟩ := a6 j (lk j hj e)
      have bn := LN_N b1
      simp only [newD_j D k m (show 1 ≤ 1 by omega) e, newD_j D k m (show 1 ≤ 2 by omega) e, newD_j D k m (show 1 ≤ 3 by omega) e, newD_j D k m (show 1 ≤ 4 by omega) e, newD_j D k m (show 1 ≤ 5 by omega) e, newD_j D k m (show 1 ≤ 6 by omega) e, newD_j D k m (show 1 ≤ 7 by omega) e, q4 j e]
      rw [(gx.2 _ bn).1, jo _ bn (by omega) (by omega)]
      exact ⟨gx.LN b1, b2, b3⟩
  · rw [newD_00]
    intro i j hi hj he
    by_cases e : i = D 0 0
    · by_cases e2 : j = D 0 0
      · omega
      · rw [e, q4n, q4 j e2] at he
        have := LN_N (a6 j (lk j hj e2)).1
        omega
    · by_cases e2 : j = D 0 0
      · rw [e2, q4n, q4 i e] at he
        have := LN_N (a6 i (lk i hi e)).1
        omega
      · rw [q4 i e, q4 j e2] at he
        exact a7 i j (lk i hi e) (lk j hj e2) he
  · rw [newD_00, newD_0 _ _ _ (by decide)]
    unfold psum sPart
    rw [psum_ext (E := D) (D 0 0) (fun j hj => ⟨newD_j _ _ _ (by decide) (by omega), newD_j _ _ _ (by decide) (by omega)⟩), newD_n _ _ _ (by decide), newD_n _ _ _ (by decide)]
    exact hp
  · intro r hr
    obtain ⟨b1, b2, b3, b4, b5, b6⟩ := hR r hr
    rw [newD_x D k m (show 8 ≤ 20 by omega), newD_x D k m (show 8 ≤ 21 by omega), newD_x D k m (show 8 ≤ 30 + r by omega), newD_x D k m (show 8 ≤ 40 + r by omega), newD_00, lo 81 (by decide) (by decide) (by decide), lo 82 (by decide) (by decide) (by decide), lo 83 (by decide) (by decide) (by decide), lo 84 (by decide) (by decide) (by decide), lo (49 + 3 * r) (by omega) (by omega) (by omega), lo (49 + 3 * r + 1) (by omega) (by omega) (by omega), lo (49 + 3 * r + 2) (by omega) (by omega) (by omega)]
    exact ⟨b1, b2, b3, fun i hi => ⟨by have := (b4 i hi).1; omega, (b4 i hi).2⟩, b5, b6⟩
end EQln
