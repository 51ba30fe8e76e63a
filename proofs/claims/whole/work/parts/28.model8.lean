/-! the reference: comes -/
theorem tPush_79 (I : xI) (lo : Nat) (k : Int32) : tPush I lo k 87 = I 87 := by
  unfold tPush tX10_ends
  rw [wI_ne _ _ _ (by decide), wI_ne _ _ _ (by decide), wI_ne _ _ _ (by decide), wI_ne _ _ _ (by decide)]
theorem tPush_78 (I : xI) (lo : Nat) (k : Int32) : tPush I lo k 86 = upd (I 86) lo (I 86 lo - 1) := by
  unfold tPush tX10_ends
  rw [wI_ne _ _ _ (by decide), wI_ne _ _ _ (by decide), wI_ne _ _ _ (by decide), wI_same]
theorem takes_cases (I : xI) (n : Nat) (k : Int32) (lx : Nat) : tX10_takes I n k lx = I ∨ (tX10_takes I n k lx = tPush I (mLg I (n - 1)) k ∧ I 86 lx + 1 < I 86 (mLg I (n - 1))) := by
  unfold tX10_takes
  repeat' (first | exact Or.inl rfl | (exact Or.inr ⟨rfl, by assumption⟩) | split)
theorem takes_79 (I : xI) (n : Nat) (k : Int32) (lx : Nat) : tX10_takes I n k lx 87 = I 87 := by
  rcases takes_cases I n k lx with h | ⟨h, -⟩ <;> rw [h]
  exact tPush_79 _ _ _
theorem takes_78 {I : xI} {n lx : Nat} (k : Int32) (h1 : 1 ≤ n) (h4 : n ≤ 4) (hq : mQ I) (hl : lx < 4) : tX10_takes I n k lx 86 lx = I 86 lx := by
  rcases takes_cases I n k lx with h | ⟨h, hc⟩ <;> rw [h]
  obtain ⟨st, ln, kk, q0, q1, q2, q3, hkk, q5, q6⟩ := takes_facts h1 h4 hq hl hc
  rw [tPush_78, upd_ne _ _ (Ne.symm q6)]
def grm (ln f : Nat → Int32) (i : Nat) : Nat → Int32 := fun j => if j < i then (if ln j ≤ f j then f j else ln j) else f j
theorem grm_0 (ln f : Nat → Int32) : grm ln f 0 = f := by
  funext j
  unfold grm
  rw [if_neg (by omega)]
theorem grm_succ (ln f : Nat → Int32) (i : Nat) : upd (grm ln f i) i (if ln i ≤ f i then f i else ln i) = grm ln f (i + 1) := by
  funext j
  unfold upd grm
  by_cases h : j = i
  · subst h
    have h3 : j < j + 1 := by omega
    rw [if_pos rfl]
    simp only [h3, if_true]
  · rw [if_neg h]
    by_cases h2 : j < i
    · have h3 : j < i + 1 := by omega
      simp only [h2, h3, if_true]
    · have h3 : ¬ j < i + 1 := by omega
      simp only [h2, h3, if_false]
theorem grm_at (ln f : Nat → Int32) {i j : Nat} (h : i ≤ j) : grm ln f i j = f j := by
  unfold grm
  rw [if_neg (by omega)]
/-- the letter is taken: at the end of its line -/
def mTake (J : xI) (k lx : Nat) : xI := wI (wI (wI (wI J 85 (80 * nI lx + J 87 lx + J 86 lx).toNatClampNeg (nI k)) 86 lx (J 86 lx + 1)) 91 k 0) 92 k 400
def mGr (J : xI) : xI := wI (wA J 94 (grm (J 86) (J 94) 4)) 94 4 (if sX10_all J ≤ J 94 4 then J 94 4 else sX10_all J)
def tX10_comes (I : xI) (n k lx : Nat) : xI := mGr (if sX10_takes I n (nI k) lx = 0 then tX10_ends (tX10_takes I n (nI k) lx) k 1 else mTake (tX10_takes I n (nI k) lx) k lx)
set_option maxRecDepth 100000 in
set_option maxHeartbeats 4000000 in
theorem LX10_comes {l : Launch} {C : xC} {G : xG} (hs : SH G) (J : xI) {k lx : Nat} {r : Option Value} {I' : xI} (kx : XW l C mX10_comes 132 [some (.ref 69), some (.int (nI k)), some (.int (nI lx)), some (.int (nI 4))] [] G (wA J 94 (grm (J 86) (J 94) 4)) r G I') : ∀ (kk i : Nat), i ≤ 4 → 4 < i + kk → XW l C mX10_comes 85 [some (.ref 69), some (.int (nI k)), some (.int (nI lx)), some (.int (nI i))] [] G (wA J 94 (grm (J 86) (J 94) i)) r G I' := by
  intro kk
  induction kk with
  | zero =>
    intro i h1 h2
    exact absurd h2 (by omega)
  | succ kk ih =>
    intro i h1 h2
    refine XW.iload_n eX10_comes_85 rfl ?_
    refine XW.iconst (v := 4) eX10_comes_86 (by decide) ?_
    refine XW.icmp_ge eX10_comes_87 (fun c_87 => ?_) (fun c_87 => ?_)
    ·
      have hi : ¬ i < 4 := fun h => nI_ge h (by omega) c_87
      have hi2 : i = 4 := by omega
      subst hi2
      exact kx
    ·
      have hi : i < 4 := Nat.lt_of_not_le (fun h => c_87 (by rw [show (4 : Int32) = nI 4 from rfl]; exact nI_le h (by omega)))
      have hcl : (nI i).toNatClampNeg = i := nI_clamp (by omega)
      refine XW.aload_n eX10_comes_90 rfl ?_
      refine XW.getR (b := 94) eX10_comes_91 f10_93_10 rfl (so_69 hs) (sr_69_32 hs) ?_
      refine XW.iload_n eX10_comes_94 rfl ?_
      refine XW.aload_n eX10_comes_95 rfl ?_
      refine XW.getR (b := 86) eX10_comes_96 f10_69_10 rfl (so_69 hs) (sr_69_24 hs) ?_
      refine XW.iload_n eX10_comes_99 rfl ?_
      refine XW.iaload eX10_comes_100 (sa_86 hs) (vp_in_nI (by omega) (by decide)) ?_
      refine XW.aload_n eX10_comes_101 rfl ?_
      refine XW.getR (b := 94) eX10_comes_102 f10_93_10 rfl (so_69 hs) (sr_69_32 hs) ?_
      refine XW.iload_n eX10_comes_105 rfl ?_
      refine XW.iaload eX10_comes_106 (sa_94 hs) (vp_in_nI (by omega) (by decide)) ?_
      refine XW.icmp_le eX10_comes_107 (fun c_107 => ?_) (fun c_107 => ?_)
      ·
        skip
        refine XW.aload_n eX10_comes_119 rfl ?_
        refine XW.getR (b := 94) eX10_comes_120 f10_93_10 rfl (so_69 hs) (sr_69_32 hs) ?_
        refine XW.iload_n eX10_comes_123 rfl ?_
        refine XW.iaload eX10_comes_124 (sa_94 hs) (vp_in_nI (by omega) (by decide)) ?_
        refine XW.iastore eX10_comes_125 (sa_94 hs) (vp_in_nI (by omega) (by decide)) ?_
        refine XW.iinc (y := ((nI i) + 1)) (ls' := [some (.ref 69), some (.int (nI k)), some (.int (nI lx)), some (.int ((nI i) + 1))]) eX10_comes_126 rfl rfl rfl ?_
        refine XW.goto eX10_comes_129 ?_
        exact XW.to (ih (i + 1) (by omega) (by omega)) (by rw [nI_succ]) rfl (by simp only [hcl, wA_same, wA_ne _ _ (show (86 : Nat) ≠ 94 by decide), grm_at _ _ (Nat.le_refl i)] at *; rw [wI_wA, ← grm_succ]; (try rw [if_pos c_107]);)
      ·
        skip
        refine XW.aload_n eX10_comes_110 rfl ?_
        refine XW.getR (b := 86) eX10_comes_111 f10_69_10 rfl (so_69 hs) (sr_69_24 hs) ?_
        refine XW.iload_n eX10_comes_114 rfl ?_
        refine XW.iaload eX10_comes_115 (sa_86 hs) (vp_in_nI (by omega) (by decide)) ?_
        refine XW.goto eX10_comes_116 ?_
        refine XW.iastore eX10_comes_125 (sa_94 hs) (vp_in_nI (by omega) (by decide)) ?_
        refine XW.iinc (y := ((nI i) + 1)) (ls' := [some (.ref 69), some (.int (nI k)), some (.int (nI lx)), some (.int ((nI i) + 1))]) eX10_comes_126 rfl rfl rfl ?_
        refine XW.goto eX10_comes_129 ?_
        exact XW.to (ih (i + 1) (by omega) (by omega)) (by rw [nI_succ]) rfl (by simp only [hcl, wA_same, wA_ne _ _ (show (86 : Nat) ≠ 94 by decide), grm_at _ _ (Nat.le_refl i)] at *; rw [wI_wA, ← grm_succ]; (try rw [if_neg c_107]);)
theorem all_86 (J : xI) (f : Nat → Int32) : sX10_all (wA J 94 f) = sX10_all J := by unfold sX10_all; rw [wA_ne _ _ (by decide)]
set_option maxRecDepth 100000 in
set_option maxHeartbeats 4000000 in
theorem YX10_comes {l : Launch} {C : xC} {G : xG} (hs : SH G) (I : xI) {n : Nat} (hn : I 69 1 = nI n) (h1 : 1 ≤ n) (h4 : n ≤ 4) (hq : mQ I) {rw k lx : Nat} (hrw : I 69 18 = nI rw) (hr4 : rw < 4) (hk : k < 80) (hln : I 83 (80 * rw + k) = nI lx) (hl : lx < 4) (hrm : ∀ s m : Nat, I 87 lx = nI s → I 86 lx = nI m → s ≤ 80 → m ≤ 80 → s + m ≤ 79) : XW l C mX10_comes 0 (xent mX10_comes [.ref 69, .int (nI k)]) [] G I none G (tX10_comes I n k lx) := by
  show XW l C mX10_comes 0 [some (.ref 69), some (.int (nI k)), none, none] [] G I _ G _
  have kl : (nI lx).toNatClampNeg = lx := nI_clamp (by omega)
  have kk0 : (nI k).toNatClampNeg = k := nI_clamp (by omega)
  refine XW.aload_n eX10_comes_0 rfl ?_
  refine XW.getR (b := 83) eX10_comes_1 f10_59_10 rfl (so_69 hs) (sr_69_16 hs) ?_
  refine XW.bipush (v := 80) eX10_comes_4 (by decide) ?_
  refine XW.aload_n eX10_comes_6 rfl ?_
  refine XW.getI eX10_comes_7 f10_170_10 rfl (so_69 hs) ?_
  refine XW.imul eX10_comes_10 ?_
  refine XW.iload_n eX10_comes_11 rfl ?_
  refine XW.iadd eX10_comes_12 ?_
  refine XW.iaload eX10_comes_13 (sa_83 hs) (by rw [hrw, show (80 : Int32) = nI 80 from rfl, pk_mul, nI_add]; exact vp_in_nI (by omega) (by decide)) ?_
  refine XW.istore_n (ls' := [some (.ref 69), some (.int (nI k)), some (.int (I 83 ((80 * (I 69 18)) + (nI k)).toNatClampNeg)), none]) eX10_comes_14 (Nat.le_of_ble_eq_true rfl) rfl ?_
  refine XW.to (ls2 := [some (.ref 69), some (.int (nI k)), some (.int (nI lx)), none]) (st2 := []) (I2 := I) ?_ (by rw [hrw, show (80 : Int32) = nI 80 from rfl, pk_mul, nI_add, nI_clamp (by omega), hln]) rfl rfl
  refine XW.aload_n eX10_comes_15 rfl ?_
  refine XW.iload_n eX10_comes_16 rfl ?_
  refine XW.iload_n eX10_comes_17 rfl ?_
  refine XW.callV (As := [.int (nI k), .int (nI lx)]) (st := []) eX10_comes_18 okX10_takes cv10_173 rfl (so_69 hs) (YX10_takes hs I hn h1 h4 hq (nI k) hl) (xnum rfl rfl rfl rfl rfl) ?_
  have j79 := takes_79 I n (nI k) lx
  have j78 := takes_78 (nI k) h1 h4 hq hl
  obtain ⟨stq, lnq, hqq⟩ := hq
  obtain ⟨p1, p2, p3, p4⟩ := hqq lx hl
  have p5 := hrm _ _ p1 p2 (by omega) (by omega)
  generalize hJ : tX10_takes I n (nI k) lx = J at j79 j78 ⊢
  generalize hS : sX10_takes I n (nI k) lx = S
  refine XW.if_eq eX10_comes_21 (fun c_21 => ?_) (fun c_21 => ?_)
  ·
    skip
    refine XW.aload_n eX10_comes_77 rfl ?_
    refine XW.iload_n eX10_comes_78 rfl ?_
    refine XW.iconst (v := 1) eX10_comes_79 (by decide) ?_
    refine XW.callV (As := [.int (nI k), .int 1]) (st := []) eX10_comes_80 okX10_ends cv10_166 rfl (so_69 hs) (YX10_ends hs J (nI k) 1 (vp_in_nI hk (by decide))) (xnum rfl rfl rfl rfl rfl) ?_
    refine XW.iconst (v := 0) eX10_comes_83 (by decide) ?_
    refine XW.istore_n (ls' := [some (.ref 69), some (.int (nI k)), some (.int (nI lx)), some (.int 0)]) eX10_comes_84 (Nat.le_of_ble_eq_true rfl) rfl ?_
    refine XW.to (LX10_comes hs (tX10_ends J k 1) (k := k) (lx := lx) ?_ 5 0 (by omega) (by omega)) (by rfl) rfl (by rw [grm_0, wA_self]; (try rw [kk0]))
    refine XW.aload_n eX10_comes_132 rfl ?_
    refine XW.getR (b := 94) eX10_comes_133 f10_93_10 rfl (so_69 hs) (sr_69_32 hs) ?_
    refine XW.iconst (v := 4) eX10_comes_136 (by decide) ?_
    refine XW.aload_n eX10_comes_137 rfl ?_
    refine XW.callV (As := []) (st := [.int 4, .ref 94]) eX10_comes_138 okX10_all cv10_151 rfl (so_69 hs) (YX10_all hs (wA (tX10_ends J k 1) 94 (grm ((tX10_ends J k 1) 86) ((tX10_ends J k 1) 94) 4))) (xnum rfl rfl rfl rfl rfl) ?_
    refine XW.aload_n eX10_comes_141 rfl ?_
    refine XW.getR (b := 94) eX10_comes_142 f10_93_10 rfl (so_69 hs) (sr_69_32 hs) ?_
    refine XW.iconst (v := 4) eX10_comes_145 (by decide) ?_
    refine XW.iaload eX10_comes_146 (sa_94 hs) (vp_in_nI (n := 4) (by decide) (by decide)) ?_
    refine XW.icmp_le eX10_comes_147 (fun c_147 => ?_) (fun c_147 => ?_)
    ·
      skip
      refine XW.aload_n eX10_comes_157 rfl ?_
      refine XW.getR (b := 94) eX10_comes_158 f10_93_10 rfl (so_69 hs) (sr_69_32 hs) ?_
      refine XW.iconst (v := 4) eX10_comes_161 (by decide) ?_
      refine XW.iaload eX10_comes_162 (sa_94 hs) (vp_in_nI (n := 4) (by decide) (by decide)) ?_
      refine XW.iastore eX10_comes_163 (sa_94 hs) (vp_in_nI (n := 4) (by decide) (by decide)) ?_
      exact XW.vret eX10_comes_164 rfl rfl rfl (by unfold tX10_comes; rw [hS, hJ]; rw [if_pos c_21]; unfold mGr; (try simp only [all_86, wA_same, show (4 : Int32).toNatClampNeg = 4 from rfl, grm_at _ _ (Nat.le_refl 4)] at c_147); (try simp only [all_86, wA_same, show (4 : Int32).toNatClampNeg = 4 from rfl, grm_at _ _ (Nat.le_refl 4)]); (try rw [if_pos c_147]); (try rfl))
    ·
      skip
      refine XW.aload_n eX10_comes_150 rfl ?_
      refine XW.callV (As := []) (st := [.int 4, .ref 94]) eX10_comes_151 okX10_all cv10_151 rfl (so_69 hs) (YX10_all hs (wA (tX10_ends J k 1) 94 (grm ((tX10_ends J k 1) 86) ((tX10_ends J k 1) 94) 4))) (xnum rfl rfl rfl rfl rfl) ?_
      refine XW.goto eX10_comes_154 ?_
      refine XW.iastore eX10_comes_163 (sa_94 hs) (vp_in_nI (n := 4) (by decide) (by decide)) ?_
      exact XW.vret eX10_comes_164 rfl rfl rfl (by unfold tX10_comes; rw [hS, hJ]; rw [if_pos c_21]; unfold mGr; (try simp only [all_86, wA_same, show (4 : Int32).toNatClampNeg = 4 from rfl, grm_at _ _ (Nat.le_refl 4)] at c_147); (try simp only [all_86, wA_same, show (4 : Int32).toNatClampNeg = 4 from rfl, grm_at _ _ (Nat.le_refl 4)]); (try rw [if_neg c_147]); (try rfl))
  ·
    skip
    refine XW.aload_n eX10_comes_24 rfl ?_
    refine XW.getR (b := 85) eX10_comes_25 f10_66_10 rfl (so_69 hs) (sr_69_23 hs) ?_
    refine XW.bipush (v := 80) eX10_comes_28 (by decide) ?_
    refine XW.iload_n eX10_comes_30 rfl ?_
    refine XW.imul eX10_comes_31 ?_
    refine XW.aload_n eX10_comes_32 rfl ?_
    refine XW.getR (b := 87) eX10_comes_33 f10_72_10 rfl (so_69 hs) (sr_69_25 hs) ?_
    refine XW.iload_n eX10_comes_36 rfl ?_
    refine XW.iaload eX10_comes_37 (sa_87 hs) (vp_in_nI hl (by decide)) ?_
    refine XW.iadd eX10_comes_38 ?_
    refine XW.aload_n eX10_comes_39 rfl ?_
    refine XW.getR (b := 86) eX10_comes_40 f10_69_10 rfl (so_69 hs) (sr_69_24 hs) ?_
    refine XW.iload_n eX10_comes_43 rfl ?_
    refine XW.iaload eX10_comes_44 (sa_86 hs) (vp_in_nI hl (by decide)) ?_
    refine XW.iadd eX10_comes_45 ?_
    refine XW.iload_n eX10_comes_46 rfl ?_
    refine XW.iastore eX10_comes_47 (sa_85 hs) (by rw [kl, j79, j78, p1, p2, show (80 : Int32) = nI 80 from rfl, pk_mul, nI_add, nI_add]; exact vp_in_nI (by omega) (by decide)) ?_
    refine XW.aload_n eX10_comes_48 rfl ?_
    refine XW.getR (b := 86) eX10_comes_49 f10_69_10 rfl (so_69 hs) (sr_69_24 hs) ?_
    refine XW.iload_n eX10_comes_52 rfl ?_
    refine XW.dup2 eX10_comes_53 rfl rfl ?_
    refine XW.iaload eX10_comes_54 (sa_86 hs) (vp_in_nI hl (by decide)) ?_
    refine XW.iconst (v := 1) eX10_comes_55 (by decide) ?_
    refine XW.iadd eX10_comes_56 ?_
    refine XW.iastore eX10_comes_57 (sa_86 hs) (vp_in_nI hl (by decide)) ?_
    refine XW.aload_n eX10_comes_58 rfl ?_
    refine XW.getR (b := 91) eX10_comes_59 f10_84_10 rfl (so_69 hs) (sr_69_29 hs) ?_
    refine XW.iload_n eX10_comes_62 rfl ?_
    refine XW.iconst (v := 0) eX10_comes_63 (by decide) ?_
    refine XW.iastore eX10_comes_64 (sa_91 hs) (vp_in_nI hk (by decide)) ?_
    refine XW.aload_n eX10_comes_65 rfl ?_
    refine XW.getR (b := 92) eX10_comes_66 f10_87_10 rfl (so_69 hs) (sr_69_30 hs) ?_
    refine XW.iload_n eX10_comes_69 rfl ?_
    refine XW.sipush (v := 400) eX10_comes_70 (by decide) ?_
    refine XW.iastore eX10_comes_73 (sa_92 hs) (vp_in_nI hk (by decide)) ?_
    refine XW.goto eX10_comes_74 ?_
    refine XW.iconst (v := 0) eX10_comes_83 (by decide) ?_
    refine XW.istore_n (ls' := [some (.ref 69), some (.int (nI k)), some (.int (nI lx)), some (.int 0)]) eX10_comes_84 (Nat.le_of_ble_eq_true rfl) rfl ?_
    refine XW.to (LX10_comes hs (mTake J k lx) (k := k) (lx := lx) ?_ 5 0 (by omega) (by omega)) (by rfl) rfl (by rw [grm_0, wA_self]; (try rw [kk0]); unfold mTake; simp only [kl, kk0, wI_ne _ _ _ (show (86 : Nat) ≠ 85 by decide)])
    refine XW.aload_n eX10_comes_132 rfl ?_
    refine XW.getR (b := 94) eX10_comes_133 f10_93_10 rfl (so_69 hs) (sr_69_32 hs) ?_
    refine XW.iconst (v := 4) eX10_comes_136 (by decide) ?_
    refine XW.aload_n eX10_comes_137 rfl ?_
    refine XW.callV (As := []) (st := [.int 4, .ref 94]) eX10_comes_138 okX10_all cv10_151 rfl (so_69 hs) (YX10_all hs (wA (mTake J k lx) 94 (grm ((mTake J k lx) 86) ((mTake J k lx) 94) 4))) (xnum rfl rfl rfl rfl rfl) ?_
    refine XW.aload_n eX10_comes_141 rfl ?_
    refine XW.getR (b := 94) eX10_comes_142 f10_93_10 rfl (so_69 hs) (sr_69_32 hs) ?_
    refine XW.iconst (v := 4) eX10_comes_145 (by decide) ?_
    refine XW.iaload eX10_comes_146 (sa_94 hs) (vp_in_nI (n := 4) (by decide) (by decide)) ?_
    refine XW.icmp_le eX10_comes_147 (fun c_147 => ?_) (fun c_147 => ?_)
    ·
      skip
      refine XW.aload_n eX10_comes_157 rfl ?_
      refine XW.getR (b := 94) eX10_comes_158 f10_93_10 rfl (so_69 hs) (sr_69_32 hs) ?_
      refine XW.iconst (v := 4) eX10_comes_161 (by decide) ?_
      refine XW.iaload eX10_comes_162 (sa_94 hs) (vp_in_nI (n := 4) (by decide) (by decide)) ?_
      refine XW.iastore eX10_comes_163 (sa_94 hs) (vp_in_nI (n := 4) (by decide) (by decide)) ?_
      exact XW.vret eX10_comes_164 rfl rfl rfl (by unfold tX10_comes; rw [hS, hJ]; rw [if_neg c_21]; unfold mGr; (try simp only [all_86, wA_same, show (4 : Int32).toNatClampNeg = 4 from rfl, grm_at _ _ (Nat.le_refl 4)] at c_147); (try simp only [all_86, wA_same, show (4 : Int32).toNatClampNeg = 4 from rfl, grm_at _ _ (Nat.le_refl 4)]); (try rw [if_pos c_147]); (try rfl))
    ·
      skip
      refine XW.aload_n eX10_comes_150 rfl ?_
      refine XW.callV (As := []) (st := [.int 4, .ref 94]) eX10_comes_151 okX10_all cv10_151 rfl (so_69 hs) (YX10_all hs (wA (mTake J k lx) 94 (grm ((mTake J k lx) 86) ((mTake J k lx) 94) 4))) (xnum rfl rfl rfl rfl rfl) ?_
      refine XW.goto eX10_comes_154 ?_
      refine XW.iastore eX10_comes_163 (sa_94 hs) (vp_in_nI (n := 4) (by decide) (by decide)) ?_
      exact XW.vret eX10_comes_164 rfl rfl rfl (by unfold tX10_comes; rw [hS, hJ]; rw [if_neg c_21]; unfold mGr; (try simp only [all_86, wA_same, show (4 : Int32).toNatClampNeg = 4 from rfl, grm_at _ _ (Nat.le_refl 4)] at c_147); (try simp only [all_86, wA_same, show (4 : Int32).toNatClampNeg = 4 from rfl, grm_at _ _ (Nat.le_refl 4)]); (try rw [if_neg c_147]); (try rfl))
