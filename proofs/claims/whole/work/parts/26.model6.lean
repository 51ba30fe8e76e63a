/-! the reference: small steps of a run -/
def mC1 (I : xI) (j : Nat) : Int32 := if I 70 j ≤ 0 then I 86 j else (if I 73 j ≤ I 86 j then I 86 j else I 73 j)
def mCnt (I : xI) : Nat → Int32
  | 0 => 0
  | j + 1 => mCnt I j + mC1 I j
def mLg (I : xI) : Nat → Nat
  | 0 => 0
  | j + 1 => if I 86 (j + 1) < I 86 (mLg I j) then mLg I j else j + 1
theorem mLg_le (I : xI) (j : Nat) : mLg I j ≤ j := by
  induction j with
  | zero => exact Nat.le_refl 0
  | succ j ih =>
    unfold mLg
    split
    · omega
    · exact Nat.le_refl _
set_option maxRecDepth 100000 in
set_option maxHeartbeats 4000000 in
theorem YX10_isHeld {l : Launch} {C : xC} {G : xG} (hs : SH G) (I : xI) (v : Int32) (hv : vp_in v 4) : XW l C mX10_isHeld 0 (xent mX10_isHeld [.ref 69, .int v]) [] G I (some (.int (bI (I 70 v.toNatClampNeg = 2 ∧ I 69 21 = 0)))) G I := by
  show XW l C mX10_isHeld 0 [some (.ref 69), some (.int v)] [] G I _ G _
  refine XW.aload_n eX10_isHeld_0 rfl ?_
  refine XW.getR (b := 70) eX10_isHeld_1 f10_16_10 rfl (so_69 hs) (sr_69_2 hs) ?_
  refine XW.iload_n eX10_isHeld_4 rfl ?_
  refine XW.iaload eX10_isHeld_5 (sa_70 hs) hv ?_
  refine XW.iconst (v := 2) eX10_isHeld_6 (by decide) ?_
  refine XW.icmp_ne eX10_isHeld_7 (fun c_7 => ?_) (fun c_7 => ?_)
  ·
    skip
    refine XW.iconst (v := 0) eX10_isHeld_21 (by decide) ?_
    exact XW.iret eX10_isHeld_22 rfl rfl (congrArg (fun z => some (Value.int z)) (if_neg (fun h => c_7 h.1))) rfl rfl
  ·
    skip
    refine XW.aload_n eX10_isHeld_10 rfl ?_
    refine XW.getI eX10_isHeld_11 f10_144_10 rfl (so_69 hs) ?_
    refine XW.if_ne eX10_isHeld_14 (fun c_14 => ?_) (fun c_14 => ?_)
    ·
      skip
      refine XW.iconst (v := 0) eX10_isHeld_21 (by decide) ?_
      exact XW.iret eX10_isHeld_22 rfl rfl (congrArg (fun z => some (Value.int z)) (by first | exact if_neg (fun h => c_14 h.2) | exact if_pos ⟨c_7, c_14⟩)) rfl rfl
    ·
      skip
      refine XW.iconst (v := 1) eX10_isHeld_17 (by decide) ?_
      refine XW.goto eX10_isHeld_18 ?_
      exact XW.iret eX10_isHeld_22 rfl rfl (congrArg (fun z => some (Value.int z)) (by first | exact if_neg (fun h => c_14 h.2) | exact if_pos ⟨c_7, c_14⟩)) rfl rfl
def sX10_all (I : xI)   : Int32 := ((((I 86 0) + (I 86 1)) + (I 86 2)) + (I 86 3))
set_option maxRecDepth 100000 in
set_option maxHeartbeats 4000000 in
theorem YX10_all {l : Launch} {C : xC} {G : xG} (hs : SH G) (I : xI)   : XW l C mX10_all 0 (xent mX10_all [.ref 69]) [] G I (some (.int (sX10_all I  ))) G I := by
  show XW l C mX10_all 0 [some (.ref 69)] [] G I _ G _
  refine XW.aload_n eX10_all_0 rfl ?_
  refine XW.getR (b := 86) eX10_all_1 f10_69_10 rfl (so_69 hs) (sr_69_24 hs) ?_
  refine XW.iconst (v := 0) eX10_all_4 (by decide) ?_
  refine XW.iaload eX10_all_5 (sa_86 hs) (vp_in_nI (n := 0) (by decide) (by decide)) ?_
  refine XW.aload_n eX10_all_6 rfl ?_
  refine XW.getR (b := 86) eX10_all_7 f10_69_10 rfl (so_69 hs) (sr_69_24 hs) ?_
  refine XW.iconst (v := 1) eX10_all_10 (by decide) ?_
  refine XW.iaload eX10_all_11 (sa_86 hs) (vp_in_nI (n := 1) (by decide) (by decide)) ?_
  refine XW.iadd eX10_all_12 ?_
  refine XW.aload_n eX10_all_13 rfl ?_
  refine XW.getR (b := 86) eX10_all_14 f10_69_10 rfl (so_69 hs) (sr_69_24 hs) ?_
  refine XW.iconst (v := 2) eX10_all_17 (by decide) ?_
  refine XW.iaload eX10_all_18 (sa_86 hs) (vp_in_nI (n := 2) (by decide) (by decide)) ?_
  refine XW.iadd eX10_all_19 ?_
  refine XW.aload_n eX10_all_20 rfl ?_
  refine XW.getR (b := 86) eX10_all_21 f10_69_10 rfl (so_69 hs) (sr_69_24 hs) ?_
  refine XW.iconst (v := 3) eX10_all_24 (by decide) ?_
  refine XW.iaload eX10_all_25 (sa_86 hs) (vp_in_nI (n := 3) (by decide) (by decide)) ?_
  refine XW.iadd eX10_all_26 ?_
  exact XW.iret eX10_all_27 rfl rfl (by (try unfold sX10_all); (try unfold tX10_all);  (try rfl)) rfl (by (try unfold sX10_all); (try unfold tX10_all);  (try rfl))
def tX10_ends (I : xI) (k : Nat) (w : Int32) : xI := wI (wI I 91 k w) 92 k (I 69 22)
set_option maxRecDepth 100000 in
set_option maxHeartbeats 4000000 in
theorem YX10_ends {l : Launch} {C : xC} {G : xG} (hs : SH G) (I : xI) (k w : Int32) (hk : vp_in k 80) : XW l C mX10_ends 0 (xent mX10_ends [.ref 69, .int k, .int w]) [] G I none G (tX10_ends I k.toNatClampNeg w) := by
  show XW l C mX10_ends 0 [some (.ref 69), some (.int k), some (.int w)] [] G I _ G _
  refine XW.aload_n eX10_ends_0 rfl ?_
  refine XW.getR (b := 91) eX10_ends_1 f10_84_10 rfl (so_69 hs) (sr_69_29 hs) ?_
  refine XW.iload_n eX10_ends_4 rfl ?_
  refine XW.iload_n eX10_ends_5 rfl ?_
  refine XW.iastore eX10_ends_6 (sa_91 hs) hk ?_
  refine XW.aload_n eX10_ends_7 rfl ?_
  refine XW.getR (b := 92) eX10_ends_8 f10_87_10 rfl (so_69 hs) (sr_69_30 hs) ?_
  refine XW.iload_n eX10_ends_11 rfl ?_
  refine XW.aload_n eX10_ends_12 rfl ?_
  refine XW.getI eX10_ends_13 f10_148_10 rfl (so_69 hs) ?_
  refine XW.iastore eX10_ends_16 (sa_92 hs) hk ?_
  exact XW.vret eX10_ends_17 rfl rfl rfl rfl
set_option maxRecDepth 100000 in
set_option maxHeartbeats 4000000 in
theorem LX10_counted {l : Launch} {C : xC} {G : xG} (hs : SH G) (I : xI) {n : Nat} (hn : I 69 1 = nI n) (h4 : n ≤ 4) : ∀ (k i : Nat), i ≤ n → n < i + k → XW l C mX10_counted 4 [some (.ref 69), some (.int (mCnt I i)), some (.int (nI i)), none] [] G I (some (.int (mCnt I n))) G I := by
  intro k
  induction k with
  | zero =>
    intro i h1 h2
    exact absurd h2 (by omega)
  | succ k ih =>
    intro i h1 h2
    refine XW.iload_n eX10_counted_4 rfl ?_
    refine XW.aload_n eX10_counted_5 rfl ?_
    refine XW.getI eX10_counted_6 f10_13_10 rfl (so_69 hs) ?_
    refine XW.icmp_ge eX10_counted_9 (fun c_9 => ?_) (fun c_9 => ?_)
    ·
      rw [hn] at c_9
      have hi : ¬ i < n := fun h => nI_ge h (by omega) c_9
      have hi2 : i = n := by omega
      subst hi2
      refine XW.iload_n eX10_counted_70 rfl ?_
      exact XW.iret eX10_counted_71 rfl rfl rfl rfl rfl
    ·
      rw [hn] at c_9
      have hi : i < n := Nat.lt_of_not_le (fun h => c_9 (nI_le h (by omega)))
      have hcl : (nI i).toNatClampNeg = i := nI_clamp (by omega)
      refine XW.aload_n eX10_counted_12 rfl ?_
      refine XW.getR (b := 70) eX10_counted_13 f10_16_10 rfl (so_69 hs) (sr_69_2 hs) ?_
      refine XW.iload_n eX10_counted_16 rfl ?_
      refine XW.iaload eX10_counted_17 (sa_70 hs) (vp_in_nI (by omega) (by decide)) ?_
      refine XW.if_le eX10_counted_18 (fun c_18 => ?_) (fun c_18 => ?_)
      ·
        skip
        refine XW.iconst (v := 0) eX10_counted_40 (by decide) ?_
        refine XW.istore_n (ls' := [some (.ref 69), some (.int (mCnt I i)), some (.int (nI i)), some (.int 0)]) eX10_counted_41 (Nat.le_of_ble_eq_true rfl) rfl ?_
        refine XW.iload_n eX10_counted_42 rfl ?_
        refine XW.iload_n eX10_counted_43 rfl ?_
        refine XW.if_eq eX10_counted_44 (fun _ => ?_) (fun h => absurd (by decide) h)
        refine XW.aload_n eX10_counted_56 rfl ?_
        refine XW.getR (b := 86) eX10_counted_57 f10_69_10 rfl (so_69 hs) (sr_69_24 hs) ?_
        refine XW.iload_n eX10_counted_60 rfl ?_
        refine XW.iaload eX10_counted_61 (sa_86 hs) (vp_in_nI (by omega) (by decide)) ?_
        refine XW.iadd eX10_counted_62 ?_
        refine XW.istore_n (ls' := [some (.ref 69), some (.int ((mCnt I i) + (I 86 (nI i).toNatClampNeg))), some (.int (nI i)), some (.int 0)]) eX10_counted_63 (Nat.le_of_ble_eq_true rfl) rfl ?_
        refine XW.iinc (y := ((nI i) + 1)) (ls' := [some (.ref 69), some (.int ((mCnt I i) + (I 86 (nI i).toNatClampNeg))), some (.int ((nI i) + 1)), some (.int 0)]) eX10_counted_64 rfl rfl rfl ?_
        refine XW.goto eX10_counted_67 ?_
        refine XW.forget 3 rfl ?_
        exact XW.to (ih (i + 1) (by omega) (by omega)) (by simp only [hcl] at *; simp only [nI_succ, mCnt, mC1]; (try rw [if_pos c_18]); (try rfl)) rfl rfl
      ·
        skip
        refine XW.aload_n eX10_counted_21 rfl ?_
        refine XW.getR (b := 73) eX10_counted_22 f10_26_10 rfl (so_69 hs) (sr_69_5 hs) ?_
        refine XW.iload_n eX10_counted_25 rfl ?_
        refine XW.iaload eX10_counted_26 (sa_73 hs) (vp_in_nI (by omega) (by decide)) ?_
        refine XW.aload_n eX10_counted_27 rfl ?_
        refine XW.getR (b := 86) eX10_counted_28 f10_69_10 rfl (so_69 hs) (sr_69_24 hs) ?_
        refine XW.iload_n eX10_counted_31 rfl ?_
        refine XW.iaload eX10_counted_32 (sa_86 hs) (vp_in_nI (by omega) (by decide)) ?_
        refine XW.icmp_le eX10_counted_33 (fun c_33 => ?_) (fun c_33 => ?_)
        ·
          skip
          refine XW.iconst (v := 0) eX10_counted_40 (by decide) ?_
          refine XW.istore_n (ls' := [some (.ref 69), some (.int (mCnt I i)), some (.int (nI i)), some (.int 0)]) eX10_counted_41 (Nat.le_of_ble_eq_true rfl) rfl ?_
          refine XW.iload_n eX10_counted_42 rfl ?_
          refine XW.iload_n eX10_counted_43 rfl ?_
          refine XW.if_eq eX10_counted_44 (fun _ => ?_) (fun h => absurd (by decide) h)
          refine XW.aload_n eX10_counted_56 rfl ?_
          refine XW.getR (b := 86) eX10_counted_57 f10_69_10 rfl (so_69 hs) (sr_69_24 hs) ?_
          refine XW.iload_n eX10_counted_60 rfl ?_
          refine XW.iaload eX10_counted_61 (sa_86 hs) (vp_in_nI (by omega) (by decide)) ?_
          refine XW.iadd eX10_counted_62 ?_
          refine XW.istore_n (ls' := [some (.ref 69), some (.int ((mCnt I i) + (I 86 (nI i).toNatClampNeg))), some (.int (nI i)), some (.int 0)]) eX10_counted_63 (Nat.le_of_ble_eq_true rfl) rfl ?_
          refine XW.iinc (y := ((nI i) + 1)) (ls' := [some (.ref 69), some (.int ((mCnt I i) + (I 86 (nI i).toNatClampNeg))), some (.int ((nI i) + 1)), some (.int 0)]) eX10_counted_64 rfl rfl rfl ?_
          refine XW.goto eX10_counted_67 ?_
          refine XW.forget 3 rfl ?_
          exact XW.to (ih (i + 1) (by omega) (by omega)) (by simp only [hcl] at *; simp only [nI_succ, mCnt, mC1]; (try rw [if_neg c_18]); (try rw [if_pos c_33]); (try rfl)) rfl rfl
        ·
          skip
          refine XW.iconst (v := 1) eX10_counted_36 (by decide) ?_
          refine XW.goto eX10_counted_37 ?_
          refine XW.istore_n (ls' := [some (.ref 69), some (.int (mCnt I i)), some (.int (nI i)), some (.int 1)]) eX10_counted_41 (Nat.le_of_ble_eq_true rfl) rfl ?_
          refine XW.iload_n eX10_counted_42 rfl ?_
          refine XW.iload_n eX10_counted_43 rfl ?_
          refine XW.if_eq eX10_counted_44 (fun h => absurd h (by decide)) (fun _ => ?_)
          refine XW.aload_n eX10_counted_47 rfl ?_
          refine XW.getR (b := 73) eX10_counted_48 f10_26_10 rfl (so_69 hs) (sr_69_5 hs) ?_
          refine XW.iload_n eX10_counted_51 rfl ?_
          refine XW.iaload eX10_counted_52 (sa_73 hs) (vp_in_nI (by omega) (by decide)) ?_
          refine XW.goto eX10_counted_53 ?_
          refine XW.iadd eX10_counted_62 ?_
          refine XW.istore_n (ls' := [some (.ref 69), some (.int ((mCnt I i) + (I 73 (nI i).toNatClampNeg))), some (.int (nI i)), some (.int 1)]) eX10_counted_63 (Nat.le_of_ble_eq_true rfl) rfl ?_
          refine XW.iinc (y := ((nI i) + 1)) (ls' := [some (.ref 69), some (.int ((mCnt I i) + (I 73 (nI i).toNatClampNeg))), some (.int ((nI i) + 1)), some (.int 1)]) eX10_counted_64 rfl rfl rfl ?_
          refine XW.goto eX10_counted_67 ?_
          refine XW.forget 3 rfl ?_
          exact XW.to (ih (i + 1) (by omega) (by omega)) (by simp only [hcl] at *; simp only [nI_succ, mCnt, mC1]; (try rw [if_neg c_18]); (try rw [if_neg c_33]); (try rfl)) rfl rfl
set_option maxRecDepth 100000 in
set_option maxHeartbeats 4000000 in
theorem YX10_counted {l : Launch} {C : xC} {G : xG} (hs : SH G) (I : xI) {n : Nat} (hn : I 69 1 = nI n) (h4 : n ≤ 4) : XW l C mX10_counted 0 (xent mX10_counted [.ref 69]) [] G I (some (.int (mCnt I n))) G I := by
  show XW l C mX10_counted 0 [some (.ref 69), none, none, none] [] G I _ G _
  refine XW.iconst (v := 0) eX10_counted_0 (by decide) ?_
  refine XW.istore_n (ls' := [some (.ref 69), some (.int 0), none, none]) eX10_counted_1 (Nat.le_of_ble_eq_true rfl) rfl ?_
  refine XW.iconst (v := 0) eX10_counted_2 (by decide) ?_
  refine XW.istore_n (ls' := [some (.ref 69), some (.int 0), some (.int 0), none]) eX10_counted_3 (Nat.le_of_ble_eq_true rfl) rfl ?_
  exact XW.to (LX10_counted hs I hn h4 (n + 1) 0 (by omega) (by omega)) rfl rfl rfl
set_option maxRecDepth 100000 in
set_option maxHeartbeats 4000000 in
theorem LX10_longest {l : Launch} {C : xC} {G : xG} (hs : SH G) (I : xI) {n : Nat} (hn : I 69 1 = nI n) (h4 : n ≤ 4) : ∀ (k i : Nat), i + 1 ≤ n → n < i + k → XW l C mX10_longest 4 [some (.ref 69), some (.int (nI (mLg I i))), some (.int (nI (i + 1)))] [] G I (some (.int (nI (mLg I (n - 1))))) G I := by
  intro k
  induction k with
  | zero =>
    intro i h1 h2
    exact absurd h2 (by omega)
  | succ k ih =>
    intro i h1 h2
    refine XW.iload_n eX10_longest_4 rfl ?_
    refine XW.aload_n eX10_longest_5 rfl ?_
    refine XW.getI eX10_longest_6 f10_13_10 rfl (so_69 hs) ?_
    refine XW.icmp_ge eX10_longest_9 (fun c_9 => ?_) (fun c_9 => ?_)
    ·
      rw [hn] at c_9
      have hi : ¬ i + 1 < n := fun h => nI_ge h (by omega) c_9
      have hi2 : i = n - 1 := by omega
      subst hi2
      refine XW.iload_n eX10_longest_39 rfl ?_
      exact XW.iret eX10_longest_40 rfl rfl rfl rfl rfl
    ·
      rw [hn] at c_9
      have hi : i + 1 < n := Nat.lt_of_not_le (fun h => c_9 (nI_le h (by omega)))
      have hcl : (nI (i + 1)).toNatClampNeg = i + 1 := nI_clamp (by omega)
      have hmg := mLg_le I i
      have hcl2 : (nI (mLg I i)).toNatClampNeg = mLg I i := nI_clamp (by omega)
      refine XW.aload_n eX10_longest_12 rfl ?_
      refine XW.getR (b := 86) eX10_longest_13 f10_69_10 rfl (so_69 hs) (sr_69_24 hs) ?_
      refine XW.iload_n eX10_longest_16 rfl ?_
      refine XW.iaload eX10_longest_17 (sa_86 hs) (vp_in_nI (by omega) (by decide)) ?_
      refine XW.aload_n eX10_longest_18 rfl ?_
      refine XW.getR (b := 86) eX10_longest_19 f10_69_10 rfl (so_69 hs) (sr_69_24 hs) ?_
      refine XW.iload_n eX10_longest_22 rfl ?_
      refine XW.iaload eX10_longest_23 (sa_86 hs) (vp_in_nI (by omega) (by decide)) ?_
      refine XW.icmp_lt eX10_longest_24 (fun c_24 => ?_) (fun c_24 => ?_)
      ·
        skip
        refine XW.iload_n eX10_longest_31 rfl ?_
        refine XW.istore_n (ls' := [some (.ref 69), some (.int (nI (mLg I i))), some (.int (nI (i + 1)))]) eX10_longest_32 (Nat.le_of_ble_eq_true rfl) rfl ?_
        refine XW.iinc (y := ((nI (i + 1)) + 1)) (ls' := [some (.ref 69), some (.int (nI (mLg I i))), some (.int ((nI (i + 1)) + 1))]) eX10_longest_33 rfl rfl rfl ?_
        refine XW.goto eX10_longest_36 ?_
        exact XW.to (ih (i + 1) (by omega) (by omega)) (by simp only [hcl, hcl2] at *; simp only [mLg]; (try rw [if_pos c_24]); rw [← nI_1 (i + 1)]) rfl rfl
      ·
        skip
        refine XW.iload_n eX10_longest_27 rfl ?_
        refine XW.goto eX10_longest_28 ?_
        refine XW.istore_n (ls' := [some (.ref 69), some (.int (nI (i + 1))), some (.int (nI (i + 1)))]) eX10_longest_32 (Nat.le_of_ble_eq_true rfl) rfl ?_
        refine XW.iinc (y := ((nI (i + 1)) + 1)) (ls' := [some (.ref 69), some (.int (nI (i + 1))), some (.int ((nI (i + 1)) + 1))]) eX10_longest_33 rfl rfl rfl ?_
        refine XW.goto eX10_longest_36 ?_
        exact XW.to (ih (i + 1) (by omega) (by omega)) (by simp only [hcl, hcl2] at *; simp only [mLg]; (try rw [if_neg c_24]); rw [← nI_1 (i + 1)]) rfl rfl
set_option maxRecDepth 100000 in
set_option maxHeartbeats 4000000 in
theorem YX10_longest {l : Launch} {C : xC} {G : xG} (hs : SH G) (I : xI) {n : Nat} (hn : I 69 1 = nI n) (h1 : 1 ≤ n) (h4 : n ≤ 4) : XW l C mX10_longest 0 (xent mX10_longest [.ref 69]) [] G I (some (.int (nI (mLg I (n - 1))))) G I := by
  show XW l C mX10_longest 0 [some (.ref 69), none, none] [] G I _ G _
  refine XW.iconst (v := 0) eX10_longest_0 (by decide) ?_
  refine XW.istore_n (ls' := [some (.ref 69), some (.int 0), none]) eX10_longest_1 (Nat.le_of_ble_eq_true rfl) rfl ?_
  refine XW.iconst (v := 1) eX10_longest_2 (by decide) ?_
  refine XW.istore_n (ls' := [some (.ref 69), some (.int 0), some (.int 1)]) eX10_longest_3 (Nat.le_of_ble_eq_true rfl) rfl ?_
  exact XW.to (LX10_longest hs I hn h4 (n + 1) 0 (by omega) (by omega)) rfl rfl rfl
