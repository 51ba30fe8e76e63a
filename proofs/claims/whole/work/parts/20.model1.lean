/-! the reference: small methods -/
set_option maxRecDepth 100000 in
set_option maxHeartbeats 4000000 in
theorem YX10_in {l : Launch} {C : xC} {G : xG} (I : xI)  (v : Int32) (lo : Int32) (hi : Int32) : XW l C mX10_in 0 (xent mX10_in [.int v, .int lo, .int hi]) [] G I (some (.int (bI (lo ≤ v ∧ v ≤ hi)))) G I := by
  show XW l C mX10_in 0 [some (.int v), some (.int lo), some (.int hi)] [] G I _ G _
  refine XW.iload_n eX10_in_0 rfl ?_
  refine XW.iload_n eX10_in_1 rfl ?_
  refine XW.icmp_lt eX10_in_2 (fun c_2 => ?_) (fun c_2 => ?_)
  ·
    skip
    refine XW.iconst (v := 0) eX10_in_14 (by decide) ?_
    exact XW.iret eX10_in_15 rfl rfl (congrArg (fun z => some (Value.int z)) (if_neg (fun h => Int32.not_le.mpr c_2 h.1))) rfl rfl
  ·
    skip
    refine XW.iload_n eX10_in_5 rfl ?_
    refine XW.iload_n eX10_in_6 rfl ?_
    refine XW.icmp_gt eX10_in_7 (fun c_7 => ?_) (fun c_7 => ?_)
    ·
      skip
      refine XW.iconst (v := 0) eX10_in_14 (by decide) ?_
      exact XW.iret eX10_in_15 rfl rfl (congrArg (fun z => some (Value.int z)) (by first | exact if_neg (fun h => Int32.not_le.mpr c_7 h.2) | exact if_pos ⟨Int32.not_lt.mp c_2, Int32.not_lt.mp c_7⟩)) rfl rfl
    ·
      skip
      refine XW.iconst (v := 1) eX10_in_10 (by decide) ?_
      refine XW.goto eX10_in_11 ?_
      exact XW.iret eX10_in_15 rfl rfl (congrArg (fun z => some (Value.int z)) (by first | exact if_neg (fun h => Int32.not_le.mpr c_7 h.2) | exact if_pos ⟨Int32.not_lt.mp c_2, Int32.not_lt.mp c_7⟩)) rfl rfl
set_option maxRecDepth 100000 in
set_option maxHeartbeats 4000000 in
theorem YX10_isLine {l : Launch} {C : xC} {G : xG} (hs : SH G) (I : xI)  (v : Int32) : XW l C mX10_isLine 0 (xent mX10_isLine [.ref 61, .int v]) [] G I (some (.int (bI (0 ≤ v ∧ v ≤ (I 61 1 - 1))))) G I := by
  show XW l C mX10_isLine 0 [some (.ref 61), some (.int v)] [] G I _ G _
  refine XW.iload_n eX10_isLine_0 rfl ?_
  refine XW.iconst (v := 0) eX10_isLine_1 (by decide) ?_
  refine XW.aload_n eX10_isLine_2 rfl ?_
  refine XW.getI eX10_isLine_3 f10_13_10 rfl (so_61 hs) ?_
  refine XW.iconst (v := 1) eX10_isLine_6 (by decide) ?_
  refine XW.isub eX10_isLine_7 ?_
  refine XW.callS (As := [.int v, .int 0, .int ((I 61 1) - 1)]) (st := []) eX10_isLine_8 okX10_in cs10_123 rfl (YX10_in I  v 0 ((I 61 1) - 1)) (xnum rfl rfl rfl rfl rfl) ?_
  exact XW.iret eX10_isLine_11 rfl (bI_nar _) rfl rfl rfl
set_option maxRecDepth 100000 in
set_option maxHeartbeats 4000000 in
theorem YX10_isSheet {l : Launch} {C : xC} {G : xG} (I : xI)  (v : Int32) : XW l C mX10_isSheet 0 (xent mX10_isSheet [.int v]) [] G I (some (.int (bI (0 ≤ v ∧ v ≤ 3)))) G I := by
  show XW l C mX10_isSheet 0 [some (.int v)] [] G I _ G _
  refine XW.iload_n eX10_isSheet_0 rfl ?_
  refine XW.iconst (v := 0) eX10_isSheet_1 (by decide) ?_
  refine XW.iconst (v := 3) eX10_isSheet_2 (by decide) ?_
  refine XW.callS (As := [.int v, .int 0, .int 3]) (st := []) eX10_isSheet_3 okX10_in cs10_123 rfl (YX10_in I  v 0 3) (xnum rfl rfl rfl rfl rfl) ?_
  exact XW.iret eX10_isSheet_6 rfl (bI_nar _) rfl rfl rfl
set_option maxRecDepth 100000 in
set_option maxHeartbeats 4000000 in
theorem YX10_isRow {l : Launch} {C : xC} {G : xG} (I : xI)  (v : Int32) : XW l C mX10_isRow 0 (xent mX10_isRow [.int v]) [] G I (some (.int (bI (0 ≤ v ∧ v ≤ 3)))) G I := by
  show XW l C mX10_isRow 0 [some (.int v)] [] G I _ G _
  refine XW.iload_n eX10_isRow_0 rfl ?_
  refine XW.iconst (v := 0) eX10_isRow_1 (by decide) ?_
  refine XW.iconst (v := 3) eX10_isRow_2 (by decide) ?_
  refine XW.callS (As := [.int v, .int 0, .int 3]) (st := []) eX10_isRow_3 okX10_in cs10_123 rfl (YX10_in I  v 0 3) (xnum rfl rfl rfl rfl rfl) ?_
  exact XW.iret eX10_isRow_6 rfl (bI_nar _) rfl rfl rfl
def mPart (I : xI) (j : Nat) : Int32 := if I 62 j ≤ 0 then 0 else I 65 j
def mParts (I : xI) : Nat → Int32
  | 0 => 0
  | n + 1 => mParts I n + mPart I n
theorem XW.to {l : Launch} {C : xC} {M : xM} {pc : Nat} {ls ls2 : List (Option Value)} {st st2 : List Value} {G G' : xG} {I I2 I' : xI} {r : Option Value} (kk : XW l C M pc ls2 st2 G I2 r G' I') (h1 : ls = ls2) (h2 : st = st2) (h3 : I = I2) : XW l C M pc ls st G I r G' I' := by subst h1; subst h2; subst h3; exact kk
theorem cl_nI {j n : Nat} (h : j < n) (hn : n ≤ 100000) : (nI j).toNatClampNeg = j := nI_clamp (by omega)
set_option maxRecDepth 100000 in
set_option maxHeartbeats 4000000 in
theorem LX10_allParts {l : Launch} {C : xC} {G : xG} (hs : SH G) (I : xI) {n : Nat} (hn : I 61 1 = nI n) (h4 : n ≤ 4) : ∀ (k j : Nat), j ≤ n → n ≤ j + k → XW l C mX10_allParts 4 [some (.ref 61), some (.int (mParts I j)), some (.int (nI j))] [] G I (some (.int (mParts I n))) G I := by
  intro k
  induction k with
  | zero =>
    intro j h1 h2
    have hjn : j = n := by omega
    subst hjn
    refine XW.iload_n eX10_allParts_4 rfl ?_
    refine XW.aload_n eX10_allParts_5 rfl ?_
    refine XW.getI eX10_allParts_6 f10_13_10 rfl (so_61 hs) ?_
    refine XW.icmp_ge eX10_allParts_9 (fun c_9 => ?_) (fun c_9 => absurd (by rw [hn]; exact nI_le (Nat.le_refl _) (by omega)) c_9)
    refine XW.iload_n eX10_allParts_40 rfl ?_
    exact XW.iret eX10_allParts_41 rfl rfl rfl rfl rfl
  | succ k ih =>
    intro j h1 h2
    refine XW.iload_n eX10_allParts_4 rfl ?_
    refine XW.aload_n eX10_allParts_5 rfl ?_
    refine XW.getI eX10_allParts_6 f10_13_10 rfl (so_61 hs) ?_
    refine XW.icmp_ge eX10_allParts_9 (fun c_9 => ?_) (fun c_9 => ?_)
    ·
      rw [hn] at c_9
      have hj : ¬ j < n := fun h => nI_ge h (by omega) c_9
      have hjn : j = n := by omega
      subst hjn
      refine XW.iload_n eX10_allParts_40 rfl ?_
      exact XW.iret eX10_allParts_41 rfl rfl rfl rfl rfl
    ·
      rw [hn] at c_9
      have hj : j < n := Nat.lt_of_not_le (fun h => c_9 (nI_le h (by omega)))
      have hcl : (nI j).toNatClampNeg = j := nI_clamp (by omega)
      refine XW.iload_n eX10_allParts_12 rfl ?_
      refine XW.aload_n eX10_allParts_13 rfl ?_
      refine XW.getR (b := 62) eX10_allParts_14 f10_16_10 rfl (so_61 hs) (sr_61_2 hs) ?_
      refine XW.iload_n eX10_allParts_17 rfl ?_
      refine XW.iaload eX10_allParts_18 (sa_62 hs) (vp_in_nI (by omega) (by omega)) ?_
      refine XW.if_le eX10_allParts_19 (fun c_19 => ?_) (fun c_19 => ?_)
      ·
        skip
        refine XW.iconst (v := 0) eX10_allParts_31 (by decide) ?_
        refine XW.iadd eX10_allParts_32 ?_
        refine XW.istore_n (ls' := [some (.ref 61), some (.int ((mParts I j) + 0)), some (.int (nI j))]) eX10_allParts_33 (Nat.le_of_ble_eq_true rfl) rfl ?_
        refine XW.iinc (y := ((nI j) + 1)) (ls' := [some (.ref 61), some (.int ((mParts I j) + 0)), some (.int ((nI j) + 1))]) eX10_allParts_34 rfl rfl rfl ?_
        refine XW.goto eX10_allParts_37 ?_
        exact XW.to (ih (j + 1) (by omega) (by omega)) (by rw [hcl] at c_19; simp only [mParts, mPart, nI_succ, hcl]; first | rw [if_pos c_19] | rw [if_neg c_19]) rfl rfl
      ·
        skip
        refine XW.aload_n eX10_allParts_22 rfl ?_
        refine XW.getR (b := 65) eX10_allParts_23 f10_26_10 rfl (so_61 hs) (sr_61_5 hs) ?_
        refine XW.iload_n eX10_allParts_26 rfl ?_
        refine XW.iaload eX10_allParts_27 (sa_65 hs) (vp_in_nI (by omega) (by omega)) ?_
        refine XW.goto eX10_allParts_28 ?_
        refine XW.iadd eX10_allParts_32 ?_
        refine XW.istore_n (ls' := [some (.ref 61), some (.int ((mParts I j) + (I 65 (nI j).toNatClampNeg))), some (.int (nI j))]) eX10_allParts_33 (Nat.le_of_ble_eq_true rfl) rfl ?_
        refine XW.iinc (y := ((nI j) + 1)) (ls' := [some (.ref 61), some (.int ((mParts I j) + (I 65 (nI j).toNatClampNeg))), some (.int ((nI j) + 1))]) eX10_allParts_34 rfl rfl rfl ?_
        refine XW.goto eX10_allParts_37 ?_
        exact XW.to (ih (j + 1) (by omega) (by omega)) (by rw [hcl] at c_19; simp only [mParts, mPart, nI_succ, hcl]; first | rw [if_pos c_19] | rw [if_neg c_19]) rfl rfl
set_option maxRecDepth 100000 in
set_option maxHeartbeats 4000000 in
theorem YX10_allParts {l : Launch} {C : xC} {G : xG} (hs : SH G) (I : xI) {n : Nat} (hn : I 61 1 = nI n) (h4 : n ≤ 4) : XW l C mX10_allParts 0 (xent mX10_allParts [.ref 61]) [] G I (some (.int (mParts I n))) G I := by
  show XW l C mX10_allParts 0 [some (.ref 61), none, none] [] G I _ G _
  refine XW.iconst (v := 0) eX10_allParts_0 (by decide) ?_
  refine XW.istore_n (ls' := [some (.ref 61), some (.int 0), none]) eX10_allParts_1 (Nat.le_of_ble_eq_true rfl) rfl ?_
  refine XW.iconst (v := 0) eX10_allParts_2 (by decide) ?_
  refine XW.istore_n (ls' := [some (.ref 61), some (.int 0), some (.int 0)]) eX10_allParts_3 (Nat.le_of_ble_eq_true rfl) rfl ?_
  exact XW.to (LX10_allParts hs I hn h4 n 0 (Nat.zero_le n) (by omega)) rfl rfl rfl
def sX10_room (I : xI) (n : Nat) (b : Int32) : Int32 := (if 1 ≤ b ∧ b ≤ 12 then (if (mParts I n) ≤ b then (I 61 0) else (-1)) else (-1))
def tX10_room (I : xI) (n : Nat) (b : Int32) : xI := (if 1 ≤ b ∧ b ≤ 12 then (if (mParts I n) ≤ b then (wI I 61 0 b) else I) else I)
set_option maxRecDepth 100000 in
set_option maxHeartbeats 4000000 in
theorem YX10_room {l : Launch} {C : xC} {G : xG} (hs : SH G) (I : xI) {n : Nat} (hn : I 61 1 = nI n) (h1 : 1 ≤ n) (h4 : n ≤ 4) (b : Int32) : XW l C mX10_room 0 (xent mX10_room [.ref 61, .int b]) [] G I (some (.int (sX10_room I n b))) G (tX10_room I n b) := by
  show XW l C mX10_room 0 [some (.ref 61), some (.int b), none] [] G I _ G _
  refine XW.iload_n eX10_room_0 rfl ?_
  refine XW.iconst (v := 1) eX10_room_1 (by decide) ?_
  refine XW.bipush (v := 12) eX10_room_2 (by decide) ?_
  refine XW.callS (As := [.int b, .int 1, .int 12]) (st := []) eX10_room_4 okX10_in cs10_123 rfl (YX10_in I  b 1 12) (xnum rfl rfl rfl rfl rfl) ?_
  refine XW.if_eqB eX10_room_7 (fun c_7 => ?_) (fun c_7 => ?_)
  ·
    skip
    refine XW.iconst (v := (-1)) eX10_room_18 (by decide) ?_
    exact XW.iret eX10_room_19 rfl rfl (by simp only [sX10_room, tX10_room, c_7, ↓reduceIte, and_self, ite_self, if_true, if_false]) rfl (by simp only [sX10_room, tX10_room, c_7, ↓reduceIte, and_self, ite_self, if_true, if_false])
  ·
    skip
    refine XW.aload_n eX10_room_10 rfl ?_
    refine XW.callV (As := []) (st := []) eX10_room_11 okX10_allParts cv10_127 rfl (so_61 hs) (YX10_allParts hs I hn h4) (xnum rfl rfl rfl rfl rfl) ?_
    refine XW.iload_n eX10_room_14 rfl ?_
    refine XW.icmp_le eX10_room_15 (fun c_15 => ?_) (fun c_15 => ?_)
    ·
      skip
      refine XW.aload_n eX10_room_20 rfl ?_
      refine XW.getI eX10_room_21 f10_7_10 rfl (so_61 hs) ?_
      refine XW.istore_n (ls' := [some (.ref 61), some (.int b), some (.int (I 61 0))]) eX10_room_24 (Nat.le_of_ble_eq_true rfl) rfl ?_
      refine XW.aload_n eX10_room_25 rfl ?_
      refine XW.iload_n eX10_room_26 rfl ?_
      refine XW.putI eX10_room_27 f10_7_10 (xP_of rfl (by decide)) rfl ⟨rfl, rfl⟩ (so_61 hs) ?_
      refine XW.iload_n eX10_room_30 rfl ?_
      exact XW.iret eX10_room_31 rfl rfl (by simp only [sX10_room, tX10_room, c_7, c_15, ↓reduceIte, and_self, ite_self, if_true, if_false]) rfl (by simp only [sX10_room, tX10_room, c_7, c_15, ↓reduceIte, and_self, ite_self, if_true, if_false])
    ·
      skip
      refine XW.iconst (v := (-1)) eX10_room_18 (by decide) ?_
      exact XW.iret eX10_room_19 rfl rfl (by simp only [sX10_room, tX10_room, c_7, c_15, ↓reduceIte, and_self, ite_self, if_true, if_false]) rfl (by simp only [sX10_room, tX10_room, c_7, c_15, ↓reduceIte, and_self, ite_self, if_true, if_false])
def sX10_share (I : xI)  (a : Int32) : Int32 := (if 1 ≤ a ∧ a ≤ 160 then (I 61 9) else (-1))
def tX10_share (I : xI)  (a : Int32) : xI := (if 1 ≤ a ∧ a ≤ 160 then (wI I 61 9 a) else I)
set_option maxRecDepth 100000 in
set_option maxHeartbeats 4000000 in
theorem YX10_share {l : Launch} {C : xC} {G : xG} (hs : SH G) (I : xI)  (a : Int32) : XW l C mX10_share 0 (xent mX10_share [.ref 61, .int a]) [] G I (some (.int (sX10_share I  a))) G (tX10_share I  a) := by
  show XW l C mX10_share 0 [some (.ref 61), some (.int a), none] [] G I _ G _
  refine XW.iload_n eX10_share_0 rfl ?_
  refine XW.iconst (v := 1) eX10_share_1 (by decide) ?_
  refine XW.sipush (v := 160) eX10_share_2 (by decide) ?_
  refine XW.callS (As := [.int a, .int 1, .int 160]) (st := []) eX10_share_5 okX10_in cs10_123 rfl (YX10_in I  a 1 160) (xnum rfl rfl rfl rfl rfl) ?_
  refine XW.if_neB eX10_share_8 (fun c_8 => ?_) (fun c_8 => ?_)
  ·
    skip
    refine XW.aload_n eX10_share_13 rfl ?_
    refine XW.getI eX10_share_14 f10_38_10 rfl (so_61 hs) ?_
    refine XW.istore_n (ls' := [some (.ref 61), some (.int a), some (.int (I 61 9))]) eX10_share_17 (Nat.le_of_ble_eq_true rfl) rfl ?_
    refine XW.aload_n eX10_share_18 rfl ?_
    refine XW.iload_n eX10_share_19 rfl ?_
    refine XW.putI eX10_share_20 f10_38_10 (xP_of rfl (by decide)) rfl ⟨rfl, rfl⟩ (so_61 hs) ?_
    refine XW.iload_n eX10_share_23 rfl ?_
    exact XW.iret eX10_share_24 rfl rfl (by simp only [sX10_share, tX10_share, c_8, ↓reduceIte, and_self, ite_self, if_true, if_false]) rfl (by simp only [sX10_share, tX10_share, c_8, ↓reduceIte, and_self, ite_self, if_true, if_false])
  ·
    skip
    refine XW.iconst (v := (-1)) eX10_share_11 (by decide) ?_
    exact XW.iret eX10_share_12 rfl rfl (by simp only [sX10_share, tX10_share, c_8, ↓reduceIte, and_self, ite_self, if_true, if_false]) rfl (by simp only [sX10_share, tX10_share, c_8, ↓reduceIte, and_self, ite_self, if_true, if_false])
