/-! the reference: small methods -/
set_option maxRecDepth 100000 in
set_option maxHeartbeats 4000000 in
theorem YX10_in {l : Launch} {C : xC} {G : xG} (I : xI)  (v : Int32) (lo : Int32) (hi : Int32) : XW l C mX10_in 0 (xent mX10_in [.int v, .int lo, .int hi]) [] G I (some (.int (bI (lo ≤ v ∧ v ≤ hi)))) G I := by
  show XW l C mX10_in 0 [some (.int v), some (.int lo), some (.int hi)] [] G I _ G _
  refine XW.iload_n eX10_in_0 rfl ?_
  refine XW.iload_n eX10_in_1 rfl ?_
  refine XW.icmp_lt eX10_in_2 (fun c_2 => ?_) (fun c_2 => ?_)
  ·
    skip
    refine XW.iconst (v := 0) eX10_in_14 (by decide) ?_
    exact XW.iret eX10_in_15 rfl rfl (congrArg (fun z => some (Value.int z)) (if_neg (fun h => Int32.not_le.mpr c_2 h.1))) rfl rfl
  ·
    skip
    refine XW.iload_n eX10_in_5 rfl ?_
    refine XW.iload_n eX10_in_6 rfl ?_
    refine XW.icmp_gt eX10_in_7 (fun c_7 => ?_) (fun c_7 => ?_)
    ·
      skip
      refine XW.iconst (v := 0) eX10_in_14 (by decide) ?_
      exact XW.iret eX10_in_15 rfl rfl (congrArg (fun z => some (Value.int z)) (by first | exact if_neg (fun h => Int32.not_le.mpr c_7 h.2) | exact if_pos ⟨Int32.not_lt.mp c_2, Int32.not_lt.mp c_7⟩)) rfl rfl
    ·
      skip
      refine XW.iconst (v := 1) eX10_in_10 (by decide) ?_
      refine XW.goto eX10_in_11 ?_
      exact XW.iret eX10_in_15 rfl rfl (congrArg (fun z => some (Value.int z)) (by first | exact if_neg (fun h => Int32.not_le.mpr c_7 h.2) | exact if_pos ⟨Int32.not_lt.mp c_2, Int32.not_lt.mp c_7⟩)) rfl rfl
set_option maxRecDepth 100000 in
set_option maxHeartbeats 4000000 in
theorem YX10_isLine {l : Launch} {C : xC} {G : xG} (hs : SH G) (I : xI)  (v : Int32) : XW l C mX10_isLine 0 (xent mX10_isLine [.ref 69, .int v]) [] G I (some (.int (bI (0 ≤ v ∧ v ≤ (I 69 1 - 1))))) G I := by
  show XW l C mX10_isLine 0 [some (.ref 69), some (.int v)] [] G I _ G _
  refine XW.iload_n eX10_isLine_0 rfl ?_
  refine XW.iconst (v := 0) eX10_isLine_1 (by decide) ?_
  refine XW.aload_n eX10_isLine_2 rfl ?_
  refine XW.getI eX10_isLine_3 f10_13_10 rfl (so_69 hs) ?_
  refine XW.iconst (v := 1) eX10_isLine_6 (by decide) ?_
  refine XW.isub eX10_isLine_7 ?_
  refine XW.callS (As := [.int v, .int 0, .int ((I 69 1) - 1)]) (st := []) eX10_isLine_8 okX10_in cs10_123 rfl (YX10_in I  v 0 ((I 69 1) - 1)) (xnum rfl rfl rfl rfl rfl) ?_
  exact XW.iret eX10_isLine_11 rfl (bI_nar _) rfl rfl rfl
set_option maxRecDepth 100000 in
set_option maxHeartbeats 4000000 in
theorem YX10_isSheet {l : Launch} {C : xC} {G : xG} (I : xI)  (v : Int32) : XW l C mX10_isSheet 0 (xent mX10_isSheet [.int v]) [] G I (some (.int (bI (0 ≤ v ∧ v ≤ 3)))) G I := by
  show XW l C mX10_isSheet 0 [some (.int v)] [] G I _ G _
  refine XW.iload_n eX10_isSheet_0 rfl ?_
  refine XW.iconst (v := 0) eX10_isSheet_1 (by decide) ?_
  refine XW.iconst (v := 3) eX10_isSheet_2 (by decide) ?_
  refine XW.callS (As := [.int v, .int 0, .int 3]) (st := []) eX10_isSheet_3 okX10_in cs10_123 rfl (YX10_in I  v 0 3) (xnum rfl rfl rfl rfl rfl) ?_
  exact XW.iret eX10_isSheet_6 rfl (bI_nar _) rfl rfl rfl
set_option maxRecDepth 100000 in
set_option maxHeartbeats 4000000 in
theorem YX10_isRow {l : Launch} {C : xC} {G : xG} (I : xI)  (v : Int32) : XW l C mX10_isRow 0 (xent mX10_isRow [.int v]) [] G I (some (.int (bI (0 ≤ v ∧ v ≤ 3)))) G I := by
  show XW l C mX10_isRow 0 [some (.int v)] [] G I _ G _
  refine XW.iload_n eX10_isRow_0 rfl ?_
  refine XW.iconst (v := 0) eX10_isRow_1 (by decide) ?_
  refine XW.iconst (v := 3) eX10_isRow_2 (by decide) ?_
  refine XW.callS (As := [.int v, .int 0, .int 3]) (st := []) eX10_isRow_3 okX10_in cs10_123 rfl (YX10_in I  v 0 3) (xnum rfl rfl rfl rfl rfl) ?_
  exact XW.iret eX10_isRow_6 rfl (bI_nar _) rfl rfl rfl
def mPart (I : xI) (j : Nat) : Int32 := if I 70 j ≤ 0 then 0 else I 73 j
def mParts (I : xI) : Nat → Int32
  | 0 => 0
  | n + 1 => mParts I n + mPart I n
theorem XW.to {l : Launch} {C : xC} {M : xM} {pc : Nat} {ls ls2 : List (Option Value)} {st st2 : List Value} {G G' : xG} {I I2 I' : xI} {r : Option Value} (kk : XW l C M pc ls2 st2 G I2 r G' I') (h1 : ls = ls2) (h2 : st = st2) (h3 : I = I2) : XW l C M pc ls st G I r G' I' := by subst h1; subst h2; subst h3; exact kk
theorem cl_nI {j n : Nat} (h : j < n) (hn : n ≤ 100000) : (nI j).toNatClampNeg = j := nI_clamp (by omega)
set_option maxRecDepth 100000 in
set_option maxHeartbeats 4000000 in
theorem LX10_allParts {l : Launch} {C : xC} {G : xG} (hs : SH G) (I : xI) {n : Nat} (hn : I 69 1 = nI n) (h4 : n ≤ 4) : ∀ (k j : Nat), j ≤ n → n ≤ j + k → XW l C mX10_allParts 4 [some (.ref 69), some (.int (mParts I j)), some (.int (nI j))] [] G I (some (.int (mParts I n))) G I := by
  intro k
  induction k with
  | zero =>
    intro j h1 h2
    have hjn : j = n := by omega
    subst hjn
    refine XW.iload_n eX10_allParts_4 rfl ?_
    refine XW.aload_n eX10_allParts_5 rfl ?_
    refine XW.getI eX10_allParts_6 f10_13_10 rfl (so_69 hs) ?_
    refine XW.icmp_ge eX10_allParts_9 (fun c_9 => ?_) (fun c_9 => absurd (by rw [hn]; exact nI_le (Nat.le_refl _) (by omega)) c_9)
    refine XW.iload_n eX10_allParts_40 rfl ?_
    exact XW.iret eX10_allParts_41 rfl rfl rfl rfl rfl
  | succ k ih =>
    intro j h1 h2
    refine XW.iload_n eX10_allParts_4 rfl ?_
    refine XW.aload_n eX10_allParts_5 rfl ?_
    refine XW.getI eX10_allParts_6 f10_13_10 rfl (so_69 hs) ?_
    refine XW.icmp_ge eX10_allParts_9 (fun c_9 => ?_) (fun c_9 => ?_)
    ·
      rw [hn] at c_9
      have hj : ¬ j < n := fun h => nI_ge h (by omega) c_9
      have hjn : j = n := by omega
      subst hjn
      refine XW.iload_n eX10_allParts_40 rfl ?_
      exact XW.iret eX10_allParts_41 rfl rfl rfl rfl rfl
    ·
      rw [hn] at c_9
      have hj : j < n := Nat.lt_of_not_le (fun h => c_9 (nI_le h (by omega)))
      have hcl : (nI j).toNatClampNeg = j := nI_clamp (by omega)
      refine XW.iload_n eX10_allParts_12 rfl ?_
      refine XW.aload_n eX10_allParts_13 rfl ?_
      refine XW.getR (b := 70) eX10_allParts_14 f10_16_10 rfl (so_69 hs) (sr_69_2 hs) ?_
      refine XW.iload_n eX10_allParts_17 rfl ?_
      refine XW.iaload eX10_allParts_18 (sa_70 hs) (vp_in_nI (by omega) (by omega)) ?_
      refine XW.if_le eX10_allParts_19 (fun c_19 => ?_) (fun c_19 => ?_)
      ·
        skip
        refine XW.iconst (v := 0) eX10_allParts_31 (by decide) ?_
        refine XW.iadd eX10_allParts_32 ?_
        refine XW.istore_n (ls' := [some (.ref 69), some (.int ((mParts I j) + 0)), some (.int (nI j))]) eX10_allParts_33 (Nat.le_of_ble_eq_true rfl) rfl ?_
        refine XW.iinc (y := ((nI j) + 1)) (ls' := [some (.ref 69), some (.int ((mParts I j) + 0)), some (.int ((nI j) + 1))]) eX10_allParts_34 rfl rfl rfl ?_
        refine XW.goto eX10_allParts_37 ?_
        exact XW.to (ih (j + 1) (by omega) (by omega)) (by rw [hcl] at c_19; simp only [mParts, mPart, nI_succ, hcl]; first | rw [if_pos c_19] | rw [if_neg c_19]) rfl rfl
      ·
        skip
        refine XW.aload_n eX10_allParts_22 rfl ?_
        refine XW.getR (b := 73) eX10_allParts_23 f10_26_10 rfl (so_69 hs) (sr_69_5 hs) ?_
        refine XW.iload_n eX10_allParts_26 rfl ?_
        refine XW.iaload eX10_allParts_27 (sa_73 hs) (vp_in_nI (by omega) (by omega)) ?_
        refine XW.goto eX10_allParts_28 ?_
        refine XW.iadd eX10_allParts_32 ?_
        refine XW.istore_n (ls' := [some (.ref 69), some (.int ((mParts I j) + (I 73 (nI j).toNatClampNeg))), some (.int (nI j))]) eX10_allParts_33 (Nat.le_of_ble_eq_true rfl) rfl ?_
        refine XW.iinc (y := ((nI j) + 1)) (ls' := [some (.ref 69), some (.int ((mParts I j) + (I 73 (nI j).toNatClampNeg))), some (.int ((nI j) + 1))]) eX10_allParts_34 rfl rfl rfl ?_
        refine XW.goto eX10_allParts_37 ?_
        exact XW.to (ih (j + 1) (by omega) (by omega)) (by rw [hcl] at c_19; simp only [mParts, mPart, nI_succ, hcl]; first | rw [if_pos c_19] | rw [if_neg c_19]) rfl rfl
set_option maxRecDepth 100000 in
set_option maxHeartbeats 4000000 in
theorem YX10_allParts {l : Launch} {C : xC} {G : xG} (hs : SH G) (I : xI) {n : Nat} (hn : I 69 1 = nI n) (h4 : n ≤ 4) : XW l C mX10_allParts 0 (xent mX10_allParts [.ref 69]) [] G I (some (.int (mParts I n))) G I := by
  show XW l C mX10_allParts 0 [some (.ref 69), none, none] [] G I _ G _
  refine XW.iconst (v := 0) eX10_allParts_0 (by decide) ?_
  refine XW.istore_n (ls' := [some (.ref 69), some (.int 0), none]) eX10_allParts_1 (Nat.le_of_ble_eq_true rfl) rfl ?_
  refine XW.iconst (v := 0) eX10_allParts_2 (by decide) ?_
  refine XW.istore_n (ls' := [some (.ref 69), some (.int 0), some (.int 0)]) eX10_allParts_3 (Nat.le_of_ble_eq_true rfl) rfl ?_
  exact XW.to (LX10_allParts hs I hn h4 n 0 (Nat.zero_le n) (by omega)) rfl rfl rfl
theorem i32le {x y : Int32} : x ≤ y ↔ x.toInt ≤ y.toInt := Int32.le_iff_toInt_le
theorem i32lt {x y : Int32} : x < y ↔ x.toInt < y.toInt := Int32.lt_iff_toInt_lt
theorem vin_k {x k : Int32} {N : Nat} (h : 0 ≤ x ∧ x ≤ k) (hk : k.toInt < N) : vp_in x N := by
  have h1 := i32le.mp h.1
  have h2 := i32le.mp h.2
  have h0 : (0 : Int32).toInt = 0 := rfl
  exact vp_in_iff.mpr ⟨by omega, by omega⟩
theorem vin_l {x k : Int32} {n N : Nat} (hk : k = nI n) (hn : n ≤ N) (hN : N < 2 ^ 31) (h : 0 ≤ x ∧ x ≤ k - 1) : vp_in x N := by
  subst hk
  cases n with
  | zero =>
    exfalso
    have h1 := i32le.mp h.1
    have h2 := i32le.mp h.2
    have h0 : (0 : Int32).toInt = 0 := rfl
    have h3 : (nI 0 - 1).toInt = -1 := by decide
    omega
  | succ n =>
    rw [nI_pred] at h
    exact vin_k h (by rw [nI_toInt (by omega)]; omega)
theorem tab_out {x : Int32} (n : Nat) (hn : n < 2 ^ 31) (h : ∀ k, k < n → ¬ x = nI k) : x.toInt < 0 ∨ (n : Int) - 1 < x.toInt := by
  by_cases h1 : x.toInt < 0
  · exact Or.inl h1
  · right
    have hx : ¬ x < 0 := fun z => h1 (by have := i32lt.mp z; simpa using this)
    obtain ⟨j, hj, rfl⟩ := nI_of hx
    rw [nI_toInt hj]
    by_cases hjn : j < n
    · exact absurd rfl (h j hjn)
    · omega

def sX10_room (I : xI) (n : Nat) (b : Int32) : Int32 := (if 1 ≤ b ∧ b ≤ 12 then (if (mParts I n) ≤ b then (I 69 0) else (-1)) else (-1))
def tX10_room (I : xI) (n : Nat) (b : Int32) : xI := (if 1 ≤ b ∧ b ≤ 12 then (if (mParts I n) ≤ b then (wI I 69 0 b) else I) else I)
set_option maxRecDepth 100000 in
set_option maxHeartbeats 4000000 in
theorem YX10_room {l : Launch} {C : xC} {G : xG} (hs : SH G) (I : xI) {n : Nat} (hn : I 69 1 = nI n) (h1 : 1 ≤ n) (h4 : n ≤ 4) (b : Int32) : XW l C mX10_room 0 (xent mX10_room [.ref 69, .int b]) [] G I (some (.int (sX10_room I n b))) G (tX10_room I n b) := by
  show XW l C mX10_room 0 [some (.ref 69), some (.int b), none] [] G I _ G _
  refine XW.iload_n eX10_room_0 rfl ?_
  refine XW.iconst (v := 1) eX10_room_1 (by decide) ?_
  refine XW.bipush (v := 12) eX10_room_2 (by decide) ?_
  refine XW.callS (As := [.int b, .int 1, .int 12]) (st := []) eX10_room_4 okX10_in cs10_123 rfl (YX10_in I  b 1 12) (xnum rfl rfl rfl rfl rfl) ?_
  refine XW.if_eqB eX10_room_7 (fun c_7 => ?_) (fun c_7 => ?_)
  ·
    skip
    refine XW.iconst (v := (-1)) eX10_room_18 (by decide) ?_
    exact XW.iret eX10_room_19 rfl rfl (by (try unfold sX10_room); (try unfold tX10_room); (try rw [if_neg c_7]); (try rfl)) rfl (by (try unfold sX10_room); (try unfold tX10_room); (try rw [if_neg c_7]); (try rfl))
  ·
    skip
    refine XW.aload_n eX10_room_10 rfl ?_
    refine XW.callV (As := []) (st := []) eX10_room_11 okX10_allParts cv10_127 rfl (so_69 hs) (YX10_allParts hs I hn h4) (xnum rfl rfl rfl rfl rfl) ?_
    refine XW.iload_n eX10_room_14 rfl ?_
    refine XW.icmp_le eX10_room_15 (fun c_15 => ?_) (fun c_15 => ?_)
    ·
      skip
      refine XW.aload_n eX10_room_20 rfl ?_
      refine XW.getI eX10_room_21 f10_7_10 rfl (so_69 hs) ?_
      refine XW.istore_n (ls' := [some (.ref 69), some (.int b), some (.int (I 69 0))]) eX10_room_24 (Nat.le_of_ble_eq_true rfl) rfl ?_
      refine XW.aload_n eX10_room_25 rfl ?_
      refine XW.iload_n eX10_room_26 rfl ?_
      refine XW.putI eX10_room_27 f10_7_10 (xP_of rfl (by decide)) rfl ⟨rfl, rfl⟩ (so_69 hs) ?_
      refine XW.iload_n eX10_room_30 rfl ?_
      exact XW.iret eX10_room_31 rfl rfl (by (try unfold sX10_room); (try unfold tX10_room); (try rw [if_pos c_7]); (try rw [if_pos c_15]); (try rfl)) rfl (by (try unfold sX10_room); (try unfold tX10_room); (try rw [if_pos c_7]); (try rw [if_pos c_15]); (try rfl))
    ·
      skip
      refine XW.iconst (v := (-1)) eX10_room_18 (by decide) ?_
      exact XW.iret eX10_room_19 rfl rfl (by (try unfold sX10_room); (try unfold tX10_room); (try rw [if_pos c_7]); (try rw [if_neg c_15]); (try rfl)) rfl (by (try unfold sX10_room); (try unfold tX10_room); (try rw [if_pos c_7]); (try rw [if_neg c_15]); (try rfl))
def sX10_share (I : xI)  (a : Int32) : Int32 := (if 1 ≤ a ∧ a ≤ 160 then (I 69 9) else (-1))
def tX10_share (I : xI)  (a : Int32) : xI := (if 1 ≤ a ∧ a ≤ 160 then (wI I 69 9 a) else I)
set_option maxRecDepth 100000 in
set_option maxHeartbeats 4000000 in
theorem YX10_share {l : Launch} {C : xC} {G : xG} (hs : SH G) (I : xI)  (a : Int32) : XW l C mX10_share 0 (xent mX10_share [.ref 69, .int a]) [] G I (some (.int (sX10_share I  a))) G (tX10_share I  a) := by
  show XW l C mX10_share 0 [some (.ref 69), some (.int a), none] [] G I _ G _
  refine XW.iload_n eX10_share_0 rfl ?_
  refine XW.iconst (v := 1) eX10_share_1 (by decide) ?_
  refine XW.sipush (v := 160) eX10_share_2 (by decide) ?_
  refine XW.callS (As := [.int a, .int 1, .int 160]) (st := []) eX10_share_5 okX10_in cs10_123 rfl (YX10_in I  a 1 160) (xnum rfl rfl rfl rfl rfl) ?_
  refine XW.if_neB eX10_share_8 (fun c_8 => ?_) (fun c_8 => ?_)
  ·
    skip
    refine XW.aload_n eX10_share_13 rfl ?_
    refine XW.getI eX10_share_14 f10_38_10 rfl (so_69 hs) ?_
    refine XW.istore_n (ls' := [some (.ref 69), some (.int a), some (.int (I 69 9))]) eX10_share_17 (Nat.le_of_ble_eq_true rfl) rfl ?_
    refine XW.aload_n eX10_share_18 rfl ?_
    refine XW.iload_n eX10_share_19 rfl ?_
    refine XW.putI eX10_share_20 f10_38_10 (xP_of rfl (by decide)) rfl ⟨rfl, rfl⟩ (so_69 hs) ?_
    refine XW.iload_n eX10_share_23 rfl ?_
    exact XW.iret eX10_share_24 rfl rfl (by (try unfold sX10_share); (try unfold tX10_share); (try rw [if_pos c_8]); (try rfl)) rfl (by (try unfold sX10_share); (try unfold tX10_share); (try rw [if_pos c_8]); (try rfl))
  ·
    skip
    refine XW.iconst (v := (-1)) eX10_share_11 (by decide) ?_
    exact XW.iret eX10_share_12 rfl rfl (by (try unfold sX10_share); (try unfold tX10_share); (try rw [if_neg c_8]); (try rfl)) rfl (by (try unfold sX10_share); (try unfold tX10_share); (try rw [if_neg c_8]); (try rfl))
def sX10_mark (I : xI)  (x : Int32) (y : Int32) : Int32 := (if 0 ≤ x ∧ x ≤ (I 69 1 - 1) then (if 0 ≤ y ∧ y ≤ 12 then (I 71 x.toNatClampNeg) else (-1)) else (-1))
def tX10_mark (I : xI)  (x : Int32) (y : Int32) : xI := (if 0 ≤ x ∧ x ≤ (I 69 1 - 1) then (if 0 ≤ y ∧ y ≤ 12 then (wI I 71 x.toNatClampNeg y) else I) else I)
set_option maxRecDepth 100000 in
set_option maxHeartbeats 4000000 in
theorem YX10_mark {l : Launch} {C : xC} {G : xG} (hs : SH G) (I : xI) {n : Nat} (hn : I 69 1 = nI n) (h1 : 1 ≤ n) (h4 : n ≤ 4) (x : Int32) (y : Int32) : XW l C mX10_mark 0 (xent mX10_mark [.ref 69, .int x, .int y]) [] G I (some (.int (sX10_mark I  x y))) G (tX10_mark I  x y) := by
  show XW l C mX10_mark 0 [some (.ref 69), some (.int x), some (.int y), none] [] G I _ G _
  refine XW.aload_n eX10_mark_0 rfl ?_
  refine XW.iload_n eX10_mark_1 rfl ?_
  refine XW.callV (As := [.int x]) (st := []) eX10_mark_2 okX10_isLine cv10_131 rfl (so_69 hs) (YX10_isLine hs I  x) (xnum rfl rfl rfl rfl rfl) ?_
  refine XW.if_eqB eX10_mark_5 (fun c_5 => ?_) (fun c_5 => ?_)
  ·
    skip
    refine XW.iconst (v := (-1)) eX10_mark_18 (by decide) ?_
    exact XW.iret eX10_mark_19 rfl rfl (by (try unfold sX10_mark); (try unfold tX10_mark); (try rw [if_neg c_5]); (try rfl)) rfl (by (try unfold sX10_mark); (try unfold tX10_mark); (try rw [if_neg c_5]); (try rfl))
  ·
    skip
    refine XW.iload_n eX10_mark_8 rfl ?_
    refine XW.iconst (v := 0) eX10_mark_9 (by decide) ?_
    refine XW.bipush (v := 12) eX10_mark_10 (by decide) ?_
    refine XW.callS (As := [.int y, .int 0, .int 12]) (st := []) eX10_mark_12 okX10_in cs10_123 rfl (YX10_in I  y 0 12) (xnum rfl rfl rfl rfl rfl) ?_
    refine XW.if_neB eX10_mark_15 (fun c_15 => ?_) (fun c_15 => ?_)
    ·
      skip
      refine XW.aload_n eX10_mark_20 rfl ?_
      refine XW.getR (b := 71) eX10_mark_21 f10_20_10 rfl (so_69 hs) (sr_69_3 hs) ?_
      refine XW.iload_n eX10_mark_24 rfl ?_
      refine XW.iaload eX10_mark_25 (sa_71 hs) (vin_l hn h4 (by decide) c_5) ?_
      refine XW.istore_n (ls' := [some (.ref 69), some (.int x), some (.int y), some (.int (I 71 x.toNatClampNeg))]) eX10_mark_26 (Nat.le_of_ble_eq_true rfl) rfl ?_
      refine XW.aload_n eX10_mark_27 rfl ?_
      refine XW.getR (b := 71) eX10_mark_28 f10_20_10 rfl (so_69 hs) (sr_69_3 hs) ?_
      refine XW.iload_n eX10_mark_31 rfl ?_
      refine XW.iload_n eX10_mark_32 rfl ?_
      refine XW.iastore eX10_mark_33 (sa_71 hs) (vin_l hn h4 (by decide) c_5) ?_
      refine XW.iload_n eX10_mark_34 rfl ?_
      exact XW.iret eX10_mark_35 rfl rfl (by (try unfold sX10_mark); (try unfold tX10_mark); (try rw [if_pos c_5]); (try rw [if_pos c_15]); (try rfl)) rfl (by (try unfold sX10_mark); (try unfold tX10_mark); (try rw [if_pos c_5]); (try rw [if_pos c_15]); (try rfl))
    ·
      skip
      refine XW.iconst (v := (-1)) eX10_mark_18 (by decide) ?_
      exact XW.iret eX10_mark_19 rfl rfl (by (try unfold sX10_mark); (try unfold tX10_mark); (try rw [if_pos c_5]); (try rw [if_neg c_15]); (try rfl)) rfl (by (try unfold sX10_mark); (try unfold tX10_mark); (try rw [if_pos c_5]); (try rw [if_neg c_15]); (try rfl))
def sX10_pace (I : xI)  (x : Int32) (y : Int32) : Int32 := (if 0 ≤ x ∧ x ≤ (I 69 1 - 1) then (if 1 ≤ y ∧ y ≤ 5 then (I 72 x.toNatClampNeg) else (-1)) else (-1))
def tX10_pace (I : xI)  (x : Int32) (y : Int32) : xI := (if 0 ≤ x ∧ x ≤ (I 69 1 - 1) then (if 1 ≤ y ∧ y ≤ 5 then (wI I 72 x.toNatClampNeg y) else I) else I)
set_option maxRecDepth 100000 in
set_option maxHeartbeats 4000000 in
theorem YX10_pace {l : Launch} {C : xC} {G : xG} (hs : SH G) (I : xI) {n : Nat} (hn : I 69 1 = nI n) (h1 : 1 ≤ n) (h4 : n ≤ 4) (x : Int32) (y : Int32) : XW l C mX10_pace 0 (xent mX10_pace [.ref 69, .int x, .int y]) [] G I (some (.int (sX10_pace I  x y))) G (tX10_pace I  x y) := by
  show XW l C mX10_pace 0 [some (.ref 69), some (.int x), some (.int y), none] [] G I _ G _
  refine XW.aload_n eX10_pace_0 rfl ?_
  refine XW.iload_n eX10_pace_1 rfl ?_
  refine XW.callV (As := [.int x]) (st := []) eX10_pace_2 okX10_isLine cv10_131 rfl (so_69 hs) (YX10_isLine hs I  x) (xnum rfl rfl rfl rfl rfl) ?_
  refine XW.if_eqB eX10_pace_5 (fun c_5 => ?_) (fun c_5 => ?_)
  ·
    skip
    refine XW.iconst (v := (-1)) eX10_pace_17 (by decide) ?_
    exact XW.iret eX10_pace_18 rfl rfl (by (try unfold sX10_pace); (try unfold tX10_pace); (try rw [if_neg c_5]); (try rfl)) rfl (by (try unfold sX10_pace); (try unfold tX10_pace); (try rw [if_neg c_5]); (try rfl))
  ·
    skip
    refine XW.iload_n eX10_pace_8 rfl ?_
    refine XW.iconst (v := 1) eX10_pace_9 (by decide) ?_
    refine XW.iconst (v := 5) eX10_pace_10 (by decide) ?_
    refine XW.callS (As := [.int y, .int 1, .int 5]) (st := []) eX10_pace_11 okX10_in cs10_123 rfl (YX10_in I  y 1 5) (xnum rfl rfl rfl rfl rfl) ?_
    refine XW.if_neB eX10_pace_14 (fun c_14 => ?_) (fun c_14 => ?_)
    ·
      skip
      refine XW.aload_n eX10_pace_19 rfl ?_
      refine XW.getR (b := 72) eX10_pace_20 f10_23_10 rfl (so_69 hs) (sr_69_4 hs) ?_
      refine XW.iload_n eX10_pace_23 rfl ?_
      refine XW.iaload eX10_pace_24 (sa_72 hs) (vin_l hn h4 (by decide) c_5) ?_
      refine XW.istore_n (ls' := [some (.ref 69), some (.int x), some (.int y), some (.int (I 72 x.toNatClampNeg))]) eX10_pace_25 (Nat.le_of_ble_eq_true rfl) rfl ?_
      refine XW.aload_n eX10_pace_26 rfl ?_
      refine XW.getR (b := 72) eX10_pace_27 f10_23_10 rfl (so_69 hs) (sr_69_4 hs) ?_
      refine XW.iload_n eX10_pace_30 rfl ?_
      refine XW.iload_n eX10_pace_31 rfl ?_
      refine XW.iastore eX10_pace_32 (sa_72 hs) (vin_l hn h4 (by decide) c_5) ?_
      refine XW.iload_n eX10_pace_33 rfl ?_
      exact XW.iret eX10_pace_34 rfl rfl (by (try unfold sX10_pace); (try unfold tX10_pace); (try rw [if_pos c_5]); (try rw [if_pos c_14]); (try rfl)) rfl (by (try unfold sX10_pace); (try unfold tX10_pace); (try rw [if_pos c_5]); (try rw [if_pos c_14]); (try rfl))
    ·
      skip
      refine XW.iconst (v := (-1)) eX10_pace_17 (by decide) ?_
      exact XW.iret eX10_pace_18 rfl rfl (by (try unfold sX10_pace); (try unfold tX10_pace); (try rw [if_pos c_5]); (try rw [if_neg c_14]); (try rfl)) rfl (by (try unfold sX10_pace); (try unfold tX10_pace); (try rw [if_pos c_5]); (try rw [if_neg c_14]); (try rfl))
def sX10_part (I : xI) (n : Nat) (x : Int32) (y : Int32) : Int32 := (if 0 ≤ x ∧ x ≤ (I 69 1 - 1) then (if 0 ≤ y ∧ y ≤ 12 then (if (I 70 x.toNatClampNeg) = 0 then (-12) else (if (((mParts I n) - (I 73 x.toNatClampNeg)) + y) ≤ (I 69 0) then (I 73 x.toNatClampNeg) else (-2))) else (-1)) else (-1))
def tX10_part (I : xI) (n : Nat) (x : Int32) (y : Int32) : xI := (if 0 ≤ x ∧ x ≤ (I 69 1 - 1) then (if 0 ≤ y ∧ y ≤ 12 then (if (I 70 x.toNatClampNeg) = 0 then I else (if (((mParts I n) - (I 73 x.toNatClampNeg)) + y) ≤ (I 69 0) then (wI I 73 x.toNatClampNeg y) else I)) else I) else I)
set_option maxRecDepth 100000 in
set_option maxHeartbeats 4000000 in
theorem YX10_part {l : Launch} {C : xC} {G : xG} (hs : SH G) (I : xI) {n : Nat} (hn : I 69 1 = nI n) (h1 : 1 ≤ n) (h4 : n ≤ 4) (x : Int32) (y : Int32) : XW l C mX10_part 0 (xent mX10_part [.ref 69, .int x, .int y]) [] G I (some (.int (sX10_part I n x y))) G (tX10_part I n x y) := by
  show XW l C mX10_part 0 [some (.ref 69), some (.int x), some (.int y), none] [] G I _ G _
  refine XW.aload_n eX10_part_0 rfl ?_
  refine XW.iload_n eX10_part_1 rfl ?_
  refine XW.callV (As := [.int x]) (st := []) eX10_part_2 okX10_isLine cv10_131 rfl (so_69 hs) (YX10_isLine hs I  x) (xnum rfl rfl rfl rfl rfl) ?_
  refine XW.if_eqB eX10_part_5 (fun c_5 => ?_) (fun c_5 => ?_)
  ·
    skip
    refine XW.iconst (v := (-1)) eX10_part_18 (by decide) ?_
    exact XW.iret eX10_part_19 rfl rfl (by (try unfold sX10_part); (try unfold tX10_part); (try rw [if_neg c_5]); (try rfl)) rfl (by (try unfold sX10_part); (try unfold tX10_part); (try rw [if_neg c_5]); (try rfl))
  ·
    skip
    refine XW.iload_n eX10_part_8 rfl ?_
    refine XW.iconst (v := 0) eX10_part_9 (by decide) ?_
    refine XW.bipush (v := 12) eX10_part_10 (by decide) ?_
    refine XW.callS (As := [.int y, .int 0, .int 12]) (st := []) eX10_part_12 okX10_in cs10_123 rfl (YX10_in I  y 0 12) (xnum rfl rfl rfl rfl rfl) ?_
    refine XW.if_neB eX10_part_15 (fun c_15 => ?_) (fun c_15 => ?_)
    ·
      skip
      refine XW.aload_n eX10_part_20 rfl ?_
      refine XW.getR (b := 70) eX10_part_21 f10_16_10 rfl (so_69 hs) (sr_69_2 hs) ?_
      refine XW.iload_n eX10_part_24 rfl ?_
      refine XW.iaload eX10_part_25 (sa_70 hs) (vin_l hn h4 (by decide) c_5) ?_
      refine XW.if_ne eX10_part_26 (fun c_26 => ?_) (fun c_26 => ?_)
      ·
        skip
        refine XW.aload_n eX10_part_32 rfl ?_
        refine XW.callV (As := []) (st := []) eX10_part_33 okX10_allParts cv10_127 rfl (so_69 hs) (YX10_allParts hs I hn h4) (xnum rfl rfl rfl rfl rfl) ?_
        refine XW.aload_n eX10_part_36 rfl ?_
        refine XW.getR (b := 73) eX10_part_37 f10_26_10 rfl (so_69 hs) (sr_69_5 hs) ?_
        refine XW.iload_n eX10_part_40 rfl ?_
        refine XW.iaload eX10_part_41 (sa_73 hs) (vin_l hn h4 (by decide) c_5) ?_
        refine XW.isub eX10_part_42 ?_
        refine XW.iload_n eX10_part_43 rfl ?_
        refine XW.iadd eX10_part_44 ?_
        refine XW.aload_n eX10_part_45 rfl ?_
        refine XW.getI eX10_part_46 f10_7_10 rfl (so_69 hs) ?_
        refine XW.icmp_le eX10_part_49 (fun c_49 => ?_) (fun c_49 => ?_)
        ·
          skip
          refine XW.aload_n eX10_part_55 rfl ?_
          refine XW.getR (b := 73) eX10_part_56 f10_26_10 rfl (so_69 hs) (sr_69_5 hs) ?_
          refine XW.iload_n eX10_part_59 rfl ?_
          refine XW.iaload eX10_part_60 (sa_73 hs) (vin_l hn h4 (by decide) c_5) ?_
          refine XW.istore_n (ls' := [some (.ref 69), some (.int x), some (.int y), some (.int (I 73 x.toNatClampNeg))]) eX10_part_61 (Nat.le_of_ble_eq_true rfl) rfl ?_
          refine XW.aload_n eX10_part_62 rfl ?_
          refine XW.getR (b := 73) eX10_part_63 f10_26_10 rfl (so_69 hs) (sr_69_5 hs) ?_
          refine XW.iload_n eX10_part_66 rfl ?_
          refine XW.iload_n eX10_part_67 rfl ?_
          refine XW.iastore eX10_part_68 (sa_73 hs) (vin_l hn h4 (by decide) c_5) ?_
          refine XW.iload_n eX10_part_69 rfl ?_
          exact XW.iret eX10_part_70 rfl rfl (by (try unfold sX10_part); (try unfold tX10_part); (try rw [if_pos c_5]); (try rw [if_pos c_15]); (try rw [if_neg c_26]); (try rw [if_pos c_49]); (try rfl)) rfl (by (try unfold sX10_part); (try unfold tX10_part); (try rw [if_pos c_5]); (try rw [if_pos c_15]); (try rw [if_neg c_26]); (try rw [if_pos c_49]); (try rfl))
        ·
          skip
          refine XW.bipush (v := (-2)) eX10_part_52 (by decide) ?_
          exact XW.iret eX10_part_54 rfl rfl (by (try unfold sX10_part); (try unfold tX10_part); (try rw [if_pos c_5]); (try rw [if_pos c_15]); (try rw [if_neg c_26]); (try rw [if_neg c_49]); (try rfl)) rfl (by (try unfold sX10_part); (try unfold tX10_part); (try rw [if_pos c_5]); (try rw [if_pos c_15]); (try rw [if_neg c_26]); (try rw [if_neg c_49]); (try rfl))
      ·
        skip
        refine XW.bipush (v := (-12)) eX10_part_29 (by decide) ?_
        exact XW.iret eX10_part_31 rfl rfl (by (try unfold sX10_part); (try unfold tX10_part); (try rw [if_pos c_5]); (try rw [if_pos c_15]); (try rw [if_pos c_26]); (try rfl)) rfl (by (try unfold sX10_part); (try unfold tX10_part); (try rw [if_pos c_5]); (try rw [if_pos c_15]); (try rw [if_pos c_26]); (try rfl))
    ·
      skip
      refine XW.iconst (v := (-1)) eX10_part_18 (by decide) ?_
      exact XW.iret eX10_part_19 rfl rfl (by (try unfold sX10_part); (try unfold tX10_part); (try rw [if_pos c_5]); (try rw [if_neg c_15]); (try rfl)) rfl (by (try unfold sX10_part); (try unfold tX10_part); (try rw [if_pos c_5]); (try rw [if_neg c_15]); (try rfl))
def sX10_hold (I : xI)  (x : Int32) (y : Int32) (z : Int32) (w : Int32) : Int32 := (if 0 ≤ x ∧ x ≤ (I 69 1 - 1) then (if 1 ≤ y ∧ y ≤ 12 then (if 0 ≤ z ∧ z ≤ 11 then (if y ≤ z then (-1) else (if 0 ≤ w ∧ w ≤ 5 then (if (I 70 x.toNatClampNeg) = 2 then 1 else (-12)) else (-1))) else (-1)) else (-1)) else (-1))
def tX10_hold (I : xI)  (x : Int32) (y : Int32) (z : Int32) (w : Int32) : xI := (if 0 ≤ x ∧ x ≤ (I 69 1 - 1) then (if 1 ≤ y ∧ y ≤ 12 then (if 0 ≤ z ∧ z ≤ 11 then (if y ≤ z then I else (if 0 ≤ w ∧ w ≤ 5 then (if (I 70 x.toNatClampNeg) = 2 then (wI (wI (wI I 74 x.toNatClampNeg y) 75 x.toNatClampNeg z) 76 x.toNatClampNeg w) else I) else I)) else I) else I) else I)
set_option maxRecDepth 100000 in
set_option maxHeartbeats 4000000 in
theorem YX10_hold {l : Launch} {C : xC} {G : xG} (hs : SH G) (I : xI) {n : Nat} (hn : I 69 1 = nI n) (h1 : 1 ≤ n) (h4 : n ≤ 4) (x : Int32) (y : Int32) (z : Int32) (w : Int32) : XW l C mX10_hold 0 (xent mX10_hold [.ref 69, .int x, .int y, .int z, .int w]) [] G I (some (.int (sX10_hold I  x y z w))) G (tX10_hold I  x y z w) := by
  show XW l C mX10_hold 0 [some (.ref 69), some (.int x), some (.int y), some (.int z), some (.int w)] [] G I _ G _
  refine XW.aload_n eX10_hold_0 rfl ?_
  refine XW.iload_n eX10_hold_1 rfl ?_
  refine XW.callV (As := [.int x]) (st := []) eX10_hold_2 okX10_isLine cv10_131 rfl (so_69 hs) (YX10_isLine hs I  x) (xnum rfl rfl rfl rfl rfl) ?_
  refine XW.if_eqB eX10_hold_5 (fun c_5 => ?_) (fun c_5 => ?_)
  ·
    skip
    refine XW.iconst (v := (-1)) eX10_hold_43 (by decide) ?_
    exact XW.iret eX10_hold_44 rfl rfl (by (try unfold sX10_hold); (try unfold tX10_hold); (try rw [if_neg c_5]); (try rfl)) rfl (by (try unfold sX10_hold); (try unfold tX10_hold); (try rw [if_neg c_5]); (try rfl))
  ·
    skip
    refine XW.iload_n eX10_hold_8 rfl ?_
    refine XW.iconst (v := 1) eX10_hold_9 (by decide) ?_
    refine XW.bipush (v := 12) eX10_hold_10 (by decide) ?_
    refine XW.callS (As := [.int y, .int 1, .int 12]) (st := []) eX10_hold_12 okX10_in cs10_123 rfl (YX10_in I  y 1 12) (xnum rfl rfl rfl rfl rfl) ?_
    refine XW.if_eqB eX10_hold_15 (fun c_15 => ?_) (fun c_15 => ?_)
    ·
      skip
      refine XW.iconst (v := (-1)) eX10_hold_43 (by decide) ?_
      exact XW.iret eX10_hold_44 rfl rfl (by (try unfold sX10_hold); (try unfold tX10_hold); (try rw [if_pos c_5]); (try rw [if_neg c_15]); (try rfl)) rfl (by (try unfold sX10_hold); (try unfold tX10_hold); (try rw [if_pos c_5]); (try rw [if_neg c_15]); (try rfl))
    ·
      skip
      refine XW.iload_n eX10_hold_18 rfl ?_
      refine XW.iconst (v := 0) eX10_hold_19 (by decide) ?_
      refine XW.bipush (v := 11) eX10_hold_20 (by decide) ?_
      refine XW.callS (As := [.int z, .int 0, .int 11]) (st := []) eX10_hold_22 okX10_in cs10_123 rfl (YX10_in I  z 0 11) (xnum rfl rfl rfl rfl rfl) ?_
      refine XW.if_eqB eX10_hold_25 (fun c_25 => ?_) (fun c_25 => ?_)
      ·
        skip
        refine XW.iconst (v := (-1)) eX10_hold_43 (by decide) ?_
        exact XW.iret eX10_hold_44 rfl rfl (by (try unfold sX10_hold); (try unfold tX10_hold); (try rw [if_pos c_5]); (try rw [if_pos c_15]); (try rw [if_neg c_25]); (try rfl)) rfl (by (try unfold sX10_hold); (try unfold tX10_hold); (try rw [if_pos c_5]); (try rw [if_pos c_15]); (try rw [if_neg c_25]); (try rfl))
      ·
        skip
        refine XW.iload_n eX10_hold_28 rfl ?_
        refine XW.iload_n eX10_hold_29 rfl ?_
        refine XW.icmp_ge eX10_hold_30 (fun c_30 => ?_) (fun c_30 => ?_)
        ·
          skip
          refine XW.iconst (v := (-1)) eX10_hold_43 (by decide) ?_
          exact XW.iret eX10_hold_44 rfl rfl (by (try unfold sX10_hold); (try unfold tX10_hold); (try rw [if_pos c_5]); (try rw [if_pos c_15]); (try rw [if_pos c_25]); (try rw [if_pos c_30]); (try rfl)) rfl (by (try unfold sX10_hold); (try unfold tX10_hold); (try rw [if_pos c_5]); (try rw [if_pos c_15]); (try rw [if_pos c_25]); (try rw [if_pos c_30]); (try rfl))
        ·
          skip
          refine XW.iload eX10_hold_33 rfl ?_
          refine XW.iconst (v := 0) eX10_hold_35 (by decide) ?_
          refine XW.iconst (v := 5) eX10_hold_36 (by decide) ?_
          refine XW.callS (As := [.int w, .int 0, .int 5]) (st := []) eX10_hold_37 okX10_in cs10_123 rfl (YX10_in I  w 0 5) (xnum rfl rfl rfl rfl rfl) ?_
          refine XW.if_neB eX10_hold_40 (fun c_40 => ?_) (fun c_40 => ?_)
          ·
            skip
            refine XW.aload_n eX10_hold_45 rfl ?_
            refine XW.getR (b := 70) eX10_hold_46 f10_16_10 rfl (so_69 hs) (sr_69_2 hs) ?_
            refine XW.iload_n eX10_hold_49 rfl ?_
            refine XW.iaload eX10_hold_50 (sa_70 hs) (vin_l hn h4 (by decide) c_5) ?_
            refine XW.iconst (v := 2) eX10_hold_51 (by decide) ?_
            refine XW.icmp_eq eX10_hold_52 (fun c_52 => ?_) (fun c_52 => ?_)
            ·
              skip
              refine XW.aload_n eX10_hold_58 rfl ?_
              refine XW.getR (b := 74) eX10_hold_59 f10_29_10 rfl (so_69 hs) (sr_69_6 hs) ?_
              refine XW.iload_n eX10_hold_62 rfl ?_
              refine XW.iload_n eX10_hold_63 rfl ?_
              refine XW.iastore eX10_hold_64 (sa_74 hs) (vin_l hn h4 (by decide) c_5) ?_
              refine XW.aload_n eX10_hold_65 rfl ?_
              refine XW.getR (b := 75) eX10_hold_66 f10_32_10 rfl (so_69 hs) (sr_69_7 hs) ?_
              refine XW.iload_n eX10_hold_69 rfl ?_
              refine XW.iload_n eX10_hold_70 rfl ?_
              refine XW.iastore eX10_hold_71 (sa_75 hs) (vin_l hn h4 (by decide) c_5) ?_
              refine XW.aload_n eX10_hold_72 rfl ?_
              refine XW.getR (b := 76) eX10_hold_73 f10_35_10 rfl (so_69 hs) (sr_69_8 hs) ?_
              refine XW.iload_n eX10_hold_76 rfl ?_
              refine XW.iload eX10_hold_77 rfl ?_
              refine XW.iastore eX10_hold_79 (sa_76 hs) (vin_l hn h4 (by decide) c_5) ?_
              refine XW.iconst (v := 1) eX10_hold_80 (by decide) ?_
              exact XW.iret eX10_hold_81 rfl rfl (by (try unfold sX10_hold); (try unfold tX10_hold); (try rw [if_pos c_5]); (try rw [if_pos c_15]); (try rw [if_pos c_25]); (try rw [if_neg c_30]); (try rw [if_pos c_40]); (try rw [if_pos c_52]); (try rfl)) rfl (by (try unfold sX10_hold); (try unfold tX10_hold); (try rw [if_pos c_5]); (try rw [if_pos c_15]); (try rw [if_pos c_25]); (try rw [if_neg c_30]); (try rw [if_pos c_40]); (try rw [if_pos c_52]); (try rfl))
            ·
              skip
              refine XW.bipush (v := (-12)) eX10_hold_55 (by decide) ?_
              exact XW.iret eX10_hold_57 rfl rfl (by (try unfold sX10_hold); (try unfold tX10_hold); (try rw [if_pos c_5]); (try rw [if_pos c_15]); (try rw [if_pos c_25]); (try rw [if_neg c_30]); (try rw [if_pos c_40]); (try rw [if_neg c_52]); (try rfl)) rfl (by (try unfold sX10_hold); (try unfold tX10_hold); (try rw [if_pos c_5]); (try rw [if_pos c_15]); (try rw [if_pos c_25]); (try rw [if_neg c_30]); (try rw [if_pos c_40]); (try rw [if_neg c_52]); (try rfl))
          ·
            skip
            refine XW.iconst (v := (-1)) eX10_hold_43 (by decide) ?_
            exact XW.iret eX10_hold_44 rfl rfl (by (try unfold sX10_hold); (try unfold tX10_hold); (try rw [if_pos c_5]); (try rw [if_pos c_15]); (try rw [if_pos c_25]); (try rw [if_neg c_30]); (try rw [if_neg c_40]); (try rfl)) rfl (by (try unfold sX10_hold); (try unfold tX10_hold); (try rw [if_pos c_5]); (try rw [if_pos c_15]); (try rw [if_pos c_25]); (try rw [if_neg c_30]); (try rw [if_neg c_40]); (try rfl))
def sX10_told (I : xI)  (x : Int32) (y : Int32) : Int32 := (if 0 ≤ x ∧ x ≤ (I 69 1 - 1) then (if (I 70 x.toNatClampNeg) ≤ 0 then (if (I 70 x.toNatClampNeg) = 2 then (if y = 0 then (I 70 x.toNatClampNeg) else (if y = 1 then (I 71 x.toNatClampNeg) else (if y = 2 then 0 else (if y = 3 then (I 74 x.toNatClampNeg) else (if y = 4 then (I 75 x.toNatClampNeg) else (if y = 5 then (I 76 x.toNatClampNeg) else (if y = 6 then ((I 74 x.toNatClampNeg) + (I 76 x.toNatClampNeg)) else (if y = 7 then (I 72 x.toNatClampNeg) else (-1))))))))) else (if y = 0 then (I 70 x.toNatClampNeg) else (if y = 1 then (I 71 x.toNatClampNeg) else (if y = 2 then 0 else (if y = 3 then 0 else (if y = 4 then 0 else (if y = 5 then 0 else (if y = 6 then 0 else (if y = 7 then (I 72 x.toNatClampNeg) else (-1)))))))))) else (if (I 70 x.toNatClampNeg) = 2 then (if y = 0 then (I 70 x.toNatClampNeg) else (if y = 1 then (I 71 x.toNatClampNeg) else (if y = 2 then (I 73 x.toNatClampNeg) else (if y = 3 then (I 74 x.toNatClampNeg) else (if y = 4 then (I 75 x.toNatClampNeg) else (if y = 5 then (I 76 x.toNatClampNeg) else (if y = 6 then ((I 74 x.toNatClampNeg) + (I 76 x.toNatClampNeg)) else (if y = 7 then (I 72 x.toNatClampNeg) else (-1))))))))) else (if y = 0 then (I 70 x.toNatClampNeg) else (if y = 1 then (I 71 x.toNatClampNeg) else (if y = 2 then (I 73 x.toNatClampNeg) else (if y = 3 then 0 else (if y = 4 then 0 else (if y = 5 then 0 else (if y = 6 then 0 else (if y = 7 then (I 72 x.toNatClampNeg) else (-1))))))))))) else (-1))
set_option maxRecDepth 100000 in
set_option maxHeartbeats 4000000 in
theorem YX10_told {l : Launch} {C : xC} {G : xG} (hs : SH G) (I : xI) {n : Nat} (hn : I 69 1 = nI n) (h1 : 1 ≤ n) (h4 : n ≤ 4) (x : Int32) (y : Int32) : XW l C mX10_told 0 (xent mX10_told [.ref 69, .int x, .int y]) [] G I (some (.int (sX10_told I  x y))) G I := by
  show XW l C mX10_told 0 [some (.ref 69), some (.int x), some (.int y), none, none] [] G I _ G _
  refine XW.aload_n eX10_told_0 rfl ?_
  refine XW.iload_n eX10_told_1 rfl ?_
  refine XW.callV (As := [.int x]) (st := []) eX10_told_2 okX10_isLine cv10_131 rfl (so_69 hs) (YX10_isLine hs I  x) (xnum rfl rfl rfl rfl rfl) ?_
  refine XW.if_neB eX10_told_5 (fun c_5 => ?_) (fun c_5 => ?_)
  ·
    skip
    refine XW.aload_n eX10_told_10 rfl ?_
    refine XW.getR (b := 70) eX10_told_11 f10_16_10 rfl (so_69 hs) (sr_69_2 hs) ?_
    refine XW.iload_n eX10_told_14 rfl ?_
    refine XW.iaload eX10_told_15 (sa_70 hs) (vin_l hn h4 (by decide) c_5) ?_
    refine XW.if_le eX10_told_16 (fun c_16 => ?_) (fun c_16 => ?_)
    ·
      skip
      refine XW.iconst (v := 0) eX10_told_23 (by decide) ?_
      refine XW.istore_n (ls' := [some (.ref 69), some (.int x), some (.int y), some (.int 0), none]) eX10_told_24 (Nat.le_of_ble_eq_true rfl) rfl ?_
      refine XW.aload_n eX10_told_25 rfl ?_
      refine XW.getR (b := 70) eX10_told_26 f10_16_10 rfl (so_69 hs) (sr_69_2 hs) ?_
      refine XW.iload_n eX10_told_29 rfl ?_
      refine XW.iaload eX10_told_30 (sa_70 hs) (vin_l hn h4 (by decide) c_5) ?_
      refine XW.iconst (v := 2) eX10_told_31 (by decide) ?_
      refine XW.icmp_ne eX10_told_32 (fun c_32 => ?_) (fun c_32 => ?_)
      ·
        skip
        refine XW.iconst (v := 0) eX10_told_39 (by decide) ?_
        refine XW.istore (ls' := [some (.ref 69), some (.int x), some (.int y), some (.int 0), some (.int 0)]) eX10_told_40 (Nat.le_of_ble_eq_true rfl) rfl ?_
        refine XW.iload_n eX10_told_42 rfl ?_
        by_cases c_43_0 : y = 0
        ·
          refine XW.tabIn (off := 45) (tgt := 88) dX10_told_43 (by rw [c_43_0]; decide) (by rw [c_43_0]; decide) (by rw [c_43_0]; rfl) (by decide) ?_
          refine XW.aload_n eX10_told_88 rfl ?_
          refine XW.getR (b := 70) eX10_told_89 f10_16_10 rfl (so_69 hs) (sr_69_2 hs) ?_
          refine XW.iload_n eX10_told_92 rfl ?_
          refine XW.iaload eX10_told_93 (sa_70 hs) (vin_l hn h4 (by decide) c_5) ?_
          exact XW.iret eX10_told_94 rfl rfl (by (try unfold sX10_told); (try unfold tX10_told); (try rw [if_pos c_5]); (try rw [if_pos c_16]); (try rw [if_neg c_32]); (try rw [if_pos c_43_0]); (try rfl)) rfl (by (try unfold sX10_told); (try unfold tX10_told); (try rw [if_pos c_5]); (try rw [if_pos c_16]); (try rw [if_neg c_32]); (try rw [if_pos c_43_0]); (try rfl))
        by_cases c_43_1 : y = 1
        ·
          refine XW.tabIn (off := 52) (tgt := 95) dX10_told_43 (by rw [c_43_1]; decide) (by rw [c_43_1]; decide) (by rw [c_43_1]; rfl) (by decide) ?_
          refine XW.aload_n eX10_told_95 rfl ?_
          refine XW.getR (b := 71) eX10_told_96 f10_20_10 rfl (so_69 hs) (sr_69_3 hs) ?_
          refine XW.iload_n eX10_told_99 rfl ?_
          refine XW.iaload eX10_told_100 (sa_71 hs) (vin_l hn h4 (by decide) c_5) ?_
          exact XW.iret eX10_told_101 rfl rfl (by (try unfold sX10_told); (try unfold tX10_told); (try rw [if_pos c_5]); (try rw [if_pos c_16]); (try rw [if_neg c_32]); (try rw [if_neg c_43_0]); (try rw [if_pos c_43_1]); (try rfl)) rfl (by (try unfold sX10_told); (try unfold tX10_told); (try rw [if_pos c_5]); (try rw [if_pos c_16]); (try rw [if_neg c_32]); (try rw [if_neg c_43_0]); (try rw [if_pos c_43_1]); (try rfl))
        by_cases c_43_2 : y = 2
        ·
          refine XW.tabIn (off := 59) (tgt := 102) dX10_told_43 (by rw [c_43_2]; decide) (by rw [c_43_2]; decide) (by rw [c_43_2]; rfl) (by decide) ?_
          refine XW.iload_n eX10_told_102 rfl ?_
          refine XW.if_eq eX10_told_103 (fun _ => ?_) (fun h => absurd (by decide) h)
          refine XW.iconst (v := 0) eX10_told_115 (by decide) ?_
          exact XW.iret eX10_told_116 rfl rfl (by (try unfold sX10_told); (try unfold tX10_told); (try rw [if_pos c_5]); (try rw [if_pos c_16]); (try rw [if_neg c_32]); (try rw [if_neg c_43_0]); (try rw [if_neg c_43_1]); (try rw [if_pos c_43_2]); (try rfl)) rfl (by (try unfold sX10_told); (try unfold tX10_told); (try rw [if_pos c_5]); (try rw [if_pos c_16]); (try rw [if_neg c_32]); (try rw [if_neg c_43_0]); (try rw [if_neg c_43_1]); (try rw [if_pos c_43_2]); (try rfl))
        by_cases c_43_3 : y = 3
        ·
          refine XW.tabIn (off := 74) (tgt := 117) dX10_told_43 (by rw [c_43_3]; decide) (by rw [c_43_3]; decide) (by rw [c_43_3]; rfl) (by decide) ?_
          refine XW.iload eX10_told_117 rfl ?_
          refine XW.if_eq eX10_told_119 (fun _ => ?_) (fun h => absurd (by decide) h)
          refine XW.iconst (v := 0) eX10_told_131 (by decide) ?_
          exact XW.iret eX10_told_132 rfl rfl (by (try unfold sX10_told); (try unfold tX10_told); (try rw [if_pos c_5]); (try rw [if_pos c_16]); (try rw [if_neg c_32]); (try rw [if_neg c_43_0]); (try rw [if_neg c_43_1]); (try rw [if_neg c_43_2]); (try rw [if_pos c_43_3]); (try rfl)) rfl (by (try unfold sX10_told); (try unfold tX10_told); (try rw [if_pos c_5]); (try rw [if_pos c_16]); (try rw [if_neg c_32]); (try rw [if_neg c_43_0]); (try rw [if_neg c_43_1]); (try rw [if_neg c_43_2]); (try rw [if_pos c_43_3]); (try rfl))
        by_cases c_43_4 : y = 4
        ·
          refine XW.tabIn (off := 90) (tgt := 133) dX10_told_43 (by rw [c_43_4]; decide) (by rw [c_43_4]; decide) (by rw [c_43_4]; rfl) (by decide) ?_
          refine XW.iload eX10_told_133 rfl ?_
          refine XW.if_eq eX10_told_135 (fun _ => ?_) (fun h => absurd (by decide) h)
          refine XW.iconst (v := 0) eX10_told_147 (by decide) ?_
          exact XW.iret eX10_told_148 rfl rfl (by (try unfold sX10_told); (try unfold tX10_told); (try rw [if_pos c_5]); (try rw [if_pos c_16]); (try rw [if_neg c_32]); (try rw [if_neg c_43_0]); (try rw [if_neg c_43_1]); (try rw [if_neg c_43_2]); (try rw [if_neg c_43_3]); (try rw [if_pos c_43_4]); (try rfl)) rfl (by (try unfold sX10_told); (try unfold tX10_told); (try rw [if_pos c_5]); (try rw [if_pos c_16]); (try rw [if_neg c_32]); (try rw [if_neg c_43_0]); (try rw [if_neg c_43_1]); (try rw [if_neg c_43_2]); (try rw [if_neg c_43_3]); (try rw [if_pos c_43_4]); (try rfl))
        by_cases c_43_5 : y = 5
        ·
          refine XW.tabIn (off := 106) (tgt := 149) dX10_told_43 (by rw [c_43_5]; decide) (by rw [c_43_5]; decide) (by rw [c_43_5]; rfl) (by decide) ?_
          refine XW.iload eX10_told_149 rfl ?_
          refine XW.if_eq eX10_told_151 (fun _ => ?_) (fun h => absurd (by decide) h)
          refine XW.iconst (v := 0) eX10_told_163 (by decide) ?_
          exact XW.iret eX10_told_164 rfl rfl (by (try unfold sX10_told); (try unfold tX10_told); (try rw [if_pos c_5]); (try rw [if_pos c_16]); (try rw [if_neg c_32]); (try rw [if_neg c_43_0]); (try rw [if_neg c_43_1]); (try rw [if_neg c_43_2]); (try rw [if_neg c_43_3]); (try rw [if_neg c_43_4]); (try rw [if_pos c_43_5]); (try rfl)) rfl (by (try unfold sX10_told); (try unfold tX10_told); (try rw [if_pos c_5]); (try rw [if_pos c_16]); (try rw [if_neg c_32]); (try rw [if_neg c_43_0]); (try rw [if_neg c_43_1]); (try rw [if_neg c_43_2]); (try rw [if_neg c_43_3]); (try rw [if_neg c_43_4]); (try rw [if_pos c_43_5]); (try rfl))
        by_cases c_43_6 : y = 6
        ·
          refine XW.tabIn (off := 122) (tgt := 165) dX10_told_43 (by rw [c_43_6]; decide) (by rw [c_43_6]; decide) (by rw [c_43_6]; rfl) (by decide) ?_
          refine XW.iload eX10_told_165 rfl ?_
          refine XW.if_eq eX10_told_167 (fun _ => ?_) (fun h => absurd (by decide) h)
          refine XW.iconst (v := 0) eX10_told_186 (by decide) ?_
          exact XW.iret eX10_told_187 rfl rfl (by (try unfold sX10_told); (try unfold tX10_told); (try rw [if_pos c_5]); (try rw [if_pos c_16]); (try rw [if_neg c_32]); (try rw [if_neg c_43_0]); (try rw [if_neg c_43_1]); (try rw [if_neg c_43_2]); (try rw [if_neg c_43_3]); (try rw [if_neg c_43_4]); (try rw [if_neg c_43_5]); (try rw [if_pos c_43_6]); (try rfl)) rfl (by (try unfold sX10_told); (try unfold tX10_told); (try rw [if_pos c_5]); (try rw [if_pos c_16]); (try rw [if_neg c_32]); (try rw [if_neg c_43_0]); (try rw [if_neg c_43_1]); (try rw [if_neg c_43_2]); (try rw [if_neg c_43_3]); (try rw [if_neg c_43_4]); (try rw [if_neg c_43_5]); (try rw [if_pos c_43_6]); (try rfl))
        by_cases c_43_7 : y = 7
        ·
          refine XW.tabIn (off := 145) (tgt := 188) dX10_told_43 (by rw [c_43_7]; decide) (by rw [c_43_7]; decide) (by rw [c_43_7]; rfl) (by decide) ?_
          refine XW.aload_n eX10_told_188 rfl ?_
          refine XW.getR (b := 72) eX10_told_189 f10_23_10 rfl (so_69 hs) (sr_69_4 hs) ?_
          refine XW.iload_n eX10_told_192 rfl ?_
          refine XW.iaload eX10_told_193 (sa_72 hs) (vin_l hn h4 (by decide) c_5) ?_
          exact XW.iret eX10_told_194 rfl rfl (by (try unfold sX10_told); (try unfold tX10_told); (try rw [if_pos c_5]); (try rw [if_pos c_16]); (try rw [if_neg c_32]); (try rw [if_neg c_43_0]); (try rw [if_neg c_43_1]); (try rw [if_neg c_43_2]); (try rw [if_neg c_43_3]); (try rw [if_neg c_43_4]); (try rw [if_neg c_43_5]); (try rw [if_neg c_43_6]); (try rw [if_pos c_43_7]); (try rfl)) rfl (by (try unfold sX10_told); (try unfold tX10_told); (try rw [if_pos c_5]); (try rw [if_pos c_16]); (try rw [if_neg c_32]); (try rw [if_neg c_43_0]); (try rw [if_neg c_43_1]); (try rw [if_neg c_43_2]); (try rw [if_neg c_43_3]); (try rw [if_neg c_43_4]); (try rw [if_neg c_43_5]); (try rw [if_neg c_43_6]); (try rw [if_pos c_43_7]); (try rfl))
        refine XW.tabOut (tgt := 195) dX10_told_43 (tab_out 8 (by decide) (by intro k hk; rcases (show k = 0 ∨ k = 1 ∨ k = 2 ∨ k = 3 ∨ k = 4 ∨ k = 5 ∨ k = 6 ∨ k = 7 by omega) with rfl | rfl | rfl | rfl | rfl | rfl | rfl | rfl <;> first | exact c_43_0 | exact c_43_1 | exact c_43_2 | exact c_43_3 | exact c_43_4 | exact c_43_5 | exact c_43_6 | exact c_43_7)) (by decide) ?_
        refine XW.iconst (v := (-1)) eX10_told_195 (by decide) ?_
        exact XW.iret eX10_told_196 rfl rfl (by (try unfold sX10_told); (try unfold tX10_told); (try rw [if_pos c_5]); (try rw [if_pos c_16]); (try rw [if_neg c_32]); (try rw [if_neg c_43_0]); (try rw [if_neg c_43_1]); (try rw [if_neg c_43_2]); (try rw [if_neg c_43_3]); (try rw [if_neg c_43_4]); (try rw [if_neg c_43_5]); (try rw [if_neg c_43_6]); (try rw [if_neg c_43_7]); (try rfl)) rfl (by (try unfold sX10_told); (try unfold tX10_told); (try rw [if_pos c_5]); (try rw [if_pos c_16]); (try rw [if_neg c_32]); (try rw [if_neg c_43_0]); (try rw [if_neg c_43_1]); (try rw [if_neg c_43_2]); (try rw [if_neg c_43_3]); (try rw [if_neg c_43_4]); (try rw [if_neg c_43_5]); (try rw [if_neg c_43_6]); (try rw [if_neg c_43_7]); (try rfl))
      ·
        skip
        refine XW.iconst (v := 1) eX10_told_35 (by decide) ?_
        refine XW.goto eX10_told_36 ?_
        refine XW.istore (ls' := [some (.ref 69), some (.int x), some (.int y), some (.int 0), some (.int 1)]) eX10_told_40 (Nat.le_of_ble_eq_true rfl) rfl ?_
        refine XW.iload_n eX10_told_42 rfl ?_
        by_cases c_43_0 : y = 0
        ·
          refine XW.tabIn (off := 45) (tgt := 88) dX10_told_43 (by rw [c_43_0]; decide) (by rw [c_43_0]; decide) (by rw [c_43_0]; rfl) (by decide) ?_
          refine XW.aload_n eX10_told_88 rfl ?_
          refine XW.getR (b := 70) eX10_told_89 f10_16_10 rfl (so_69 hs) (sr_69_2 hs) ?_
          refine XW.iload_n eX10_told_92 rfl ?_
          refine XW.iaload eX10_told_93 (sa_70 hs) (vin_l hn h4 (by decide) c_5) ?_
          exact XW.iret eX10_told_94 rfl rfl (by (try unfold sX10_told); (try unfold tX10_told); (try rw [if_pos c_5]); (try rw [if_pos c_16]); (try rw [if_pos c_32]); (try rw [if_pos c_43_0]); (try rfl)) rfl (by (try unfold sX10_told); (try unfold tX10_told); (try rw [if_pos c_5]); (try rw [if_pos c_16]); (try rw [if_pos c_32]); (try rw [if_pos c_43_0]); (try rfl))
        by_cases c_43_1 : y = 1
        ·
          refine XW.tabIn (off := 52) (tgt := 95) dX10_told_43 (by rw [c_43_1]; decide) (by rw [c_43_1]; decide) (by rw [c_43_1]; rfl) (by decide) ?_
          refine XW.aload_n eX10_told_95 rfl ?_
          refine XW.getR (b := 71) eX10_told_96 f10_20_10 rfl (so_69 hs) (sr_69_3 hs) ?_
          refine XW.iload_n eX10_told_99 rfl ?_
          refine XW.iaload eX10_told_100 (sa_71 hs) (vin_l hn h4 (by decide) c_5) ?_
          exact XW.iret eX10_told_101 rfl rfl (by (try unfold sX10_told); (try unfold tX10_told); (try rw [if_pos c_5]); (try rw [if_pos c_16]); (try rw [if_pos c_32]); (try rw [if_neg c_43_0]); (try rw [if_pos c_43_1]); (try rfl)) rfl (by (try unfold sX10_told); (try unfold tX10_told); (try rw [if_pos c_5]); (try rw [if_pos c_16]); (try rw [if_pos c_32]); (try rw [if_neg c_43_0]); (try rw [if_pos c_43_1]); (try rfl))
        by_cases c_43_2 : y = 2
        ·
          refine XW.tabIn (off := 59) (tgt := 102) dX10_told_43 (by rw [c_43_2]; decide) (by rw [c_43_2]; decide) (by rw [c_43_2]; rfl) (by decide) ?_
          refine XW.iload_n eX10_told_102 rfl ?_
          refine XW.if_eq eX10_told_103 (fun _ => ?_) (fun h => absurd (by decide) h)
          refine XW.iconst (v := 0) eX10_told_115 (by decide) ?_
          exact XW.iret eX10_told_116 rfl rfl (by (try unfold sX10_told); (try unfold tX10_told); (try rw [if_pos c_5]); (try rw [if_pos c_16]); (try rw [if_pos c_32]); (try rw [if_neg c_43_0]); (try rw [if_neg c_43_1]); (try rw [if_pos c_43_2]); (try rfl)) rfl (by (try unfold sX10_told); (try unfold tX10_told); (try rw [if_pos c_5]); (try rw [if_pos c_16]); (try rw [if_pos c_32]); (try rw [if_neg c_43_0]); (try rw [if_neg c_43_1]); (try rw [if_pos c_43_2]); (try rfl))
        by_cases c_43_3 : y = 3
        ·
          refine XW.tabIn (off := 74) (tgt := 117) dX10_told_43 (by rw [c_43_3]; decide) (by rw [c_43_3]; decide) (by rw [c_43_3]; rfl) (by decide) ?_
          refine XW.iload eX10_told_117 rfl ?_
          refine XW.if_eq eX10_told_119 (fun h => absurd h (by decide)) (fun _ => ?_)
          refine XW.aload_n eX10_told_122 rfl ?_
          refine XW.getR (b := 74) eX10_told_123 f10_29_10 rfl (so_69 hs) (sr_69_6 hs) ?_
          refine XW.iload_n eX10_told_126 rfl ?_
          refine XW.iaload eX10_told_127 (sa_74 hs) (vin_l hn h4 (by decide) c_5) ?_
          refine XW.goto eX10_told_128 ?_
          exact XW.iret eX10_told_132 rfl rfl (by (try unfold sX10_told); (try unfold tX10_told); (try rw [if_pos c_5]); (try rw [if_pos c_16]); (try rw [if_pos c_32]); (try rw [if_neg c_43_0]); (try rw [if_neg c_43_1]); (try rw [if_neg c_43_2]); (try rw [if_pos c_43_3]); (try rfl)) rfl (by (try unfold sX10_told); (try unfold tX10_told); (try rw [if_pos c_5]); (try rw [if_pos c_16]); (try rw [if_pos c_32]); (try rw [if_neg c_43_0]); (try rw [if_neg c_43_1]); (try rw [if_neg c_43_2]); (try rw [if_pos c_43_3]); (try rfl))
        by_cases c_43_4 : y = 4
        ·
          refine XW.tabIn (off := 90) (tgt := 133) dX10_told_43 (by rw [c_43_4]; decide) (by rw [c_43_4]; decide) (by rw [c_43_4]; rfl) (by decide) ?_
          refine XW.iload eX10_told_133 rfl ?_
          refine XW.if_eq eX10_told_135 (fun h => absurd h (by decide)) (fun _ => ?_)
          refine XW.aload_n eX10_told_138 rfl ?_
          refine XW.getR (b := 75) eX10_told_139 f10_32_10 rfl (so_69 hs) (sr_69_7 hs) ?_
          refine XW.iload_n eX10_told_142 rfl ?_
          refine XW.iaload eX10_told_143 (sa_75 hs) (vin_l hn h4 (by decide) c_5) ?_
          refine XW.goto eX10_told_144 ?_
          exact XW.iret eX10_told_148 rfl rfl (by (try unfold sX10_told); (try unfold tX10_told); (try rw [if_pos c_5]); (try rw [if_pos c_16]); (try rw [if_pos c_32]); (try rw [if_neg c_43_0]); (try rw [if_neg c_43_1]); (try rw [if_neg c_43_2]); (try rw [if_neg c_43_3]); (try rw [if_pos c_43_4]); (try rfl)) rfl (by (try unfold sX10_told); (try unfold tX10_told); (try rw [if_pos c_5]); (try rw [if_pos c_16]); (try rw [if_pos c_32]); (try rw [if_neg c_43_0]); (try rw [if_neg c_43_1]); (try rw [if_neg c_43_2]); (try rw [if_neg c_43_3]); (try rw [if_pos c_43_4]); (try rfl))
        by_cases c_43_5 : y = 5
        ·
          refine XW.tabIn (off := 106) (tgt := 149) dX10_told_43 (by rw [c_43_5]; decide) (by rw [c_43_5]; decide) (by rw [c_43_5]; rfl) (by decide) ?_
          refine XW.iload eX10_told_149 rfl ?_
          refine XW.if_eq eX10_told_151 (fun h => absurd h (by decide)) (fun _ => ?_)
          refine XW.aload_n eX10_told_154 rfl ?_
          refine XW.getR (b := 76) eX10_told_155 f10_35_10 rfl (so_69 hs) (sr_69_8 hs) ?_
          refine XW.iload_n eX10_told_158 rfl ?_
          refine XW.iaload eX10_told_159 (sa_76 hs) (vin_l hn h4 (by decide) c_5) ?_
          refine XW.goto eX10_told_160 ?_
          exact XW.iret eX10_told_164 rfl rfl (by (try unfold sX10_told); (try unfold tX10_told); (try rw [if_pos c_5]); (try rw [if_pos c_16]); (try rw [if_pos c_32]); (try rw [if_neg c_43_0]); (try rw [if_neg c_43_1]); (try rw [if_neg c_43_2]); (try rw [if_neg c_43_3]); (try rw [if_neg c_43_4]); (try rw [if_pos c_43_5]); (try rfl)) rfl (by (try unfold sX10_told); (try unfold tX10_told); (try rw [if_pos c_5]); (try rw [if_pos c_16]); (try rw [if_pos c_32]); (try rw [if_neg c_43_0]); (try rw [if_neg c_43_1]); (try rw [if_neg c_43_2]); (try rw [if_neg c_43_3]); (try rw [if_neg c_43_4]); (try rw [if_pos c_43_5]); (try rfl))
        by_cases c_43_6 : y = 6
        ·
          refine XW.tabIn (off := 122) (tgt := 165) dX10_told_43 (by rw [c_43_6]; decide) (by rw [c_43_6]; decide) (by rw [c_43_6]; rfl) (by decide) ?_
          refine XW.iload eX10_told_165 rfl ?_
          refine XW.if_eq eX10_told_167 (fun h => absurd h (by decide)) (fun _ => ?_)
          refine XW.aload_n eX10_told_170 rfl ?_
          refine XW.getR (b := 74) eX10_told_171 f10_29_10 rfl (so_69 hs) (sr_69_6 hs) ?_
          refine XW.iload_n eX10_told_174 rfl ?_
          refine XW.iaload eX10_told_175 (sa_74 hs) (vin_l hn h4 (by decide) c_5) ?_
          refine XW.aload_n eX10_told_176 rfl ?_
          refine XW.getR (b := 76) eX10_told_177 f10_35_10 rfl (so_69 hs) (sr_69_8 hs) ?_
          refine XW.iload_n eX10_told_180 rfl ?_
          refine XW.iaload eX10_told_181 (sa_76 hs) (vin_l hn h4 (by decide) c_5) ?_
          refine XW.iadd eX10_told_182 ?_
          refine XW.goto eX10_told_183 ?_
          exact XW.iret eX10_told_187 rfl rfl (by (try unfold sX10_told); (try unfold tX10_told); (try rw [if_pos c_5]); (try rw [if_pos c_16]); (try rw [if_pos c_32]); (try rw [if_neg c_43_0]); (try rw [if_neg c_43_1]); (try rw [if_neg c_43_2]); (try rw [if_neg c_43_3]); (try rw [if_neg c_43_4]); (try rw [if_neg c_43_5]); (try rw [if_pos c_43_6]); (try rfl)) rfl (by (try unfold sX10_told); (try unfold tX10_told); (try rw [if_pos c_5]); (try rw [if_pos c_16]); (try rw [if_pos c_32]); (try rw [if_neg c_43_0]); (try rw [if_neg c_43_1]); (try rw [if_neg c_43_2]); (try rw [if_neg c_43_3]); (try rw [if_neg c_43_4]); (try rw [if_neg c_43_5]); (try rw [if_pos c_43_6]); (try rfl))
        by_cases c_43_7 : y = 7
        ·
          refine XW.tabIn (off := 145) (tgt := 188) dX10_told_43 (by rw [c_43_7]; decide) (by rw [c_43_7]; decide) (by rw [c_43_7]; rfl) (by decide) ?_
          refine XW.aload_n eX10_told_188 rfl ?_
          refine XW.getR (b := 72) eX10_told_189 f10_23_10 rfl (so_69 hs) (sr_69_4 hs) ?_
          refine XW.iload_n eX10_told_192 rfl ?_
          refine XW.iaload eX10_told_193 (sa_72 hs) (vin_l hn h4 (by decide) c_5) ?_
          exact XW.iret eX10_told_194 rfl rfl (by (try unfold sX10_told); (try unfold tX10_told); (try rw [if_pos c_5]); (try rw [if_pos c_16]); (try rw [if_pos c_32]); (try rw [if_neg c_43_0]); (try rw [if_neg c_43_1]); (try rw [if_neg c_43_2]); (try rw [if_neg c_43_3]); (try rw [if_neg c_43_4]); (try rw [if_neg c_43_5]); (try rw [if_neg c_43_6]); (try rw [if_pos c_43_7]); (try rfl)) rfl (by (try unfold sX10_told); (try unfold tX10_told); (try rw [if_pos c_5]); (try rw [if_pos c_16]); (try rw [if_pos c_32]); (try rw [if_neg c_43_0]); (try rw [if_neg c_43_1]); (try rw [if_neg c_43_2]); (try rw [if_neg c_43_3]); (try rw [if_neg c_43_4]); (try rw [if_neg c_43_5]); (try rw [if_neg c_43_6]); (try rw [if_pos c_43_7]); (try rfl))
        refine XW.tabOut (tgt := 195) dX10_told_43 (tab_out 8 (by decide) (by intro k hk; rcases (show k = 0 ∨ k = 1 ∨ k = 2 ∨ k = 3 ∨ k = 4 ∨ k = 5 ∨ k = 6 ∨ k = 7 by omega) with rfl | rfl | rfl | rfl | rfl | rfl | rfl | rfl <;> first | exact c_43_0 | exact c_43_1 | exact c_43_2 | exact c_43_3 | exact c_43_4 | exact c_43_5 | exact c_43_6 | exact c_43_7)) (by decide) ?_
        refine XW.iconst (v := (-1)) eX10_told_195 (by decide) ?_
        exact XW.iret eX10_told_196 rfl rfl (by (try unfold sX10_told); (try unfold tX10_told); (try rw [if_pos c_5]); (try rw [if_pos c_16]); (try rw [if_pos c_32]); (try rw [if_neg c_43_0]); (try rw [if_neg c_43_1]); (try rw [if_neg c_43_2]); (try rw [if_neg c_43_3]); (try rw [if_neg c_43_4]); (try rw [if_neg c_43_5]); (try rw [if_neg c_43_6]); (try rw [if_neg c_43_7]); (try rfl)) rfl (by (try unfold sX10_told); (try unfold tX10_told); (try rw [if_pos c_5]); (try rw [if_pos c_16]); (try rw [if_pos c_32]); (try rw [if_neg c_43_0]); (try rw [if_neg c_43_1]); (try rw [if_neg c_43_2]); (try rw [if_neg c_43_3]); (try rw [if_neg c_43_4]); (try rw [if_neg c_43_5]); (try rw [if_neg c_43_6]); (try rw [if_neg c_43_7]); (try rfl))
    ·
      skip
      refine XW.iconst (v := 1) eX10_told_19 (by decide) ?_
      refine XW.goto eX10_told_20 ?_
      refine XW.istore_n (ls' := [some (.ref 69), some (.int x), some (.int y), some (.int 1), none]) eX10_told_24 (Nat.le_of_ble_eq_true rfl) rfl ?_
      refine XW.aload_n eX10_told_25 rfl ?_
      refine XW.getR (b := 70) eX10_told_26 f10_16_10 rfl (so_69 hs) (sr_69_2 hs) ?_
      refine XW.iload_n eX10_told_29 rfl ?_
      refine XW.iaload eX10_told_30 (sa_70 hs) (vin_l hn h4 (by decide) c_5) ?_
      refine XW.iconst (v := 2) eX10_told_31 (by decide) ?_
      refine XW.icmp_ne eX10_told_32 (fun c_32 => ?_) (fun c_32 => ?_)
      ·
        skip
        refine XW.iconst (v := 0) eX10_told_39 (by decide) ?_
        refine XW.istore (ls' := [some (.ref 69), some (.int x), some (.int y), some (.int 1), some (.int 0)]) eX10_told_40 (Nat.le_of_ble_eq_true rfl) rfl ?_
        refine XW.iload_n eX10_told_42 rfl ?_
        by_cases c_43_0 : y = 0
        ·
          refine XW.tabIn (off := 45) (tgt := 88) dX10_told_43 (by rw [c_43_0]; decide) (by rw [c_43_0]; decide) (by rw [c_43_0]; rfl) (by decide) ?_
          refine XW.aload_n eX10_told_88 rfl ?_
          refine XW.getR (b := 70) eX10_told_89 f10_16_10 rfl (so_69 hs) (sr_69_2 hs) ?_
          refine XW.iload_n eX10_told_92 rfl ?_
          refine XW.iaload eX10_told_93 (sa_70 hs) (vin_l hn h4 (by decide) c_5) ?_
          exact XW.iret eX10_told_94 rfl rfl (by (try unfold sX10_told); (try unfold tX10_told); (try rw [if_pos c_5]); (try rw [if_neg c_16]); (try rw [if_neg c_32]); (try rw [if_pos c_43_0]); (try rfl)) rfl (by (try unfold sX10_told); (try unfold tX10_told); (try rw [if_pos c_5]); (try rw [if_neg c_16]); (try rw [if_neg c_32]); (try rw [if_pos c_43_0]); (try rfl))
        by_cases c_43_1 : y = 1
        ·
          refine XW.tabIn (off := 52) (tgt := 95) dX10_told_43 (by rw [c_43_1]; decide) (by rw [c_43_1]; decide) (by rw [c_43_1]; rfl) (by decide) ?_
          refine XW.aload_n eX10_told_95 rfl ?_
          refine XW.getR (b := 71) eX10_told_96 f10_20_10 rfl (so_69 hs) (sr_69_3 hs) ?_
          refine XW.iload_n eX10_told_99 rfl ?_
          refine XW.iaload eX10_told_100 (sa_71 hs) (vin_l hn h4 (by decide) c_5) ?_
          exact XW.iret eX10_told_101 rfl rfl (by (try unfold sX10_told); (try unfold tX10_told); (try rw [if_pos c_5]); (try rw [if_neg c_16]); (try rw [if_neg c_32]); (try rw [if_neg c_43_0]); (try rw [if_pos c_43_1]); (try rfl)) rfl (by (try unfold sX10_told); (try unfold tX10_told); (try rw [if_pos c_5]); (try rw [if_neg c_16]); (try rw [if_neg c_32]); (try rw [if_neg c_43_0]); (try rw [if_pos c_43_1]); (try rfl))
        by_cases c_43_2 : y = 2
        ·
          refine XW.tabIn (off := 59) (tgt := 102) dX10_told_43 (by rw [c_43_2]; decide) (by rw [c_43_2]; decide) (by rw [c_43_2]; rfl) (by decide) ?_
          refine XW.iload_n eX10_told_102 rfl ?_
          refine XW.if_eq eX10_told_103 (fun h => absurd h (by decide)) (fun _ => ?_)
          refine XW.aload_n eX10_told_106 rfl ?_
          refine XW.getR (b := 73) eX10_told_107 f10_26_10 rfl (so_69 hs) (sr_69_5 hs) ?_
          refine XW.iload_n eX10_told_110 rfl ?_
          refine XW.iaload eX10_told_111 (sa_73 hs) (vin_l hn h4 (by decide) c_5) ?_
          refine XW.goto eX10_told_112 ?_
          exact XW.iret eX10_told_116 rfl rfl (by (try unfold sX10_told); (try unfold tX10_told); (try rw [if_pos c_5]); (try rw [if_neg c_16]); (try rw [if_neg c_32]); (try rw [if_neg c_43_0]); (try rw [if_neg c_43_1]); (try rw [if_pos c_43_2]); (try rfl)) rfl (by (try unfold sX10_told); (try unfold tX10_told); (try rw [if_pos c_5]); (try rw [if_neg c_16]); (try rw [if_neg c_32]); (try rw [if_neg c_43_0]); (try rw [if_neg c_43_1]); (try rw [if_pos c_43_2]); (try rfl))
        by_cases c_43_3 : y = 3
        ·
          refine XW.tabIn (off := 74) (tgt := 117) dX10_told_43 (by rw [c_43_3]; decide) (by rw [c_43_3]; decide) (by rw [c_43_3]; rfl) (by decide) ?_
          refine XW.iload eX10_told_117 rfl ?_
          refine XW.if_eq eX10_told_119 (fun _ => ?_) (fun h => absurd (by decide) h)
          refine XW.iconst (v := 0) eX10_told_131 (by decide) ?_
          exact XW.iret eX10_told_132 rfl rfl (by (try unfold sX10_told); (try unfold tX10_told); (try rw [if_pos c_5]); (try rw [if_neg c_16]); (try rw [if_neg c_32]); (try rw [if_neg c_43_0]); (try rw [if_neg c_43_1]); (try rw [if_neg c_43_2]); (try rw [if_pos c_43_3]); (try rfl)) rfl (by (try unfold sX10_told); (try unfold tX10_told); (try rw [if_pos c_5]); (try rw [if_neg c_16]); (try rw [if_neg c_32]); (try rw [if_neg c_43_0]); (try rw [if_neg c_43_1]); (try rw [if_neg c_43_2]); (try rw [if_pos c_43_3]); (try rfl))
        by_cases c_43_4 : y = 4
        ·
          refine XW.tabIn (off := 90) (tgt := 133) dX10_told_43 (by rw [c_43_4]; decide) (by rw [c_43_4]; decide) (by rw [c_43_4]; rfl) (by decide) ?_
          refine XW.iload eX10_told_133 rfl ?_
          refine XW.if_eq eX10_told_135 (fun _ => ?_) (fun h => absurd (by decide) h)
          refine XW.iconst (v := 0) eX10_told_147 (by decide) ?_
          exact XW.iret eX10_told_148 rfl rfl (by (try unfold sX10_told); (try unfold tX10_told); (try rw [if_pos c_5]); (try rw [if_neg c_16]); (try rw [if_neg c_32]); (try rw [if_neg c_43_0]); (try rw [if_neg c_43_1]); (try rw [if_neg c_43_2]); (try rw [if_neg c_43_3]); (try rw [if_pos c_43_4]); (try rfl)) rfl (by (try unfold sX10_told); (try unfold tX10_told); (try rw [if_pos c_5]); (try rw [if_neg c_16]); (try rw [if_neg c_32]); (try rw [if_neg c_43_0]); (try rw [if_neg c_43_1]); (try rw [if_neg c_43_2]); (try rw [if_neg c_43_3]); (try rw [if_pos c_43_4]); (try rfl))
        by_cases c_43_5 : y = 5
        ·
          refine XW.tabIn (off := 106) (tgt := 149) dX10_told_43 (by rw [c_43_5]; decide) (by rw [c_43_5]; decide) (by rw [c_43_5]; rfl) (by decide) ?_
          refine XW.iload eX10_told_149 rfl ?_
          refine XW.if_eq eX10_told_151 (fun _ => ?_) (fun h => absurd (by decide) h)
          refine XW.iconst (v := 0) eX10_told_163 (by decide) ?_
          exact XW.iret eX10_told_164 rfl rfl (by (try unfold sX10_told); (try unfold tX10_told); (try rw [if_pos c_5]); (try rw [if_neg c_16]); (try rw [if_neg c_32]); (try rw [if_neg c_43_0]); (try rw [if_neg c_43_1]); (try rw [if_neg c_43_2]); (try rw [if_neg c_43_3]); (try rw [if_neg c_43_4]); (try rw [if_pos c_43_5]); (try rfl)) rfl (by (try unfold sX10_told); (try unfold tX10_told); (try rw [if_pos c_5]); (try rw [if_neg c_16]); (try rw [if_neg c_32]); (try rw [if_neg c_43_0]); (try rw [if_neg c_43_1]); (try rw [if_neg c_43_2]); (try rw [if_neg c_43_3]); (try rw [if_neg c_43_4]); (try rw [if_pos c_43_5]); (try rfl))
        by_cases c_43_6 : y = 6
        ·
          refine XW.tabIn (off := 122) (tgt := 165) dX10_told_43 (by rw [c_43_6]; decide) (by rw [c_43_6]; decide) (by rw [c_43_6]; rfl) (by decide) ?_
          refine XW.iload eX10_told_165 rfl ?_
          refine XW.if_eq eX10_told_167 (fun _ => ?_) (fun h => absurd (by decide) h)
          refine XW.iconst (v := 0) eX10_told_186 (by decide) ?_
          exact XW.iret eX10_told_187 rfl rfl (by (try unfold sX10_told); (try unfold tX10_told); (try rw [if_pos c_5]); (try rw [if_neg c_16]); (try rw [if_neg c_32]); (try rw [if_neg c_43_0]); (try rw [if_neg c_43_1]); (try rw [if_neg c_43_2]); (try rw [if_neg c_43_3]); (try rw [if_neg c_43_4]); (try rw [if_neg c_43_5]); (try rw [if_pos c_43_6]); (try rfl)) rfl (by (try unfold sX10_told); (try unfold tX10_told); (try rw [if_pos c_5]); (try rw [if_neg c_16]); (try rw [if_neg c_32]); (try rw [if_neg c_43_0]); (try rw [if_neg c_43_1]); (try rw [if_neg c_43_2]); (try rw [if_neg c_43_3]); (try rw [if_neg c_43_4]); (try rw [if_neg c_43_5]); (try rw [if_pos c_43_6]); (try rfl))
        by_cases c_43_7 : y = 7
        ·
          refine XW.tabIn (off := 145) (tgt := 188) dX10_told_43 (by rw [c_43_7]; decide) (by rw [c_43_7]; decide) (by rw [c_43_7]; rfl) (by decide) ?_
          refine XW.aload_n eX10_told_188 rfl ?_
          refine XW.getR (b := 72) eX10_told_189 f10_23_10 rfl (so_69 hs) (sr_69_4 hs) ?_
          refine XW.iload_n eX10_told_192 rfl ?_
          refine XW.iaload eX10_told_193 (sa_72 hs) (vin_l hn h4 (by decide) c_5) ?_
          exact XW.iret eX10_told_194 rfl rfl (by (try unfold sX10_told); (try unfold tX10_told); (try rw [if_pos c_5]); (try rw [if_neg c_16]); (try rw [if_neg c_32]); (try rw [if_neg c_43_0]); (try rw [if_neg c_43_1]); (try rw [if_neg c_43_2]); (try rw [if_neg c_43_3]); (try rw [if_neg c_43_4]); (try rw [if_neg c_43_5]); (try rw [if_neg c_43_6]); (try rw [if_pos c_43_7]); (try rfl)) rfl (by (try unfold sX10_told); (try unfold tX10_told); (try rw [if_pos c_5]); (try rw [if_neg c_16]); (try rw [if_neg c_32]); (try rw [if_neg c_43_0]); (try rw [if_neg c_43_1]); (try rw [if_neg c_43_2]); (try rw [if_neg c_43_3]); (try rw [if_neg c_43_4]); (try rw [if_neg c_43_5]); (try rw [if_neg c_43_6]); (try rw [if_pos c_43_7]); (try rfl))
        refine XW.tabOut (tgt := 195) dX10_told_43 (tab_out 8 (by decide) (by intro k hk; rcases (show k = 0 ∨ k = 1 ∨ k = 2 ∨ k = 3 ∨ k = 4 ∨ k = 5 ∨ k = 6 ∨ k = 7 by omega) with rfl | rfl | rfl | rfl | rfl | rfl | rfl | rfl <;> first | exact c_43_0 | exact c_43_1 | exact c_43_2 | exact c_43_3 | exact c_43_4 | exact c_43_5 | exact c_43_6 | exact c_43_7)) (by decide) ?_
        refine XW.iconst (v := (-1)) eX10_told_195 (by decide) ?_
        exact XW.iret eX10_told_196 rfl rfl (by (try unfold sX10_told); (try unfold tX10_told); (try rw [if_pos c_5]); (try rw [if_neg c_16]); (try rw [if_neg c_32]); (try rw [if_neg c_43_0]); (try rw [if_neg c_43_1]); (try rw [if_neg c_43_2]); (try rw [if_neg c_43_3]); (try rw [if_neg c_43_4]); (try rw [if_neg c_43_5]); (try rw [if_neg c_43_6]); (try rw [if_neg c_43_7]); (try rfl)) rfl (by (try unfold sX10_told); (try unfold tX10_told); (try rw [if_pos c_5]); (try rw [if_neg c_16]); (try rw [if_neg c_32]); (try rw [if_neg c_43_0]); (try rw [if_neg c_43_1]); (try rw [if_neg c_43_2]); (try rw [if_neg c_43_3]); (try rw [if_neg c_43_4]); (try rw [if_neg c_43_5]); (try rw [if_neg c_43_6]); (try rw [if_neg c_43_7]); (try rfl))
      ·
        skip
        refine XW.iconst (v := 1) eX10_told_35 (by decide) ?_
        refine XW.goto eX10_told_36 ?_
        refine XW.istore (ls' := [some (.ref 69), some (.int x), some (.int y), some (.int 1), some (.int 1)]) eX10_told_40 (Nat.le_of_ble_eq_true rfl) rfl ?_
        refine XW.iload_n eX10_told_42 rfl ?_
        by_cases c_43_0 : y = 0
        ·
          refine XW.tabIn (off := 45) (tgt := 88) dX10_told_43 (by rw [c_43_0]; decide) (by rw [c_43_0]; decide) (by rw [c_43_0]; rfl) (by decide) ?_
          refine XW.aload_n eX10_told_88 rfl ?_
          refine XW.getR (b := 70) eX10_told_89 f10_16_10 rfl (so_69 hs) (sr_69_2 hs) ?_
          refine XW.iload_n eX10_told_92 rfl ?_
          refine XW.iaload eX10_told_93 (sa_70 hs) (vin_l hn h4 (by decide) c_5) ?_
          exact XW.iret eX10_told_94 rfl rfl (by (try unfold sX10_told); (try unfold tX10_told); (try rw [if_pos c_5]); (try rw [if_neg c_16]); (try rw [if_pos c_32]); (try rw [if_pos c_43_0]); (try rfl)) rfl (by (try unfold sX10_told); (try unfold tX10_told); (try rw [if_pos c_5]); (try rw [if_neg c_16]); (try rw [if_pos c_32]); (try rw [if_pos c_43_0]); (try rfl))
        by_cases c_43_1 : y = 1
        ·
          refine XW.tabIn (off := 52) (tgt := 95) dX10_told_43 (by rw [c_43_1]; decide) (by rw [c_43_1]; decide) (by rw [c_43_1]; rfl) (by decide) ?_
          refine XW.aload_n eX10_told_95 rfl ?_
          refine XW.getR (b := 71) eX10_told_96 f10_20_10 rfl (so_69 hs) (sr_69_3 hs) ?_
          refine XW.iload_n eX10_told_99 rfl ?_
          refine XW.iaload eX10_told_100 (sa_71 hs) (vin_l hn h4 (by decide) c_5) ?_
          exact XW.iret eX10_told_101 rfl rfl (by (try unfold sX10_told); (try unfold tX10_told); (try rw [if_pos c_5]); (try rw [if_neg c_16]); (try rw [if_pos c_32]); (try rw [if_neg c_43_0]); (try rw [if_pos c_43_1]); (try rfl)) rfl (by (try unfold sX10_told); (try unfold tX10_told); (try rw [if_pos c_5]); (try rw [if_neg c_16]); (try rw [if_pos c_32]); (try rw [if_neg c_43_0]); (try rw [if_pos c_43_1]); (try rfl))
        by_cases c_43_2 : y = 2
        ·
          refine XW.tabIn (off := 59) (tgt := 102) dX10_told_43 (by rw [c_43_2]; decide) (by rw [c_43_2]; decide) (by rw [c_43_2]; rfl) (by decide) ?_
          refine XW.iload_n eX10_told_102 rfl ?_
          refine XW.if_eq eX10_told_103 (fun h => absurd h (by decide)) (fun _ => ?_)
          refine XW.aload_n eX10_told_106 rfl ?_
          refine XW.getR (b := 73) eX10_told_107 f10_26_10 rfl (so_69 hs) (sr_69_5 hs) ?_
          refine XW.iload_n eX10_told_110 rfl ?_
          refine XW.iaload eX10_told_111 (sa_73 hs) (vin_l hn h4 (by decide) c_5) ?_
          refine XW.goto eX10_told_112 ?_
          exact XW.iret eX10_told_116 rfl rfl (by (try unfold sX10_told); (try unfold tX10_told); (try rw [if_pos c_5]); (try rw [if_neg c_16]); (try rw [if_pos c_32]); (try rw [if_neg c_43_0]); (try rw [if_neg c_43_1]); (try rw [if_pos c_43_2]); (try rfl)) rfl (by (try unfold sX10_told); (try unfold tX10_told); (try rw [if_pos c_5]); (try rw [if_neg c_16]); (try rw [if_pos c_32]); (try rw [if_neg c_43_0]); (try rw [if_neg c_43_1]); (try rw [if_pos c_43_2]); (try rfl))
        by_cases c_43_3 : y = 3
        ·
          refine XW.tabIn (off := 74) (tgt := 117) dX10_told_43 (by rw [c_43_3]; decide) (by rw [c_43_3]; decide) (by rw [c_43_3]; rfl) (by decide) ?_
          refine XW.iload eX10_told_117 rfl ?_
          refine XW.if_eq eX10_told_119 (fun h => absurd h (by decide)) (fun _ => ?_)
          refine XW.aload_n eX10_told_122 rfl ?_
          refine XW.getR (b := 74) eX10_told_123 f10_29_10 rfl (so_69 hs) (sr_69_6 hs) ?_
          refine XW.iload_n eX10_told_126 rfl ?_
          refine XW.iaload eX10_told_127 (sa_74 hs) (vin_l hn h4 (by decide) c_5) ?_
          refine XW.goto eX10_told_128 ?_
          exact XW.iret eX10_told_132 rfl rfl (by (try unfold sX10_told); (try unfold tX10_told); (try rw [if_pos c_5]); (try rw [if_neg c_16]); (try rw [if_pos c_32]); (try rw [if_neg c_43_0]); (try rw [if_neg c_43_1]); (try rw [if_neg c_43_2]); (try rw [if_pos c_43_3]); (try rfl)) rfl (by (try unfold sX10_told); (try unfold tX10_told); (try rw [if_pos c_5]); (try rw [if_neg c_16]); (try rw [if_pos c_32]); (try rw [if_neg c_43_0]); (try rw [if_neg c_43_1]); (try rw [if_neg c_43_2]); (try rw [if_pos c_43_3]); (try rfl))
        by_cases c_43_4 : y = 4
        ·
          refine XW.tabIn (off := 90) (tgt := 133) dX10_told_43 (by rw [c_43_4]; decide) (by rw [c_43_4]; decide) (by rw [c_43_4]; rfl) (by decide) ?_
          refine XW.iload eX10_told_133 rfl ?_
          refine XW.if_eq eX10_told_135 (fun h => absurd h (by decide)) (fun _ => ?_)
          refine XW.aload_n eX10_told_138 rfl ?_
          refine XW.getR (b := 75) eX10_told_139 f10_32_10 rfl (so_69 hs) (sr_69_7 hs) ?_
          refine XW.iload_n eX10_told_142 rfl ?_
          refine XW.iaload eX10_told_143 (sa_75 hs) (vin_l hn h4 (by decide) c_5) ?_
          refine XW.goto eX10_told_144 ?_
          exact XW.iret eX10_told_148 rfl rfl (by (try unfold sX10_told); (try unfold tX10_told); (try rw [if_pos c_5]); (try rw [if_neg c_16]); (try rw [if_pos c_32]); (try rw [if_neg c_43_0]); (try rw [if_neg c_43_1]); (try rw [if_neg c_43_2]); (try rw [if_neg c_43_3]); (try rw [if_pos c_43_4]); (try rfl)) rfl (by (try unfold sX10_told); (try unfold tX10_told); (try rw [if_pos c_5]); (try rw [if_neg c_16]); (try rw [if_pos c_32]); (try rw [if_neg c_43_0]); (try rw [if_neg c_43_1]); (try rw [if_neg c_43_2]); (try rw [if_neg c_43_3]); (try rw [if_pos c_43_4]); (try rfl))
        by_cases c_43_5 : y = 5
        ·
          refine XW.tabIn (off := 106) (tgt := 149) dX10_told_43 (by rw [c_43_5]; decide) (by rw [c_43_5]; decide) (by rw [c_43_5]; rfl) (by decide) ?_
          refine XW.iload eX10_told_149 rfl ?_
          refine XW.if_eq eX10_told_151 (fun h => absurd h (by decide)) (fun _ => ?_)
          refine XW.aload_n eX10_told_154 rfl ?_
          refine XW.getR (b := 76) eX10_told_155 f10_35_10 rfl (so_69 hs) (sr_69_8 hs) ?_
          refine XW.iload_n eX10_told_158 rfl ?_
          refine XW.iaload eX10_told_159 (sa_76 hs) (vin_l hn h4 (by decide) c_5) ?_
          refine XW.goto eX10_told_160 ?_
          exact XW.iret eX10_told_164 rfl rfl (by (try unfold sX10_told); (try unfold tX10_told); (try rw [if_pos c_5]); (try rw [if_neg c_16]); (try rw [if_pos c_32]); (try rw [if_neg c_43_0]); (try rw [if_neg c_43_1]); (try rw [if_neg c_43_2]); (try rw [if_neg c_43_3]); (try rw [if_neg c_43_4]); (try rw [if_pos c_43_5]); (try rfl)) rfl (by (try unfold sX10_told); (try unfold tX10_told); (try rw [if_pos c_5]); (try rw [if_neg c_16]); (try rw [if_pos c_32]); (try rw [if_neg c_43_0]); (try rw [if_neg c_43_1]); (try rw [if_neg c_43_2]); (try rw [if_neg c_43_3]); (try rw [if_neg c_43_4]); (try rw [if_pos c_43_5]); (try rfl))
        by_cases c_43_6 : y = 6
        ·
          refine XW.tabIn (off := 122) (tgt := 165) dX10_told_43 (by rw [c_43_6]; decide) (by rw [c_43_6]; decide) (by rw [c_43_6]; rfl) (by decide) ?_
          refine XW.iload eX10_told_165 rfl ?_
          refine XW.if_eq eX10_told_167 (fun h => absurd h (by decide)) (fun _ => ?_)
          refine XW.aload_n eX10_told_170 rfl ?_
          refine XW.getR (b := 74) eX10_told_171 f10_29_10 rfl (so_69 hs) (sr_69_6 hs) ?_
          refine XW.iload_n eX10_told_174 rfl ?_
          refine XW.iaload eX10_told_175 (sa_74 hs) (vin_l hn h4 (by decide) c_5) ?_
          refine XW.aload_n eX10_told_176 rfl ?_
          refine XW.getR (b := 76) eX10_told_177 f10_35_10 rfl (so_69 hs) (sr_69_8 hs) ?_
          refine XW.iload_n eX10_told_180 rfl ?_
          refine XW.iaload eX10_told_181 (sa_76 hs) (vin_l hn h4 (by decide) c_5) ?_
          refine XW.iadd eX10_told_182 ?_
          refine XW.goto eX10_told_183 ?_
          exact XW.iret eX10_told_187 rfl rfl (by (try unfold sX10_told); (try unfold tX10_told); (try rw [if_pos c_5]); (try rw [if_neg c_16]); (try rw [if_pos c_32]); (try rw [if_neg c_43_0]); (try rw [if_neg c_43_1]); (try rw [if_neg c_43_2]); (try rw [if_neg c_43_3]); (try rw [if_neg c_43_4]); (try rw [if_neg c_43_5]); (try rw [if_pos c_43_6]); (try rfl)) rfl (by (try unfold sX10_told); (try unfold tX10_told); (try rw [if_pos c_5]); (try rw [if_neg c_16]); (try rw [if_pos c_32]); (try rw [if_neg c_43_0]); (try rw [if_neg c_43_1]); (try rw [if_neg c_43_2]); (try rw [if_neg c_43_3]); (try rw [if_neg c_43_4]); (try rw [if_neg c_43_5]); (try rw [if_pos c_43_6]); (try rfl))
        by_cases c_43_7 : y = 7
        ·
          refine XW.tabIn (off := 145) (tgt := 188) dX10_told_43 (by rw [c_43_7]; decide) (by rw [c_43_7]; decide) (by rw [c_43_7]; rfl) (by decide) ?_
          refine XW.aload_n eX10_told_188 rfl ?_
          refine XW.getR (b := 72) eX10_told_189 f10_23_10 rfl (so_69 hs) (sr_69_4 hs) ?_
          refine XW.iload_n eX10_told_192 rfl ?_
          refine XW.iaload eX10_told_193 (sa_72 hs) (vin_l hn h4 (by decide) c_5) ?_
          exact XW.iret eX10_told_194 rfl rfl (by (try unfold sX10_told); (try unfold tX10_told); (try rw [if_pos c_5]); (try rw [if_neg c_16]); (try rw [if_pos c_32]); (try rw [if_neg c_43_0]); (try rw [if_neg c_43_1]); (try rw [if_neg c_43_2]); (try rw [if_neg c_43_3]); (try rw [if_neg c_43_4]); (try rw [if_neg c_43_5]); (try rw [if_neg c_43_6]); (try rw [if_pos c_43_7]); (try rfl)) rfl (by (try unfold sX10_told); (try unfold tX10_told); (try rw [if_pos c_5]); (try rw [if_neg c_16]); (try rw [if_pos c_32]); (try rw [if_neg c_43_0]); (try rw [if_neg c_43_1]); (try rw [if_neg c_43_2]); (try rw [if_neg c_43_3]); (try rw [if_neg c_43_4]); (try rw [if_neg c_43_5]); (try rw [if_neg c_43_6]); (try rw [if_pos c_43_7]); (try rfl))
        refine XW.tabOut (tgt := 195) dX10_told_43 (tab_out 8 (by decide) (by intro k hk; rcases (show k = 0 ∨ k = 1 ∨ k = 2 ∨ k = 3 ∨ k = 4 ∨ k = 5 ∨ k = 6 ∨ k = 7 by omega) with rfl | rfl | rfl | rfl | rfl | rfl | rfl | rfl <;> first | exact c_43_0 | exact c_43_1 | exact c_43_2 | exact c_43_3 | exact c_43_4 | exact c_43_5 | exact c_43_6 | exact c_43_7)) (by decide) ?_
        refine XW.iconst (v := (-1)) eX10_told_195 (by decide) ?_
        exact XW.iret eX10_told_196 rfl rfl (by (try unfold sX10_told); (try unfold tX10_told); (try rw [if_pos c_5]); (try rw [if_neg c_16]); (try rw [if_pos c_32]); (try rw [if_neg c_43_0]); (try rw [if_neg c_43_1]); (try rw [if_neg c_43_2]); (try rw [if_neg c_43_3]); (try rw [if_neg c_43_4]); (try rw [if_neg c_43_5]); (try rw [if_neg c_43_6]); (try rw [if_neg c_43_7]); (try rfl)) rfl (by (try unfold sX10_told); (try unfold tX10_told); (try rw [if_pos c_5]); (try rw [if_neg c_16]); (try rw [if_pos c_32]); (try rw [if_neg c_43_0]); (try rw [if_neg c_43_1]); (try rw [if_neg c_43_2]); (try rw [if_neg c_43_3]); (try rw [if_neg c_43_4]); (try rw [if_neg c_43_5]); (try rw [if_neg c_43_6]); (try rw [if_neg c_43_7]); (try rfl))
  ·
    skip
    refine XW.iconst (v := (-1)) eX10_told_8 (by decide) ?_
    exact XW.iret eX10_told_9 rfl rfl (by (try unfold sX10_told); (try unfold tX10_told); (try rw [if_neg c_5]); (try rfl)) rfl (by (try unfold sX10_told); (try unfold tX10_told); (try rw [if_neg c_5]); (try rfl))
def sX10_ticks (I : xI)   : Int32 := (if (I 69 34) = 0 then (-1) else (I 69 36))
set_option maxRecDepth 100000 in
set_option maxHeartbeats 4000000 in
theorem YX10_ticks {l : Launch} {C : xC} {G : xG} (hs : SH G) (I : xI)   : XW l C mX10_ticks 0 (xent mX10_ticks [.ref 69]) [] G I (some (.int (sX10_ticks I  ))) G I := by
  show XW l C mX10_ticks 0 [some (.ref 69)] [] G I _ G _
  refine XW.aload_n eX10_ticks_0 rfl ?_
  refine XW.getI eX10_ticks_1 f10_206_10 rfl (so_69 hs) ?_
  refine XW.if_eq eX10_ticks_4 (fun c_4 => ?_) (fun c_4 => ?_)
  ·
    skip
    refine XW.iconst (v := (-1)) eX10_ticks_14 (by decide) ?_
    exact XW.iret eX10_ticks_15 rfl rfl (by (try unfold sX10_ticks); (try unfold tX10_ticks); (try rw [if_pos c_4]); (try rfl)) rfl (by (try unfold sX10_ticks); (try unfold tX10_ticks); (try rw [if_pos c_4]); (try rfl))
  ·
    skip
    refine XW.aload_n eX10_ticks_7 rfl ?_
    refine XW.getI eX10_ticks_8 f10_212_10 rfl (so_69 hs) ?_
    refine XW.goto eX10_ticks_11 ?_
    exact XW.iret eX10_ticks_15 rfl rfl (by (try unfold sX10_ticks); (try unfold tX10_ticks); (try rw [if_neg c_4]); (try rfl)) rfl (by (try unfold sX10_ticks); (try unfold tX10_ticks); (try rw [if_neg c_4]); (try rfl))
def sX10_witness (I : xI)   : Int32 := (I 69 44)
set_option maxRecDepth 100000 in
set_option maxHeartbeats 4000000 in
theorem YX10_witness {l : Launch} {C : xC} {G : xG} (hs : SH G) (I : xI)   : XW l C mX10_witness 0 (xent mX10_witness [.ref 69]) [] G I (some (.int (sX10_witness I  ))) G I := by
  show XW l C mX10_witness 0 [some (.ref 69)] [] G I _ G _
  refine XW.aload_n eX10_witness_0 rfl ?_
  refine XW.getI eX10_witness_1 f10_120_10 rfl (so_69 hs) ?_
  exact XW.iret eX10_witness_4 rfl rfl (by (try unfold sX10_witness); (try unfold tX10_witness);  (try rfl)) rfl (by (try unfold sX10_witness); (try unfold tX10_witness);  (try rfl))
def sX10_drop (I : xI)  (x : Int32) : Int32 := (if 0 ≤ x ∧ x ≤ 3 then (if 0 ≤ (I 77 x.toNatClampNeg) then ((wI I 77 x.toNatClampNeg (-1)) 78 x.toNatClampNeg) else (-11)) else (-1))
def tX10_drop (I : xI)  (x : Int32) : xI := (if 0 ≤ x ∧ x ≤ 3 then (if 0 ≤ (I 77 x.toNatClampNeg) then (wI I 77 x.toNatClampNeg (-1)) else I) else I)
set_option maxRecDepth 100000 in
set_option maxHeartbeats 4000000 in
theorem YX10_drop {l : Launch} {C : xC} {G : xG} (hs : SH G) (I : xI)  (x : Int32) : XW l C mX10_drop 0 (xent mX10_drop [.ref 69, .int x]) [] G I (some (.int (sX10_drop I  x))) G (tX10_drop I  x) := by
  show XW l C mX10_drop 0 [some (.ref 69), some (.int x)] [] G I _ G _
  refine XW.iload_n eX10_drop_0 rfl ?_
  refine XW.callS (As := [.int x]) (st := []) eX10_drop_1 okX10_isSheet cs10_135 rfl (YX10_isSheet I  x) (xnum rfl rfl rfl rfl rfl) ?_
  refine XW.if_neB eX10_drop_4 (fun c_4 => ?_) (fun c_4 => ?_)
  ·
    skip
    refine XW.aload_n eX10_drop_9 rfl ?_
    refine XW.getR (b := 77) eX10_drop_10 f10_41_10 rfl (so_69 hs) (sr_69_10 hs) ?_
    refine XW.iload_n eX10_drop_13 rfl ?_
    refine XW.iaload eX10_drop_14 (sa_77 hs) (vin_k c_4 (by decide)) ?_
    refine XW.if_ge eX10_drop_15 (fun c_15 => ?_) (fun c_15 => ?_)
    ·
      skip
      refine XW.aload_n eX10_drop_21 rfl ?_
      refine XW.getR (b := 77) eX10_drop_22 f10_41_10 rfl (so_69 hs) (sr_69_10 hs) ?_
      refine XW.iload_n eX10_drop_25 rfl ?_
      refine XW.iconst (v := (-1)) eX10_drop_26 (by decide) ?_
      refine XW.iastore eX10_drop_27 (sa_77 hs) (vin_k c_4 (by decide)) ?_
      refine XW.aload_n eX10_drop_28 rfl ?_
      refine XW.getR (b := 78) eX10_drop_29 f10_44_10 rfl (so_69 hs) (sr_69_11 hs) ?_
      refine XW.iload_n eX10_drop_32 rfl ?_
      refine XW.iaload eX10_drop_33 (sa_78 hs) (vin_k c_4 (by decide)) ?_
      exact XW.iret eX10_drop_34 rfl rfl (by (try unfold sX10_drop); (try unfold tX10_drop); (try rw [if_pos c_4]); (try rw [if_pos c_15]); (try rfl)) rfl (by (try unfold sX10_drop); (try unfold tX10_drop); (try rw [if_pos c_4]); (try rw [if_pos c_15]); (try rfl))
    ·
      skip
      refine XW.bipush (v := (-11)) eX10_drop_18 (by decide) ?_
      exact XW.iret eX10_drop_20 rfl rfl (by (try unfold sX10_drop); (try unfold tX10_drop); (try rw [if_pos c_4]); (try rw [if_neg c_15]); (try rfl)) rfl (by (try unfold sX10_drop); (try unfold tX10_drop); (try rw [if_pos c_4]); (try rw [if_neg c_15]); (try rfl))
  ·
    skip
    refine XW.iconst (v := (-1)) eX10_drop_7 (by decide) ?_
    exact XW.iret eX10_drop_8 rfl rfl (by (try unfold sX10_drop); (try unfold tX10_drop); (try rw [if_neg c_4]); (try rfl)) rfl (by (try unfold sX10_drop); (try unfold tX10_drop); (try rw [if_neg c_4]); (try rfl))
