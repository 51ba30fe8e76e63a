/-! the reference: sum, pass; small steps of a run -/
def cntR (I : xI) (ln w : Int32) : Nat → Int32
  | 0 => 0
  | k + 1 => cntR I ln w k + (if I 96 k = w then (if ln = (-1) then 1 else (if I 99 k = ln then 1 else 0)) else 0)
def cntP (I : xI) : Nat → Int32
  | 0 => 0
  | k + 1 => cntP I k + (if I 84 k = 0 then 0 else 1)
theorem nar01 {b : Int32} (h : b = 0 ∨ b = 1) : narrow .boolean (.int b) = .int b := by rcases h with rfl | rfl <;> rfl
theorem fit01 {b : Int32} (h : b = 0 ∨ b = 1) : fits .boolean (.int b) = true := by rcases h with rfl | rfl <;> rfl
set_option maxRecDepth 100000 in
set_option maxHeartbeats 4000000 in
theorem LX10_sum {l : Launch} {C : xC} {G : xG} (hs : SH G) (I : xI) (ln w : Int32) {rm : Nat} (hr : I 69 35 = nI rm) (hrm : rm ≤ 80) {r : Option Value} {G' : xG} {I' : xI} (kx : XW l C mX10_sum 107 [some (.ref 69), some (.int ln), some (.int w), some (.int (cntR I ln w rm)), some (.int (nI rm))] [] G I r G' I') : ∀ (k i : Nat), i ≤ rm → rm < i + k → XW l C mX10_sum 57 [some (.ref 69), some (.int ln), some (.int w), some (.int (cntR I ln w i)), some (.int (nI i))] [] G I r G' I' := by
  intro k
  induction k with
  | zero =>
    intro i h1 h2
    exact absurd h2 (by omega)
  | succ k ih =>
    intro i h1 h2
    refine XW.iload eX10_sum_57 rfl ?_
    refine XW.aload_n eX10_sum_59 rfl ?_
    refine XW.getI eX10_sum_60 f10_209_10 rfl (so_69 hs) ?_
    refine XW.icmp_ge eX10_sum_63 (fun c_63 => ?_) (fun c_63 => ?_)
    ·
      rw [hr] at c_63
      have hi : ¬ i < rm := fun h => nI_ge h (by omega) c_63
      have hi2 : i = rm := by omega
      subst hi2
      exact kx
    ·
      rw [hr] at c_63
      have hi : i < rm := Nat.lt_of_not_le (fun h => c_63 (nI_le h (by omega)))
      have hcl : (nI i).toNatClampNeg = i := nI_clamp (by omega)
      refine XW.iload_n eX10_sum_66 rfl ?_
      refine XW.aload_n eX10_sum_67 rfl ?_
      refine XW.getR (b := 96) eX10_sum_68 f10_99_10 rfl (so_69 hs) (sr_69_37 hs) ?_
      refine XW.iload eX10_sum_71 rfl ?_
      refine XW.iaload eX10_sum_73 (sa_96 hs) (vp_in_nI (by omega) (by decide)) ?_
      refine XW.iload_n eX10_sum_74 rfl ?_
      refine XW.icmp_ne eX10_sum_75 (fun c_75 => ?_) (fun c_75 => ?_)
      ·
        skip
        refine XW.iconst (v := 0) eX10_sum_98 (by decide) ?_
        refine XW.iadd eX10_sum_99 ?_
        refine XW.istore_n (ls' := [some (.ref 69), some (.int ln), some (.int w), some (.int ((cntR I ln w i) + 0)), some (.int (nI i))]) eX10_sum_100 (Nat.le_of_ble_eq_true rfl) rfl ?_
        refine XW.iinc (y := ((nI i) + 1)) (ls' := [some (.ref 69), some (.int ln), some (.int w), some (.int ((cntR I ln w i) + 0)), some (.int ((nI i) + 1))]) eX10_sum_101 rfl rfl rfl ?_
        refine XW.goto eX10_sum_104 ?_
        exact XW.to (ih (i + 1) (by omega) (by omega)) (by simp only [hcl] at *; simp only [nI_succ, cntR]; (try rw [if_neg c_75]); (try rfl)) rfl rfl
      ·
        skip
        refine XW.iload_n eX10_sum_78 rfl ?_
        refine XW.iconst (v := (-1)) eX10_sum_79 (by decide) ?_
        refine XW.icmp_eq eX10_sum_80 (fun c_80 => ?_) (fun c_80 => ?_)
        ·
          skip
          refine XW.iconst (v := 1) eX10_sum_94 (by decide) ?_
          refine XW.goto eX10_sum_95 ?_
          refine XW.iadd eX10_sum_99 ?_
          refine XW.istore_n (ls' := [some (.ref 69), some (.int ln), some (.int w), some (.int ((cntR I ln w i) + 1)), some (.int (nI i))]) eX10_sum_100 (Nat.le_of_ble_eq_true rfl) rfl ?_
          refine XW.iinc (y := ((nI i) + 1)) (ls' := [some (.ref 69), some (.int ln), some (.int w), some (.int ((cntR I ln w i) + 1)), some (.int ((nI i) + 1))]) eX10_sum_101 rfl rfl rfl ?_
          refine XW.goto eX10_sum_104 ?_
          exact XW.to (ih (i + 1) (by omega) (by omega)) (by simp only [hcl] at *; simp only [nI_succ, cntR]; (try rw [if_pos c_75]); (try rw [if_pos c_80]); (try rfl)) rfl rfl
        ·
          skip
          refine XW.aload_n eX10_sum_83 rfl ?_
          refine XW.getR (b := 99) eX10_sum_84 f10_108_10 rfl (so_69 hs) (sr_69_40 hs) ?_
          refine XW.iload eX10_sum_87 rfl ?_
          refine XW.iaload eX10_sum_89 (sa_99 hs) (vp_in_nI (by omega) (by decide)) ?_
          refine XW.iload_n eX10_sum_90 rfl ?_
          refine XW.icmp_ne eX10_sum_91 (fun c_91 => ?_) (fun c_91 => ?_)
          ·
            skip
            refine XW.iconst (v := 0) eX10_sum_98 (by decide) ?_
            refine XW.iadd eX10_sum_99 ?_
            refine XW.istore_n (ls' := [some (.ref 69), some (.int ln), some (.int w), some (.int ((cntR I ln w i) + 0)), some (.int (nI i))]) eX10_sum_100 (Nat.le_of_ble_eq_true rfl) rfl ?_
            refine XW.iinc (y := ((nI i) + 1)) (ls' := [some (.ref 69), some (.int ln), some (.int w), some (.int ((cntR I ln w i) + 0)), some (.int ((nI i) + 1))]) eX10_sum_101 rfl rfl rfl ?_
            refine XW.goto eX10_sum_104 ?_
            exact XW.to (ih (i + 1) (by omega) (by omega)) (by simp only [hcl] at *; simp only [nI_succ, cntR]; (try rw [if_pos c_75]); (try rw [if_neg c_80]); (try rw [if_neg c_91]); (try rfl)) rfl rfl
          ·
            skip
            refine XW.iconst (v := 1) eX10_sum_94 (by decide) ?_
            refine XW.goto eX10_sum_95 ?_
            refine XW.iadd eX10_sum_99 ?_
            refine XW.istore_n (ls' := [some (.ref 69), some (.int ln), some (.int w), some (.int ((cntR I ln w i) + 1)), some (.int (nI i))]) eX10_sum_100 (Nat.le_of_ble_eq_true rfl) rfl ?_
            refine XW.iinc (y := ((nI i) + 1)) (ls' := [some (.ref 69), some (.int ln), some (.int w), some (.int ((cntR I ln w i) + 1)), some (.int ((nI i) + 1))]) eX10_sum_101 rfl rfl rfl ?_
            refine XW.goto eX10_sum_104 ?_
            exact XW.to (ih (i + 1) (by omega) (by omega)) (by simp only [hcl] at *; simp only [nI_succ, cntR]; (try rw [if_pos c_75]); (try rw [if_neg c_80]); (try rw [if_pos c_91]); (try rfl)) rfl rfl
def sX10_sum (I : xI) (n rm : Nat) (x w : Int32) : Int32 := if I 69 34 = 0 then (-1) else (if x = (-1) then (if 0 ≤ w ∧ w ≤ 4 then (if w = 4 then I 100 4 else cntR I x w rm) else (-1)) else (if 0 ≤ x ∧ x ≤ I 69 1 - 1 then (if 0 ≤ w ∧ w ≤ 4 then (if w = 4 then I 100 x.toNatClampNeg else cntR I x w rm) else (-1)) else (-1)))
set_option maxRecDepth 100000 in
set_option maxHeartbeats 4000000 in
theorem YX10_sum {l : Launch} {C : xC} {G : xG} (hs : SH G) (I : xI) {n : Nat} (hn : I 69 1 = nI n) (h1 : 1 ≤ n) (h4 : n ≤ 4) {rm : Nat} (hr : I 69 35 = nI rm) (hrm : rm ≤ 80) (x w : Int32) : XW l C mX10_sum 0 (xent mX10_sum [.ref 69, .int x, .int w]) [] G I (some (.int (sX10_sum I n rm x w))) G I := by
  show XW l C mX10_sum 0 [some (.ref 69), some (.int x), some (.int w), none, none] [] G I _ G _
  refine XW.aload_n eX10_sum_0 rfl ?_
  refine XW.getI eX10_sum_1 f10_206_10 rfl (so_69 hs) ?_
  refine XW.if_eq eX10_sum_4 (fun c_4 => ?_) (fun c_4 => ?_)
  ·
    skip
    refine XW.iconst (v := (-1)) eX10_sum_29 (by decide) ?_
    exact XW.iret eX10_sum_30 rfl rfl (by unfold sX10_sum; (try rw [if_pos c_4]); (try rfl)) rfl rfl
  ·
    skip
    refine XW.iload_n eX10_sum_7 rfl ?_
    refine XW.iconst (v := (-1)) eX10_sum_8 (by decide) ?_
    refine XW.icmp_eq eX10_sum_9 (fun c_9 => ?_) (fun c_9 => ?_)
    ·
      skip
      refine XW.iload_n eX10_sum_20 rfl ?_
      refine XW.iconst (v := 0) eX10_sum_21 (by decide) ?_
      refine XW.iconst (v := 4) eX10_sum_22 (by decide) ?_
      refine XW.callS (As := [.int w, .int 0, .int 4]) (st := []) eX10_sum_23 okX10_in cs10_123 rfl (YX10_in I  w 0 4) (xnum rfl rfl rfl rfl rfl) ?_
      refine XW.if_neB eX10_sum_26 (fun c_26 => ?_) (fun c_26 => ?_)
      ·
        skip
        refine XW.iload_n eX10_sum_31 rfl ?_
        refine XW.iconst (v := 4) eX10_sum_32 (by decide) ?_
        refine XW.icmp_ne eX10_sum_33 (fun c_33 => ?_) (fun c_33 => ?_)
        ·
          skip
          refine XW.iconst (v := 0) eX10_sum_52 (by decide) ?_
          refine XW.istore_n (ls' := [some (.ref 69), some (.int x), some (.int w), some (.int 0), none]) eX10_sum_53 (Nat.le_of_ble_eq_true rfl) rfl ?_
          refine XW.iconst (v := 0) eX10_sum_54 (by decide) ?_
          refine XW.istore (ls' := [some (.ref 69), some (.int x), some (.int w), some (.int 0), some (.int 0)]) eX10_sum_55 (Nat.le_of_ble_eq_true rfl) rfl ?_
          refine XW.to (LX10_sum hs I x w hr hrm ?_ (rm + 1) 0 (by omega) (by omega)) rfl rfl rfl
          refine XW.iload_n eX10_sum_107 rfl ?_
          exact XW.iret eX10_sum_108 rfl rfl (by unfold sX10_sum; (try rw [if_neg c_4]); (try rw [if_pos c_9]); (try rw [if_pos c_26]); (try rw [if_neg c_33]); (try rfl)) rfl rfl
        ·
          skip
          refine XW.aload_n eX10_sum_36 rfl ?_
          refine XW.getR (b := 100) eX10_sum_37 f10_111_10 rfl (so_69 hs) (sr_69_41 hs) ?_
          refine XW.iload_n eX10_sum_40 rfl ?_
          refine XW.iconst (v := (-1)) eX10_sum_41 (by decide) ?_
          refine XW.icmp_ne eX10_sum_42 (fun c_42 => ?_) (fun c_42 => ?_)
          ·
            exact absurd c_9 c_42
          ·
            skip
            refine XW.iconst (v := 4) eX10_sum_45 (by decide) ?_
            refine XW.goto eX10_sum_46 ?_
            refine XW.iaload eX10_sum_50 (sa_100 hs) (vp_in_nI (n := 4) (by decide) (by decide)) ?_
            exact XW.iret eX10_sum_51 rfl rfl (by unfold sX10_sum; (try rw [if_neg c_4]); (try rw [if_pos c_9]); (try rw [if_pos c_26]); (try rw [if_pos c_33]); (try rw [if_pos c_42]); (try rfl)) rfl rfl
      ·
        skip
        refine XW.iconst (v := (-1)) eX10_sum_29 (by decide) ?_
        exact XW.iret eX10_sum_30 rfl rfl (by unfold sX10_sum; (try rw [if_neg c_4]); (try rw [if_pos c_9]); (try rw [if_neg c_26]); (try rfl)) rfl rfl
    ·
      skip
      refine XW.aload_n eX10_sum_12 rfl ?_
      refine XW.iload_n eX10_sum_13 rfl ?_
      refine XW.callV (As := [.int x]) (st := []) eX10_sum_14 okX10_isLine cv10_131 rfl (so_69 hs) (YX10_isLine hs I  x) (xnum rfl rfl rfl rfl rfl) ?_
      refine XW.if_eqB eX10_sum_17 (fun c_17 => ?_) (fun c_17 => ?_)
      ·
        skip
        refine XW.iconst (v := (-1)) eX10_sum_29 (by decide) ?_
        exact XW.iret eX10_sum_30 rfl rfl (by unfold sX10_sum; (try rw [if_neg c_4]); (try rw [if_neg c_9]); (try rw [if_neg c_17]); (try rfl)) rfl rfl
      ·
        skip
        refine XW.iload_n eX10_sum_20 rfl ?_
        refine XW.iconst (v := 0) eX10_sum_21 (by decide) ?_
        refine XW.iconst (v := 4) eX10_sum_22 (by decide) ?_
        refine XW.callS (As := [.int w, .int 0, .int 4]) (st := []) eX10_sum_23 okX10_in cs10_123 rfl (YX10_in I  w 0 4) (xnum rfl rfl rfl rfl rfl) ?_
        refine XW.if_neB eX10_sum_26 (fun c_26 => ?_) (fun c_26 => ?_)
        ·
          skip
          refine XW.iload_n eX10_sum_31 rfl ?_
          refine XW.iconst (v := 4) eX10_sum_32 (by decide) ?_
          refine XW.icmp_ne eX10_sum_33 (fun c_33 => ?_) (fun c_33 => ?_)
          ·
            skip
            refine XW.iconst (v := 0) eX10_sum_52 (by decide) ?_
            refine XW.istore_n (ls' := [some (.ref 69), some (.int x), some (.int w), some (.int 0), none]) eX10_sum_53 (Nat.le_of_ble_eq_true rfl) rfl ?_
            refine XW.iconst (v := 0) eX10_sum_54 (by decide) ?_
            refine XW.istore (ls' := [some (.ref 69), some (.int x), some (.int w), some (.int 0), some (.int 0)]) eX10_sum_55 (Nat.le_of_ble_eq_true rfl) rfl ?_
            refine XW.to (LX10_sum hs I x w hr hrm ?_ (rm + 1) 0 (by omega) (by omega)) rfl rfl rfl
            refine XW.iload_n eX10_sum_107 rfl ?_
            exact XW.iret eX10_sum_108 rfl rfl (by unfold sX10_sum; (try rw [if_neg c_4]); (try rw [if_neg c_9]); (try rw [if_pos c_17]); (try rw [if_pos c_26]); (try rw [if_neg c_33]); (try rfl)) rfl rfl
          ·
            skip
            refine XW.aload_n eX10_sum_36 rfl ?_
            refine XW.getR (b := 100) eX10_sum_37 f10_111_10 rfl (so_69 hs) (sr_69_41 hs) ?_
            refine XW.iload_n eX10_sum_40 rfl ?_
            refine XW.iconst (v := (-1)) eX10_sum_41 (by decide) ?_
            refine XW.icmp_ne eX10_sum_42 (fun c_42 => ?_) (fun c_42 => ?_)
            ·
              skip
              refine XW.iload_n eX10_sum_49 rfl ?_
              refine XW.iaload eX10_sum_50 (sa_100 hs) (vin_mono (vin_l hn h4 (by decide) c_17) (by decide)) ?_
              exact XW.iret eX10_sum_51 rfl rfl (by unfold sX10_sum; (try rw [if_neg c_4]); (try rw [if_neg c_9]); (try rw [if_pos c_17]); (try rw [if_pos c_26]); (try rw [if_pos c_33]); (try rw [if_neg c_42]); (try rfl)) rfl rfl
            ·
              exact absurd c_42 c_9
        ·
          skip
          refine XW.iconst (v := (-1)) eX10_sum_29 (by decide) ?_
          exact XW.iret eX10_sum_30 rfl rfl (by unfold sX10_sum; (try rw [if_neg c_4]); (try rw [if_neg c_9]); (try rw [if_pos c_17]); (try rw [if_neg c_26]); (try rfl)) rfl rfl
set_option maxRecDepth 100000 in
set_option maxHeartbeats 4000000 in
theorem LX10_pass {l : Launch} {C : xC} {G : xG} (hs : SH G) (I : xI) (x b : Int32) {r : Option Value} {G' : xG} {I' : xI} (kx : XW l C mX10_pass 51 [some (.ref 69), some (.int x), some (.int b), some (.int (cntP I 4)), some (.int (nI 4))] [] G I r G' I') : ∀ (k i : Nat), i ≤ 4 → 4 < i + k → XW l C mX10_pass 21 [some (.ref 69), some (.int x), some (.int b), some (.int (cntP I i)), some (.int (nI i))] [] G I r G' I' := by
  intro k
  induction k with
  | zero =>
    intro i h1 h2
    exact absurd h2 (by omega)
  | succ k ih =>
    intro i h1 h2
    refine XW.iload eX10_pass_21 rfl ?_
    refine XW.iconst (v := 4) eX10_pass_23 (by decide) ?_
    refine XW.icmp_ge eX10_pass_24 (fun c_24 => ?_) (fun c_24 => ?_)
    ·
      have hi : ¬ i < 4 := fun h => nI_ge h (by omega) c_24
      have hi2 : i = 4 := by omega
      subst hi2
      exact kx
    ·
      have hi : i < 4 := Nat.lt_of_not_le (fun h => c_24 (by rw [show (4 : Int32) = nI 4 from rfl]; exact nI_le h (by omega)))
      have hcl : (nI i).toNatClampNeg = i := nI_clamp (by omega)
      refine XW.iload_n eX10_pass_27 rfl ?_
      refine XW.aload_n eX10_pass_28 rfl ?_
      refine XW.getR (b := 84) eX10_pass_29 f10_62_10 rfl (so_69 hs) (sr_69_17 hs) ?_
      refine XW.iload eX10_pass_32 rfl ?_
      refine XW.baload eX10_pass_34 (sa_84 hs) (vp_in_nI (by omega) (by decide)) ?_
      refine XW.if_eq eX10_pass_35 (fun c_35 => ?_) (fun c_35 => ?_)
      ·
        skip
        refine XW.iconst (v := 0) eX10_pass_42 (by decide) ?_
        refine XW.iadd eX10_pass_43 ?_
        refine XW.istore_n (ls' := [some (.ref 69), some (.int x), some (.int b), some (.int ((cntP I i) + 0)), some (.int (nI i))]) eX10_pass_44 (Nat.le_of_ble_eq_true rfl) rfl ?_
        refine XW.iinc (y := ((nI i) + 1)) (ls' := [some (.ref 69), some (.int x), some (.int b), some (.int ((cntP I i) + 0)), some (.int ((nI i) + 1))]) eX10_pass_45 rfl rfl rfl ?_
        refine XW.goto eX10_pass_48 ?_
        exact XW.to (ih (i + 1) (by omega) (by omega)) (by simp only [hcl] at *; simp only [nI_succ, cntP]; (try rw [if_pos c_35]); (try rfl)) rfl rfl
      ·
        skip
        refine XW.iconst (v := 1) eX10_pass_38 (by decide) ?_
        refine XW.goto eX10_pass_39 ?_
        refine XW.iadd eX10_pass_43 ?_
        refine XW.istore_n (ls' := [some (.ref 69), some (.int x), some (.int b), some (.int ((cntP I i) + 1)), some (.int (nI i))]) eX10_pass_44 (Nat.le_of_ble_eq_true rfl) rfl ?_
        refine XW.iinc (y := ((nI i) + 1)) (ls' := [some (.ref 69), some (.int x), some (.int b), some (.int ((cntP I i) + 1)), some (.int ((nI i) + 1))]) eX10_pass_45 rfl rfl rfl ?_
        refine XW.goto eX10_pass_48 ?_
        exact XW.to (ih (i + 1) (by omega) (by omega)) (by simp only [hcl] at *; simp only [nI_succ, cntP]; (try rw [if_neg c_35]); (try rfl)) rfl rfl
def sX10_pass (I : xI) (x b : Int32) : Int32 := if 0 ≤ x ∧ x ≤ 3 then cntP (wI I 84 x.toNatClampNeg b) 4 else (-1)
def tX10_pass (I : xI) (x b : Int32) : xI := if 0 ≤ x ∧ x ≤ 3 then wI I 84 x.toNatClampNeg b else I
set_option maxRecDepth 100000 in
set_option maxHeartbeats 4000000 in
theorem YX10_pass {l : Launch} {C : xC} {G : xG} (hs : SH G) (I : xI) (x b : Int32) (hb : b = 0 ∨ b = 1) : XW l C mX10_pass 0 (xent mX10_pass [.ref 69, .int x, .int b]) [] G I (some (.int (sX10_pass I x b))) G (tX10_pass I x b) := by
  show XW l C mX10_pass 0 [some (.ref 69), some (.int x), some (.int b), none, none] [] G I _ G _
  refine XW.iload_n eX10_pass_0 rfl ?_
  refine XW.callS (As := [.int x]) (st := []) eX10_pass_1 okX10_isRow cs10_141 rfl (YX10_isRow I  x) (xnum rfl rfl rfl rfl rfl) ?_
  refine XW.if_neB eX10_pass_4 (fun c_4 => ?_) (fun c_4 => ?_)
  ·
    skip
    refine XW.aload_n eX10_pass_9 rfl ?_
    refine XW.getR (b := 84) eX10_pass_10 f10_62_10 rfl (so_69 hs) (sr_69_17 hs) ?_
    refine XW.iload_n eX10_pass_13 rfl ?_
    refine XW.iload_n eX10_pass_14 rfl ?_
    refine XW.bastore eX10_pass_15 (sa_84 hs) (vin_3 c_4) (nar01 hb) ?_
    refine XW.iconst (v := 0) eX10_pass_16 (by decide) ?_
    refine XW.istore_n (ls' := [some (.ref 69), some (.int x), some (.int b), some (.int 0), none]) eX10_pass_17 (Nat.le_of_ble_eq_true rfl) rfl ?_
    refine XW.iconst (v := 0) eX10_pass_18 (by decide) ?_
    refine XW.istore (ls' := [some (.ref 69), some (.int x), some (.int b), some (.int 0), some (.int 0)]) eX10_pass_19 (Nat.le_of_ble_eq_true rfl) rfl ?_
    refine XW.to (LX10_pass hs (wI I 84 x.toNatClampNeg b) x b ?_ 5 0 (by omega) (by omega)) rfl rfl rfl
    refine XW.iload_n eX10_pass_51 rfl ?_
    exact XW.iret eX10_pass_52 rfl rfl (by unfold sX10_pass; (try rw [if_pos c_4]); (try rfl)) rfl (by unfold tX10_pass; (try rw [if_pos c_4]); (try rfl))
  ·
    skip
    refine XW.iconst (v := (-1)) eX10_pass_7 (by decide) ?_
    exact XW.iret eX10_pass_8 rfl rfl (by (try unfold sX10_pass); (try unfold tX10_pass); (try rw [if_neg c_4]); (try rfl)) rfl (by (try unfold sX10_pass); (try unfold tX10_pass); (try rw [if_neg c_4]); (try rfl))
