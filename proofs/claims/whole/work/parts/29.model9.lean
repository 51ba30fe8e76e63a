/-! the reference: waiting, isLeft -/
/-- the row that runs: rw, its c letters of the n lines -/
def mRw (I : xI) (n rw c : Nat) : Prop := rw < 4 ∧ I 69 18 = nI rw ∧ I 81 rw = nI c ∧ c ≤ 80 ∧ ∀ k, k < c → (∃ lx, lx < n ∧ I 83 (80 * rw + k) = nI lx) ∧ ∃ t, t < 40 ∧ I 82 (80 * rw + k) = nI t
def fnd (f : Nat → Int32) (b : Nat) (v : Int32) : Nat → Nat → Nat
  | 0, p => p
  | m + 1, p => if f (b + p) = v then p else fnd f b v m (p + 1)
theorem fnd_le (f : Nat → Int32) (b : Nat) (v : Int32) : ∀ m p, fnd f b v m p ≤ p + m := by
  intro m
  induction m with
  | zero => intro p; exact Nat.le_refl _
  | succ m ih =>
    intro p
    unfold fnd
    split
    · omega
    · have := ih (p + 1); omega
theorem ix80 (rw k : Nat) : (80 : Int32) * nI rw + nI k = nI (80 * rw + k) := by rw [show (80 : Int32) = nI 80 from rfl, pk_mul, nI_add]
abbrev mPos (I : xI) (rw c lx p : Nat) : Nat := fnd (I 83) (80 * rw) (nI lx) (c - p) p
def sX10_waiting (I : xI) (rw c lx p : Nat) : Int32 := if mPos I rw c lx p < c then (if I 69 22 < I 82 (80 * rw + mPos I rw c lx p) then (-1) else nI (mPos I rw c lx p)) else (-1)
def tX10_waiting (I : xI) (rw c lx p : Nat) : xI := wI I 88 lx (nI (mPos I rw c lx p))
set_option maxRecDepth 100000 in
set_option maxHeartbeats 4000000 in
theorem LX10_waiting {l : Launch} {C : xC} {G : xG} (hs : SH G) (I : xI) {n rw c : Nat} (hR : mRw I n rw c) {lx : Nat} {r : Option Value} {I' : xI} : ∀ (k p : Nat), p ≤ c → c < p + k → XW l C mX10_waiting 44 [some (.ref 69), some (.int (nI lx)), some (.int (nI (fnd (I 83) (80 * rw) (nI lx) (c - p) p)))] [] G I r G I' → XW l C mX10_waiting 7 [some (.ref 69), some (.int (nI lx)), some (.int (nI p))] [] G I r G I' := by
  obtain ⟨hr4, hrw, hc, hc80, -⟩ := hR
  have krw : (nI rw).toNatClampNeg = rw := nI_clamp (by omega)
  intro k
  induction k with
  | zero =>
    intro p h1 h2
    exact absurd h2 (by omega)
  | succ k ih =>
    intro p h1 h2 kx
    refine XW.iload_n eX10_waiting_7 rfl ?_
    refine XW.aload_n eX10_waiting_8 rfl ?_
    refine XW.getR (b := 81) eX10_waiting_9 f10_53_10 rfl (so_69 hs) (sr_69_14 hs) ?_
    refine XW.aload_n eX10_waiting_12 rfl ?_
    refine XW.getI eX10_waiting_13 f10_170_10 rfl (so_69 hs) ?_
    refine XW.iaload eX10_waiting_16 (sa_81 hs) (by rw [hrw]; exact vp_in_nI hr4 (by decide)) ?_
    refine XW.icmp_ge eX10_waiting_17 (fun c_17 => ?_) (fun c_17 => ?_)
    ·
      skip
      rw [hrw, krw, hc] at c_17
      have hi : ¬ p < c := fun h => nI_ge h (by omega) c_17
      have e1 : c - p = 0 := by omega
      rw [e1] at kx
      exact kx
    ·
      rw [hrw, krw, hc] at c_17
      have hi : p < c := Nat.lt_of_not_le (fun h => c_17 (nI_le h (by omega)))
      have e1 : c - p = (c - (p + 1)) + 1 := by omega
      refine XW.aload_n eX10_waiting_20 rfl ?_
      refine XW.getR (b := 83) eX10_waiting_21 f10_59_10 rfl (so_69 hs) (sr_69_16 hs) ?_
      refine XW.bipush (v := 80) eX10_waiting_24 (by decide) ?_
      refine XW.aload_n eX10_waiting_26 rfl ?_
      refine XW.getI eX10_waiting_27 f10_170_10 rfl (so_69 hs) ?_
      refine XW.imul eX10_waiting_30 ?_
      refine XW.iload_n eX10_waiting_31 rfl ?_
      refine XW.iadd eX10_waiting_32 ?_
      refine XW.iaload eX10_waiting_33 (sa_83 hs) (by rw [hrw, ix80]; exact vp_in_nI (by omega) (by decide)) ?_
      refine XW.iload_n eX10_waiting_34 rfl ?_
      refine XW.icmp_eq eX10_waiting_35 (fun c_35 => ?_) (fun c_35 => ?_)
      ·
        skip
        rw [hrw, ix80, nI_clamp (by omega)] at c_35
        rw [e1] at kx
        unfold fnd at kx
        rw [if_pos c_35] at kx
        exact kx
      ·
        rw [hrw, ix80, nI_clamp (by omega)] at c_35
        refine XW.iinc (y := ((nI p) + 1)) (ls' := [some (.ref 69), some (.int (nI lx)), some (.int ((nI p) + 1))]) eX10_waiting_38 rfl rfl rfl ?_
        refine XW.goto eX10_waiting_41 ?_
        exact XW.to (ih (p + 1) (by omega) (by omega) (by rw [e1] at kx; unfold fnd at kx; rw [if_neg c_35] at kx; exact kx)) (by rw [nI_succ]) rfl rfl
set_option maxRecDepth 100000 in
set_option maxHeartbeats 4000000 in
theorem YX10_waiting {l : Launch} {C : xC} {G : xG} (hs : SH G) (I : xI) {n rw c : Nat} (hR : mRw I n rw c) {lx p : Nat} (hl : lx < 4) (hnx : I 88 lx = nI p) (hp : p ≤ c) : XW l C mX10_waiting 0 (xent mX10_waiting [.ref 69, .int (nI lx)]) [] G I (some (.int (sX10_waiting I rw c lx p))) G (tX10_waiting I rw c lx p) := by
  show XW l C mX10_waiting 0 [some (.ref 69), some (.int (nI lx)), none] [] G I _ G _
  obtain ⟨hr4, hrw, hc, hc80, hrr⟩ := id hR
  have krw : (nI rw).toNatClampNeg = rw := nI_clamp (by omega)
  have kl : (nI lx).toNatClampNeg = lx := nI_clamp (by omega)
  have hfl := fnd_le (I 83) (80 * rw) (nI lx) (c - p) p
  refine XW.aload_n eX10_waiting_0 rfl ?_
  refine XW.getR (b := 88) eX10_waiting_1 f10_75_10 rfl (so_69 hs) (sr_69_26 hs) ?_
  refine XW.iload_n eX10_waiting_4 rfl ?_
  refine XW.iaload eX10_waiting_5 (sa_88 hs) (vp_in_nI hl (by decide)) ?_
  refine XW.istore_n (ls' := [some (.ref 69), some (.int (nI lx)), some (.int (I 88 (nI lx).toNatClampNeg))]) eX10_waiting_6 (Nat.le_of_ble_eq_true rfl) rfl ?_
  refine XW.to (LX10_waiting hs I hR (c + 1) p hp (by omega) ?_) (by rw [kl, hnx]) rfl rfl
  refine XW.aload_n eX10_waiting_44 rfl ?_
  refine XW.getR (b := 88) eX10_waiting_45 f10_75_10 rfl (so_69 hs) (sr_69_26 hs) ?_
  refine XW.iload_n eX10_waiting_48 rfl ?_
  refine XW.iload_n eX10_waiting_49 rfl ?_
  refine XW.iastore eX10_waiting_50 (sa_88 hs) (vp_in_nI hl (by decide)) ?_
  refine XW.iload_n eX10_waiting_51 rfl ?_
  refine XW.aload_n eX10_waiting_52 rfl ?_
  refine XW.getR (b := 81) eX10_waiting_53 f10_53_10 rfl (so_69 hs) (sr_69_14 hs) ?_
  refine XW.aload_n eX10_waiting_56 rfl ?_
  refine XW.getI eX10_waiting_57 f10_170_10 rfl (so_69 hs) ?_
  refine XW.iaload eX10_waiting_60 (sa_81 hs) (by rw [wI_ne _ _ _ (by decide), hrw]; exact vp_in_nI hr4 (by decide)) ?_
  refine XW.icmp_ge eX10_waiting_61 (fun c_61 => ?_) (fun c_61 => ?_)
  ·
    skip
    refine XW.iconst (v := (-1)) eX10_waiting_89 (by decide) ?_
    rw [wI_ne _ _ _ (by decide), wI_ne _ _ _ (by decide), hrw, krw, hc] at c_61
    have hlt : ¬ fnd (I 83) (80 * rw) (nI lx) (c - p) p < c := fun h => nI_ge h (by omega) c_61
    exact XW.iret eX10_waiting_90 rfl rfl (by unfold sX10_waiting; rw [if_neg hlt]) rfl (by unfold tX10_waiting; rw [kl])
  ·
    rw [wI_ne _ _ _ (by decide), wI_ne _ _ _ (by decide), hrw, krw, hc] at c_61
    have hlt : fnd (I 83) (80 * rw) (nI lx) (c - p) p < c := Nat.lt_of_not_le (fun h => c_61 (nI_le h (by omega)))
    refine XW.aload_n eX10_waiting_64 rfl ?_
    refine XW.getR (b := 82) eX10_waiting_65 f10_56_10 rfl (so_69 hs) (sr_69_15 hs) ?_
    refine XW.bipush (v := 80) eX10_waiting_68 (by decide) ?_
    refine XW.aload_n eX10_waiting_70 rfl ?_
    refine XW.getI eX10_waiting_71 f10_170_10 rfl (so_69 hs) ?_
    refine XW.imul eX10_waiting_74 ?_
    refine XW.iload_n eX10_waiting_75 rfl ?_
    refine XW.iadd eX10_waiting_76 ?_
    refine XW.iaload eX10_waiting_77 (sa_82 hs) (by rw [wI_ne _ _ _ (by decide), hrw, ix80]; exact vp_in_nI (by omega) (by decide)) ?_
    refine XW.aload_n eX10_waiting_78 rfl ?_
    refine XW.getI eX10_waiting_79 f10_148_10 rfl (so_69 hs) ?_
    refine XW.icmp_gt eX10_waiting_82 (fun c_82 => ?_) (fun c_82 => ?_)
    ·
      skip
      refine XW.iconst (v := (-1)) eX10_waiting_89 (by decide) ?_
      rw [wI_ne _ _ _ (by decide), wI_ne _ _ _ (by decide), hrw, ix80, nI_clamp (by omega)] at c_82
      exact XW.iret eX10_waiting_90 rfl rfl (by unfold sX10_waiting; rw [if_pos hlt]; (try rw [if_pos c_82]); (try rfl)) rfl (by unfold tX10_waiting; rw [kl])
    ·
      skip
      refine XW.iload_n eX10_waiting_85 rfl ?_
      refine XW.goto eX10_waiting_86 ?_
      rw [wI_ne _ _ _ (by decide), wI_ne _ _ _ (by decide), hrw, ix80, nI_clamp (by omega)] at c_82
      exact XW.iret eX10_waiting_90 rfl rfl (by unfold sX10_waiting; rw [if_pos hlt]; (try rw [if_neg c_82]); (try rfl)) rfl (by unfold tX10_waiting; rw [kl])
abbrev mHeld (I : xI) (lx : Nat) : Prop := I 70 lx = 2 ∧ I 69 21 = 0
/-- the letter k is still to come -/
def mPnd (I : xI) (rw k : Nat) : Bool := if mHeld I (I 83 (80 * rw + k)).toNatClampNeg then (if nI k < I 88 (I 83 (80 * rw + k)).toNatClampNeg then false else true) else (if I 82 (80 * rw + k) < I 69 22 then false else true)
def lft (I : xI) (rw : Nat) : Nat → Nat → Bool
  | 0, _ => false
  | m + 1, k => if mPnd I rw k = true then true else lft I rw m (k + 1)
def sX10_isLeft (I : xI) (rw c : Nat) : Int32 := bI (0 < sX10_all I ∨ lft I rw c 0 = true)
set_option maxRecDepth 100000 in
set_option maxHeartbeats 4000000 in
theorem LX10_isLeft1 {l : Launch} {C : xC} {G : xG} (hs : SH G) (I : xI) {n rw c : Nat} (hR : mRw I n rw c) (p : Nat) : XW l C mX10_isLeft 15 [some (.ref 69), some (.int 1), some (.int (nI p)), none] [] G I (some (.int 1)) G I := by
  obtain ⟨hr4, hrw, hc, hc80, hrr⟩ := hR
  refine XW.iload_n eX10_isLeft_15 rfl ?_
  refine XW.aload_n eX10_isLeft_16 rfl ?_
  refine XW.getR (b := 81) eX10_isLeft_17 f10_53_10 rfl (so_69 hs) (sr_69_14 hs) ?_
  refine XW.aload_n eX10_isLeft_20 rfl ?_
  refine XW.getI eX10_isLeft_21 f10_170_10 rfl (so_69 hs) ?_
  refine XW.iaload eX10_isLeft_24 (sa_81 hs) (by rw [hrw]; exact vp_in_nI hr4 (by decide)) ?_
  refine XW.icmp_ge eX10_isLeft_25 (fun c_25 => ?_) (fun c_25 => ?_)
  ·
    skip
    refine XW.iload_n eX10_isLeft_106 rfl ?_
    exact XW.iret eX10_isLeft_107 rfl rfl rfl rfl rfl
  ·
    skip
    refine XW.iload_n eX10_isLeft_28 rfl ?_
    refine XW.if_ne eX10_isLeft_29 (fun _ => ?_) (fun h => absurd h (by decide))
    refine XW.iload_n eX10_isLeft_106 rfl ?_
    exact XW.iret eX10_isLeft_107 rfl rfl rfl rfl rfl
set_option maxRecDepth 100000 in
set_option maxHeartbeats 4000000 in
theorem LX10_isLeft {l : Launch} {C : xC} {G : xG} (hs : SH G) (I : xI) {n rw c : Nat} (hR : mRw I n rw c) (h4 : n ≤ 4) : ∀ (k p : Nat), p ≤ c → c < p + k → XW l C mX10_isLeft 15 [some (.ref 69), some (.int 0), some (.int (nI p)), none] [] G I (some (.int (bI (lft I rw (c - p) p = true)))) G I := by
  obtain ⟨hr4, hrw, hc, hc80, hrr⟩ := hR
  have krw : (nI rw).toNatClampNeg = rw := nI_clamp (by omega)
  intro k
  induction k with
  | zero =>
    intro p h1 h2
    exact absurd h2 (by omega)
  | succ k ih =>
    intro p h1 h2
    refine XW.iload_n eX10_isLeft_15 rfl ?_
    refine XW.aload_n eX10_isLeft_16 rfl ?_
    refine XW.getR (b := 81) eX10_isLeft_17 f10_53_10 rfl (so_69 hs) (sr_69_14 hs) ?_
    refine XW.aload_n eX10_isLeft_20 rfl ?_
    refine XW.getI eX10_isLeft_21 f10_170_10 rfl (so_69 hs) ?_
    refine XW.iaload eX10_isLeft_24 (sa_81 hs) (by rw [hrw]; exact vp_in_nI hr4 (by decide)) ?_
    refine XW.icmp_ge eX10_isLeft_25 (fun c_25 => ?_) (fun c_25 => ?_)
    ·
      rw [hrw, krw, hc] at c_25
      have hi : ¬ p < c := fun h => nI_ge h (by omega) c_25
      have e1 : c - p = 0 := by omega
      rw [e1]
      refine XW.iload_n eX10_isLeft_106 rfl ?_
      exact XW.iret eX10_isLeft_107 rfl rfl rfl rfl rfl
    ·
      rw [hrw, krw, hc] at c_25
      have hi : p < c := Nat.lt_of_not_le (fun h => c_25 (nI_le h (by omega)))
      have kp : (nI (80 * rw + p)).toNatClampNeg = 80 * rw + p := nI_clamp (by omega)
      obtain ⟨⟨lx, hl, hlx0⟩, -⟩ := hrr p hi
      have hl4 : lx < 4 := by omega
      have hlx : (I 83 (((80 * (I 69 18)) + (nI p)).toNatClampNeg)) = nI lx := by rw [hrw, ix80, kp, hlx0]
      refine XW.iload_n eX10_isLeft_28 rfl ?_
      refine XW.if_ne eX10_isLeft_29 (fun h => absurd (by decide) h) (fun _ => ?_)
      refine XW.aload_n eX10_isLeft_32 rfl ?_
      refine XW.getR (b := 83) eX10_isLeft_33 f10_59_10 rfl (so_69 hs) (sr_69_16 hs) ?_
      refine XW.bipush (v := 80) eX10_isLeft_36 (by decide) ?_
      refine XW.aload_n eX10_isLeft_38 rfl ?_
      refine XW.getI eX10_isLeft_39 f10_170_10 rfl (so_69 hs) ?_
      refine XW.imul eX10_isLeft_42 ?_
      refine XW.iload_n eX10_isLeft_43 rfl ?_
      refine XW.iadd eX10_isLeft_44 ?_
      refine XW.iaload eX10_isLeft_45 (sa_83 hs) (by rw [hrw, ix80]; exact vp_in_nI (by omega) (by decide)) ?_
      refine XW.istore_n (ls' := [some (.ref 69), some (.int 0), some (.int (nI p)), some (.int (I 83 ((80 * (I 69 18)) + (nI p)).toNatClampNeg))]) eX10_isLeft_46 (Nat.le_of_ble_eq_true rfl) rfl ?_
      refine XW.aload_n eX10_isLeft_47 rfl ?_
      refine XW.iload_n eX10_isLeft_48 rfl ?_
      refine XW.callV (As := [.int (I 83 ((80 * (I 69 18)) + (nI p)).toNatClampNeg)]) (st := []) eX10_isLeft_49 okX10_isHeld cv10_177 rfl (so_69 hs) (YX10_isHeld hs I (I 83 ((80 * (I 69 18)) + (nI p)).toNatClampNeg) (by rw [hlx]; exact vp_in_nI hl4 (by decide))) (xnum rfl rfl rfl rfl rfl) ?_
      refine XW.if_eqB eX10_isLeft_52 (fun c_52 => ?_) (fun c_52 => ?_)
      ·
        skip
        refine XW.aload_n eX10_isLeft_73 rfl ?_
        refine XW.getR (b := 82) eX10_isLeft_74 f10_56_10 rfl (so_69 hs) (sr_69_15 hs) ?_
        refine XW.bipush (v := 80) eX10_isLeft_77 (by decide) ?_
        refine XW.aload_n eX10_isLeft_79 rfl ?_
        refine XW.getI eX10_isLeft_80 f10_170_10 rfl (so_69 hs) ?_
        refine XW.imul eX10_isLeft_83 ?_
        refine XW.iload_n eX10_isLeft_84 rfl ?_
        refine XW.iadd eX10_isLeft_85 ?_
        refine XW.iaload eX10_isLeft_86 (sa_82 hs) (by rw [hrw, ix80]; exact vp_in_nI (by omega) (by decide)) ?_
        refine XW.aload_n eX10_isLeft_87 rfl ?_
        refine XW.getI eX10_isLeft_88 f10_148_10 rfl (so_69 hs) ?_
        refine XW.icmp_lt eX10_isLeft_91 (fun c_91 => ?_) (fun c_91 => ?_)
        ·
          skip
          refine XW.iconst (v := 0) eX10_isLeft_98 (by decide) ?_
          refine XW.istore_n (ls' := [some (.ref 69), some (.int 0), some (.int (nI p)), some (.int (I 83 ((80 * (I 69 18)) + (nI p)).toNatClampNeg))]) eX10_isLeft_99 (Nat.le_of_ble_eq_true rfl) rfl ?_
          refine XW.iinc (y := ((nI p) + 1)) (ls' := [some (.ref 69), some (.int 0), some (.int ((nI p) + 1)), some (.int (I 83 ((80 * (I 69 18)) + (nI p)).toNatClampNeg))]) eX10_isLeft_100 rfl rfl rfl ?_
          refine XW.goto eX10_isLeft_103 ?_
          have hpn : mPnd I rw p = false := by unfold mPnd; simp only [hrw, ix80, kp] at *; (try rw [if_neg c_52]); (try rw [if_pos c_91]); (try rfl)
          have e1 : c - p = (c - (p + 1)) + 1 := by omega
          refine XW.forget 3 rfl ?_
          have hb : lft I rw (c - p) p = lft I rw (c - (p + 1)) (p + 1) := by rw [e1]; conv => lhs; unfold lft; rw [if_neg (by rw [hpn]; decide)]
          rw [hb]
          exact XW.to (ih (p + 1) (by omega) (by omega)) (by rw [nI_succ]; rfl) rfl rfl
        ·
          skip
          refine XW.iconst (v := 1) eX10_isLeft_94 (by decide) ?_
          refine XW.goto eX10_isLeft_95 ?_
          refine XW.istore_n (ls' := [some (.ref 69), some (.int 1), some (.int (nI p)), some (.int (I 83 ((80 * (I 69 18)) + (nI p)).toNatClampNeg))]) eX10_isLeft_99 (Nat.le_of_ble_eq_true rfl) rfl ?_
          refine XW.iinc (y := ((nI p) + 1)) (ls' := [some (.ref 69), some (.int 1), some (.int ((nI p) + 1)), some (.int (I 83 ((80 * (I 69 18)) + (nI p)).toNatClampNeg))]) eX10_isLeft_100 rfl rfl rfl ?_
          refine XW.goto eX10_isLeft_103 ?_
          have hpn : mPnd I rw p = true := by unfold mPnd; simp only [hrw, ix80, kp] at *; (try rw [if_neg c_52]); (try rw [if_neg c_91]); (try rfl)
          have e1 : c - p = (c - (p + 1)) + 1 := by omega
          refine XW.forget 3 rfl ?_
          have hb : lft I rw (c - p) p = true := by rw [e1]; unfold lft; rw [if_pos hpn]
          rw [hb]
          exact XW.to (LX10_isLeft1 hs I ⟨hr4, hrw, hc, hc80, hrr⟩ (p + 1)) (by rw [nI_succ]; rfl) rfl rfl
      ·
        skip
        refine XW.iload_n eX10_isLeft_55 rfl ?_
        refine XW.aload_n eX10_isLeft_56 rfl ?_
        refine XW.getR (b := 88) eX10_isLeft_57 f10_75_10 rfl (so_69 hs) (sr_69_26 hs) ?_
        refine XW.iload_n eX10_isLeft_60 rfl ?_
        refine XW.iaload eX10_isLeft_61 (sa_88 hs) (by rw [hlx]; exact vp_in_nI hl4 (by decide)) ?_
        refine XW.icmp_lt eX10_isLeft_62 (fun c_62 => ?_) (fun c_62 => ?_)
        ·
          skip
          refine XW.iconst (v := 0) eX10_isLeft_69 (by decide) ?_
          refine XW.goto eX10_isLeft_70 ?_
          refine XW.istore_n (ls' := [some (.ref 69), some (.int 0), some (.int (nI p)), some (.int (I 83 ((80 * (I 69 18)) + (nI p)).toNatClampNeg))]) eX10_isLeft_99 (Nat.le_of_ble_eq_true rfl) rfl ?_
          refine XW.iinc (y := ((nI p) + 1)) (ls' := [some (.ref 69), some (.int 0), some (.int ((nI p) + 1)), some (.int (I 83 ((80 * (I 69 18)) + (nI p)).toNatClampNeg))]) eX10_isLeft_100 rfl rfl rfl ?_
          refine XW.goto eX10_isLeft_103 ?_
          have hpn : mPnd I rw p = false := by unfold mPnd; simp only [hrw, ix80, kp] at *; (try rw [if_pos c_52]); (try rw [if_pos c_62]); (try rfl)
          have e1 : c - p = (c - (p + 1)) + 1 := by omega
          refine XW.forget 3 rfl ?_
          have hb : lft I rw (c - p) p = lft I rw (c - (p + 1)) (p + 1) := by rw [e1]; conv => lhs; unfold lft; rw [if_neg (by rw [hpn]; decide)]
          rw [hb]
          exact XW.to (ih (p + 1) (by omega) (by omega)) (by rw [nI_succ]; rfl) rfl rfl
        ·
          skip
          refine XW.iconst (v := 1) eX10_isLeft_65 (by decide) ?_
          refine XW.goto eX10_isLeft_66 ?_
          refine XW.istore_n (ls' := [some (.ref 69), some (.int 1), some (.int (nI p)), some (.int (I 83 ((80 * (I 69 18)) + (nI p)).toNatClampNeg))]) eX10_isLeft_99 (Nat.le_of_ble_eq_true rfl) rfl ?_
          refine XW.iinc (y := ((nI p) + 1)) (ls' := [some (.ref 69), some (.int 1), some (.int ((nI p) + 1)), some (.int (I 83 ((80 * (I 69 18)) + (nI p)).toNatClampNeg))]) eX10_isLeft_100 rfl rfl rfl ?_
          refine XW.goto eX10_isLeft_103 ?_
          have hpn : mPnd I rw p = true := by unfold mPnd; simp only [hrw, ix80, kp] at *; (try rw [if_pos c_52]); (try rw [if_neg c_62]); (try rfl)
          have e1 : c - p = (c - (p + 1)) + 1 := by omega
          refine XW.forget 3 rfl ?_
          have hb : lft I rw (c - p) p = true := by rw [e1]; unfold lft; rw [if_pos hpn]
          rw [hb]
          exact XW.to (LX10_isLeft1 hs I ⟨hr4, hrw, hc, hc80, hrr⟩ (p + 1)) (by rw [nI_succ]; rfl) rfl rfl
set_option maxRecDepth 100000 in
set_option maxHeartbeats 4000000 in
theorem YX10_isLeft {l : Launch} {C : xC} {G : xG} (hs : SH G) (I : xI) {n rw c : Nat} (hR : mRw I n rw c) (h4 : n ≤ 4) : XW l C mX10_isLeft 0 (xent mX10_isLeft [.ref 69]) [] G I (some (.int (sX10_isLeft I rw c))) G I := by
  show XW l C mX10_isLeft 0 [some (.ref 69), none, none, none] [] G I _ G _
  refine XW.aload_n eX10_isLeft_0 rfl ?_
  refine XW.callV (As := []) (st := []) eX10_isLeft_1 okX10_all cv10_151 rfl (so_69 hs) (YX10_all hs I) (xnum rfl rfl rfl rfl rfl) ?_
  refine XW.if_le eX10_isLeft_4 (fun c_4 => ?_) (fun c_4 => ?_)
  ·
    skip
    refine XW.iconst (v := 0) eX10_isLeft_11 (by decide) ?_
    refine XW.istore_n (ls' := [some (.ref 69), some (.int 0), none, none]) eX10_isLeft_12 (Nat.le_of_ble_eq_true rfl) rfl ?_
    refine XW.iconst (v := 0) eX10_isLeft_13 (by decide) ?_
    refine XW.istore_n (ls' := [some (.ref 69), some (.int 0), some (.int 0), none]) eX10_isLeft_14 (Nat.le_of_ble_eq_true rfl) rfl ?_
    refine XW.to (ls2 := [some (.ref 69), some (.int 0), some (.int (nI 0)), none]) (st2 := []) (I2 := I) ?_ rfl rfl rfl
    have hb : sX10_isLeft I rw c = bI (lft I rw (c - 0) 0 = true) := by unfold sX10_isLeft bI; rw [Nat.sub_zero]; by_cases hz : lft I rw c 0 = true <;> simp [hz, Int32.not_lt.mpr c_4]
    rw [hb]
    exact LX10_isLeft hs I hR h4 (c + 1) 0 (by omega) (by omega)
  ·
    skip
    refine XW.iconst (v := 1) eX10_isLeft_7 (by decide) ?_
    refine XW.goto eX10_isLeft_8 ?_
    refine XW.istore_n (ls' := [some (.ref 69), some (.int 1), none, none]) eX10_isLeft_12 (Nat.le_of_ble_eq_true rfl) rfl ?_
    refine XW.iconst (v := 0) eX10_isLeft_13 (by decide) ?_
    refine XW.istore_n (ls' := [some (.ref 69), some (.int 1), some (.int 0), none]) eX10_isLeft_14 (Nat.le_of_ble_eq_true rfl) rfl ?_
    refine XW.to (ls2 := [some (.ref 69), some (.int 1), some (.int (nI 0)), none]) (st2 := []) (I2 := I) ?_ rfl rfl rfl
    have hb : sX10_isLeft I rw c = 1 := if_pos (Or.inl (Int32.not_le.mp c_4))
    rw [hb]
    exact LX10_isLeft1 hs I hR 0
