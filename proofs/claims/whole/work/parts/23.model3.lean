/-! the reference: copy, letters, sum, pass -/
theorem wi_in {i n z : Int32} {zz : Nat} (hz : z = nI zz) (hzz : zz ≤ 160) (hn : ¬ n < 0) (h : 0 ≤ i ∧ i.toInt + n.toInt ≤ z.toInt) : ∃ a b : Nat, i = nI a ∧ n = nI b ∧ a + b ≤ zz := by
  obtain ⟨a, ha, rfl⟩ := nI_of (Int32.not_lt.mpr h.1)
  obtain ⟨b, hb, rfl⟩ := nI_of hn
  subst hz
  have h2 := h.2
  rw [nI_toInt ha, nI_toInt hb, nI_toInt (by omega)] at h2
  exact ⟨a, b, rfl, rfl, by omega⟩
set_option maxRecDepth 100000 in
set_option maxHeartbeats 4000000 in
theorem LX10_copy1 {l : Launch} {C : xC} {G : xG} (hs : SH G) (J : xI) {s a d b n : Nat} (hs4 : s < 4) (hd4 : d < 4) (ha : a + n ≤ 160) (hb : b + n ≤ 160) {r : Option Value} {G' : xG} {I' : xI} (kx : XW l C mX10_copy 124 [some (.ref 69), some (.int (nI s)), some (.int (nI a)), some (.int (nI d)), some (.int (nI b)), some (.int (nI n)), some (.int (nI n))] [] G (wA J 80 (cpy (J 79) (J 80) (160 * s + a) 0 n)) r G' I') : ∀ (k i : Nat), i ≤ n → n < i + k → XW l C mX10_copy 89 [some (.ref 69), some (.int (nI s)), some (.int (nI a)), some (.int (nI d)), some (.int (nI b)), some (.int (nI n)), some (.int (nI i))] [] G (wA J 80 (cpy (J 79) (J 80) (160 * s + a) 0 i)) r G' I' := by
  intro k
  induction k with
  | zero =>
    intro i h1 h2
    exact absurd h2 (by omega)
  | succ k ih =>
    intro i h1 h2
    refine XW.iload eX10_copy_89 rfl ?_
    refine XW.iload eX10_copy_91 rfl ?_
    refine XW.icmp_ge eX10_copy_93 (fun c_93 => ?_) (fun c_93 => ?_)
    ·
      have hi : ¬ i < n := fun h => nI_ge h (by omega) c_93
      have hi2 : i = n := by omega
      subst hi2
      exact kx
    ·
      have hi : i < n := Nat.lt_of_not_le (fun h => c_93 (nI_le h (by omega)))
      have hix : (160 : Int32) * nI s + nI a + nI i = nI (160 * s + a + i) := by rw [show (160 : Int32) = nI 160 from rfl, pk_mul, nI_add, nI_add]
      refine XW.aload_n eX10_copy_96 rfl ?_
      refine XW.getR (b := 80) eX10_copy_97 f10_50_10 rfl (so_69 hs) (sr_69_13 hs) ?_
      refine XW.iload eX10_copy_100 rfl ?_
      refine XW.aload_n eX10_copy_102 rfl ?_
      refine XW.getR (b := 79) eX10_copy_103 f10_47_10 rfl (so_69 hs) (sr_69_12 hs) ?_
      refine XW.sipush (v := 160) eX10_copy_106 (by decide) ?_
      refine XW.iload_n eX10_copy_109 rfl ?_
      refine XW.imul eX10_copy_110 ?_
      refine XW.iload_n eX10_copy_111 rfl ?_
      refine XW.iadd eX10_copy_112 ?_
      refine XW.iload eX10_copy_113 rfl ?_
      refine XW.iadd eX10_copy_115 ?_
      refine XW.iaload eX10_copy_116 (sa_79 hs) (by rw [hix]; exact vp_in_nI (by omega) (by decide)) ?_
      refine XW.iastore eX10_copy_117 (sa_80 hs) (vp_in_nI (by omega) (by decide)) ?_
      refine XW.iinc (y := ((nI i) + 1)) (ls' := [some (.ref 69), some (.int (nI s)), some (.int (nI a)), some (.int (nI d)), some (.int (nI b)), some (.int (nI n)), some (.int ((nI i) + 1))]) eX10_copy_118 rfl rfl rfl ?_
      refine XW.goto eX10_copy_121 ?_
      exact XW.to (ih (i + 1) (by omega) (by omega)) (by simp only [nI_succ]) rfl (by rw [wI_wA, hix, nI_clamp (by omega), nI_clamp (by omega), wA_ne _ _ (by decide)]; rw [← cpy_succ, Nat.zero_add])
set_option maxRecDepth 100000 in
set_option maxHeartbeats 4000000 in
theorem LX10_copy2 {l : Launch} {C : xC} {G : xG} (hs : SH G) (J : xI) {s a d b n : Nat} (hs4 : s < 4) (hd4 : d < 4) (ha : a + n ≤ 160) (hb : b + n ≤ 160) {r : Option Value} {G' : xG} {I' : xI} (kx : XW l C mX10_copy 163 [some (.ref 69), some (.int (nI s)), some (.int (nI a)), some (.int (nI d)), some (.int (nI b)), some (.int (nI n)), some (.int (nI n))] [] G (wA J 79 (cpy (J 80) (J 79) 0 (160 * d + b) n)) r G' I') : ∀ (k i : Nat), i ≤ n → n < i + k → XW l C mX10_copy 127 [some (.ref 69), some (.int (nI s)), some (.int (nI a)), some (.int (nI d)), some (.int (nI b)), some (.int (nI n)), some (.int (nI i))] [] G (wA J 79 (cpy (J 80) (J 79) 0 (160 * d + b) i)) r G' I' := by
  intro k
  induction k with
  | zero =>
    intro i h1 h2
    exact absurd h2 (by omega)
  | succ k ih =>
    intro i h1 h2
    refine XW.iload eX10_copy_127 rfl ?_
    refine XW.iload eX10_copy_129 rfl ?_
    refine XW.icmp_ge eX10_copy_131 (fun c_131 => ?_) (fun c_131 => ?_)
    ·
      have hi : ¬ i < n := fun h => nI_ge h (by omega) c_131
      have hi2 : i = n := by omega
      subst hi2
      exact kx
    ·
      have hi : i < n := Nat.lt_of_not_le (fun h => c_131 (nI_le h (by omega)))
      have hix : (160 : Int32) * nI d + nI b + nI i = nI (160 * d + b + i) := by rw [show (160 : Int32) = nI 160 from rfl, pk_mul, nI_add, nI_add]
      refine XW.aload_n eX10_copy_134 rfl ?_
      refine XW.getR (b := 79) eX10_copy_135 f10_47_10 rfl (so_69 hs) (sr_69_12 hs) ?_
      refine XW.sipush (v := 160) eX10_copy_138 (by decide) ?_
      refine XW.iload_n eX10_copy_141 rfl ?_
      refine XW.imul eX10_copy_142 ?_
      refine XW.iload eX10_copy_143 rfl ?_
      refine XW.iadd eX10_copy_145 ?_
      refine XW.iload eX10_copy_146 rfl ?_
      refine XW.iadd eX10_copy_148 ?_
      refine XW.aload_n eX10_copy_149 rfl ?_
      refine XW.getR (b := 80) eX10_copy_150 f10_50_10 rfl (so_69 hs) (sr_69_13 hs) ?_
      refine XW.iload eX10_copy_153 rfl ?_
      refine XW.iaload eX10_copy_155 (sa_80 hs) (vp_in_nI (by omega) (by decide)) ?_
      refine XW.iastore eX10_copy_156 (sa_79 hs) (by rw [hix]; exact vp_in_nI (by omega) (by decide)) ?_
      refine XW.iinc (y := ((nI i) + 1)) (ls' := [some (.ref 69), some (.int (nI s)), some (.int (nI a)), some (.int (nI d)), some (.int (nI b)), some (.int (nI n)), some (.int ((nI i) + 1))]) eX10_copy_157 rfl rfl rfl ?_
      refine XW.goto eX10_copy_160 ?_
      exact XW.to (ih (i + 1) (by omega) (by omega)) (by simp only [nI_succ]) rfl (by rw [wI_wA, hix, nI_clamp (by omega), nI_clamp (by omega), wA_ne _ _ (by decide)]; rw [← cpy_succ, Nat.zero_add])
def uX10_copy (I : xI) (s a d b n : Nat) : xI := wA (wA I 80 (cpy (I 79) (I 80) (160 * s + a) 0 n)) 79 (cpy (I 79) (I 79) (160 * s + a) (160 * d + b) n)
theorem cpy_cpy (f g : Nat → Int32) (sp dp n : Nat) (h : Nat → Int32) : cpy (cpy f g sp 0 n) h 0 dp n = cpy f h sp dp n := by
  funext q
  unfold cpy
  by_cases h2 : dp ≤ q ∧ q < dp + n
  · rw [if_pos h2, if_pos h2, if_pos (by omega)]
    congr 1
    omega
  · rw [if_neg h2, if_neg h2]
abbrev iwP (I : xI) (s i n : Int32) : Prop := 0 ≤ i ∧ i.toInt + n.toInt ≤ (I 78 s.toNatClampNeg).toInt
def sX10_copy (I : xI) (x i y j n : Int32) : Int32 := if 0 ≤ x ∧ x ≤ 3 then (if 0 ≤ y ∧ y ≤ 3 then (if I 77 x.toNatClampNeg < 0 then (-11) else (if 0 ≤ I 77 y.toNatClampNeg then (if I 77 x.toNatClampNeg = I 77 y.toNatClampNeg then (if n < 0 then (-13) else (if iwP I x i n then (if iwP I y j n then n else (-13)) else (-13))) else (-12)) else (-11))) else (-1)) else (-1)
def tX10_copy (I : xI) (x i y j n : Int32) : xI := if 0 ≤ x ∧ x ≤ 3 then (if 0 ≤ y ∧ y ≤ 3 then (if I 77 x.toNatClampNeg < 0 then I else (if 0 ≤ I 77 y.toNatClampNeg then (if I 77 x.toNatClampNeg = I 77 y.toNatClampNeg then (if n < 0 then I else (if iwP I x i n then (if iwP I y j n then uX10_copy I x.toNatClampNeg i.toNatClampNeg y.toNatClampNeg j.toNatClampNeg n.toNatClampNeg else I) else I)) else I) else I)) else I) else I
set_option maxRecDepth 100000 in
set_option maxHeartbeats 4000000 in
theorem YX10_copy {l : Launch} {C : xC} {G : xG} (hs : SH G) (I : xI) (hz : mHZ I) (x i y j n : Int32) : XW l C mX10_copy 0 (xent mX10_copy [.ref 69, .int x, .int i, .int y, .int j, .int n]) [] G I (some (.int (sX10_copy I x i y j n))) G (tX10_copy I x i y j n) := by
  show XW l C mX10_copy 0 [some (.ref 69), some (.int x), some (.int i), some (.int y), some (.int j), some (.int n), none] [] G I _ G _
  refine XW.iload_n eX10_copy_0 rfl ?_
  refine XW.callS (As := [.int x]) (st := []) eX10_copy_1 okX10_isSheet cs10_135 rfl (YX10_isSheet I  x) (xnum rfl rfl rfl rfl rfl) ?_
  refine XW.if_eqB eX10_copy_4 (fun c_4 => ?_) (fun c_4 => ?_)
  ·
    skip
    refine XW.iconst (v := (-1)) eX10_copy_14 (by decide) ?_
    exact XW.iret eX10_copy_15 rfl rfl (by (try unfold sX10_copy); (try unfold tX10_copy); (try rw [if_neg c_4]); (try rfl)) rfl (by (try unfold sX10_copy); (try unfold tX10_copy); (try rw [if_neg c_4]); (try rfl))
  ·
    skip
    refine XW.iload_n eX10_copy_7 rfl ?_
    refine XW.callS (As := [.int y]) (st := []) eX10_copy_8 okX10_isSheet cs10_135 rfl (YX10_isSheet I  y) (xnum rfl rfl rfl rfl rfl) ?_
    refine XW.if_neB eX10_copy_11 (fun c_11 => ?_) (fun c_11 => ?_)
    ·
      skip
      refine XW.aload_n eX10_copy_16 rfl ?_
      refine XW.getR (b := 77) eX10_copy_17 f10_41_10 rfl (so_69 hs) (sr_69_10 hs) ?_
      refine XW.iload_n eX10_copy_20 rfl ?_
      refine XW.iaload eX10_copy_21 (sa_77 hs) (vin_k c_4 (by decide)) ?_
      refine XW.if_lt eX10_copy_22 (fun c_22 => ?_) (fun c_22 => ?_)
      ·
        skip
        refine XW.bipush (v := (-11)) eX10_copy_34 (by decide) ?_
        exact XW.iret eX10_copy_36 rfl rfl (by (try unfold sX10_copy); (try unfold tX10_copy); (try rw [if_pos c_4]); (try rw [if_pos c_11]); (try rw [if_pos c_22]); (try rfl)) rfl (by (try unfold sX10_copy); (try unfold tX10_copy); (try rw [if_pos c_4]); (try rw [if_pos c_11]); (try rw [if_pos c_22]); (try rfl))
      ·
        skip
        refine XW.aload_n eX10_copy_25 rfl ?_
        refine XW.getR (b := 77) eX10_copy_26 f10_41_10 rfl (so_69 hs) (sr_69_10 hs) ?_
        refine XW.iload_n eX10_copy_29 rfl ?_
        refine XW.iaload eX10_copy_30 (sa_77 hs) (vin_k c_11 (by decide)) ?_
        refine XW.if_ge eX10_copy_31 (fun c_31 => ?_) (fun c_31 => ?_)
        ·
          skip
          refine XW.aload_n eX10_copy_37 rfl ?_
          refine XW.getR (b := 77) eX10_copy_38 f10_41_10 rfl (so_69 hs) (sr_69_10 hs) ?_
          refine XW.iload_n eX10_copy_41 rfl ?_
          refine XW.iaload eX10_copy_42 (sa_77 hs) (vin_k c_4 (by decide)) ?_
          refine XW.aload_n eX10_copy_43 rfl ?_
          refine XW.getR (b := 77) eX10_copy_44 f10_41_10 rfl (so_69 hs) (sr_69_10 hs) ?_
          refine XW.iload_n eX10_copy_47 rfl ?_
          refine XW.iaload eX10_copy_48 (sa_77 hs) (vin_k c_11 (by decide)) ?_
          refine XW.icmp_eq eX10_copy_49 (fun c_49 => ?_) (fun c_49 => ?_)
          ·
            skip
            refine XW.iload eX10_copy_55 rfl ?_
            refine XW.if_lt eX10_copy_57 (fun c_57 => ?_) (fun c_57 => ?_)
            ·
              skip
              refine XW.bipush (v := (-13)) eX10_copy_83 (by decide) ?_
              exact XW.iret eX10_copy_85 rfl rfl (by (try unfold sX10_copy); (try unfold tX10_copy); (try rw [if_pos c_4]); (try rw [if_pos c_11]); (try rw [if_neg c_22]); (try rw [if_pos c_31]); (try rw [if_pos c_49]); (try rw [if_pos c_57]); (try rfl)) rfl (by (try unfold sX10_copy); (try unfold tX10_copy); (try rw [if_pos c_4]); (try rw [if_pos c_11]); (try rw [if_neg c_22]); (try rw [if_pos c_31]); (try rw [if_pos c_49]); (try rw [if_pos c_57]); (try rfl))
            ·
              skip
              refine XW.aload_n eX10_copy_60 rfl ?_
              refine XW.iload_n eX10_copy_61 rfl ?_
              refine XW.iload_n eX10_copy_62 rfl ?_
              refine XW.iload eX10_copy_63 rfl ?_
              refine XW.callV (As := [.int x, .int i, .int n]) (st := []) eX10_copy_65 okX10_isWithin cv10_138 rfl (so_69 hs) (YX10_isWithin hs I x i n c_4) (xnum rfl rfl rfl rfl rfl) ?_
              refine XW.if_eqB eX10_copy_68 (fun c_68 => ?_) (fun c_68 => ?_)
              ·
                skip
                refine XW.bipush (v := (-13)) eX10_copy_83 (by decide) ?_
                exact XW.iret eX10_copy_85 rfl rfl (by (try unfold sX10_copy); (try unfold tX10_copy); (try rw [if_pos c_4]); (try rw [if_pos c_11]); (try rw [if_neg c_22]); (try rw [if_pos c_31]); (try rw [if_pos c_49]); (try rw [if_neg c_57]); (try rw [if_neg c_68]); (try rfl)) rfl (by (try unfold sX10_copy); (try unfold tX10_copy); (try rw [if_pos c_4]); (try rw [if_pos c_11]); (try rw [if_neg c_22]); (try rw [if_pos c_31]); (try rw [if_pos c_49]); (try rw [if_neg c_57]); (try rw [if_neg c_68]); (try rfl))
              ·
                skip
                refine XW.aload_n eX10_copy_71 rfl ?_
                refine XW.iload_n eX10_copy_72 rfl ?_
                refine XW.iload eX10_copy_73 rfl ?_
                refine XW.iload eX10_copy_75 rfl ?_
                refine XW.callV (As := [.int y, .int j, .int n]) (st := []) eX10_copy_77 okX10_isWithin cv10_138 rfl (so_69 hs) (YX10_isWithin hs I y j n c_11) (xnum rfl rfl rfl rfl rfl) ?_
                refine XW.if_neB eX10_copy_80 (fun c_80 => ?_) (fun c_80 => ?_)
                ·
                  skip
                  refine XW.iconst (v := 0) eX10_copy_86 (by decide) ?_
                  refine XW.istore (ls' := [some (.ref 69), some (.int x), some (.int i), some (.int y), some (.int j), some (.int n), some (.int 0)]) eX10_copy_87 (Nat.le_of_ble_eq_true rfl) rfl ?_
                  obtain ⟨s, hs4, rfl⟩ := vp_in_of (vin_3 c_4) (by decide)
                  obtain ⟨d, hd4, rfl⟩ := vp_in_of (vin_3 c_11) (by decide)
                  obtain ⟨z1, hz1, hz2⟩ := hz _ (xin_lt (vin_3 c_4))
                  obtain ⟨z2, hz3, hz4⟩ := hz _ (xin_lt (vin_3 c_11))
                  obtain ⟨a, nn, rfl, rfl, hab⟩ := wi_in hz2 hz1 c_57 c_68
                  obtain ⟨b, nn2, rfl, hnn, hbb⟩ := wi_in hz4 hz3 c_57 c_80
                  have hnn : nn = nn2 := (nI_eq (by omega) (by omega)).mp hnn
                  subst hnn
                  refine XW.to (LX10_copy1 (s := s) (a := a) (d := d) (b := b) (n := nn) hs I hs4 hd4 (by omega) (by omega) ?_ (nn + 1) 0 (by omega) (by omega)) rfl rfl (by rw [cpy_0, wA_self])
                  refine XW.iconst (v := 0) eX10_copy_124 (by decide) ?_
                  refine XW.istore (ls' := [some (.ref 69), some (.int (nI s)), some (.int (nI a)), some (.int (nI d)), some (.int (nI b)), some (.int (nI nn)), some (.int 0)]) eX10_copy_125 (Nat.le_of_ble_eq_true rfl) rfl ?_
                  refine XW.to (LX10_copy2 (s := s) (a := a) (d := d) (b := b) (n := nn) hs (wA I 80 (cpy (I 79) (I 80) (160 * s + a) 0 nn)) hs4 hd4 (by omega) (by omega) ?_ (nn + 1) 0 (by omega) (by omega)) rfl rfl (by rw [cpy_0, wA_self])
                  refine XW.iload eX10_copy_163 rfl ?_
                  exact XW.iret eX10_copy_165 rfl rfl (by unfold sX10_copy; rw [if_pos c_4, if_pos c_11, if_neg c_22, if_pos c_31, if_pos c_49, if_neg c_57, if_pos c_68, if_pos c_80]) rfl (by unfold tX10_copy; rw [if_pos c_4, if_pos c_11, if_neg c_22, if_pos c_31, if_pos c_49, if_neg c_57, if_pos c_68, if_pos c_80]; unfold uX10_copy; rw [nI_clamp (by omega), nI_clamp (by omega), nI_clamp (by omega), nI_clamp (by omega), nI_clamp (by omega), wA_same, wA_ne _ _ (by decide), cpy_cpy])
                ·
                  skip
                  refine XW.bipush (v := (-13)) eX10_copy_83 (by decide) ?_
                  exact XW.iret eX10_copy_85 rfl rfl (by (try unfold sX10_copy); (try unfold tX10_copy); (try rw [if_pos c_4]); (try rw [if_pos c_11]); (try rw [if_neg c_22]); (try rw [if_pos c_31]); (try rw [if_pos c_49]); (try rw [if_neg c_57]); (try rw [if_pos c_68]); (try rw [if_neg c_80]); (try rfl)) rfl (by (try unfold sX10_copy); (try unfold tX10_copy); (try rw [if_pos c_4]); (try rw [if_pos c_11]); (try rw [if_neg c_22]); (try rw [if_pos c_31]); (try rw [if_pos c_49]); (try rw [if_neg c_57]); (try rw [if_pos c_68]); (try rw [if_neg c_80]); (try rfl))
          ·
            skip
            refine XW.bipush (v := (-12)) eX10_copy_52 (by decide) ?_
            exact XW.iret eX10_copy_54 rfl rfl (by (try unfold sX10_copy); (try unfold tX10_copy); (try rw [if_pos c_4]); (try rw [if_pos c_11]); (try rw [if_neg c_22]); (try rw [if_pos c_31]); (try rw [if_neg c_49]); (try rfl)) rfl (by (try unfold sX10_copy); (try unfold tX10_copy); (try rw [if_pos c_4]); (try rw [if_pos c_11]); (try rw [if_neg c_22]); (try rw [if_pos c_31]); (try rw [if_neg c_49]); (try rfl))
        ·
          skip
          refine XW.bipush (v := (-11)) eX10_copy_34 (by decide) ?_
          exact XW.iret eX10_copy_36 rfl rfl (by (try unfold sX10_copy); (try unfold tX10_copy); (try rw [if_pos c_4]); (try rw [if_pos c_11]); (try rw [if_neg c_22]); (try rw [if_neg c_31]); (try rfl)) rfl (by (try unfold sX10_copy); (try unfold tX10_copy); (try rw [if_pos c_4]); (try rw [if_pos c_11]); (try rw [if_neg c_22]); (try rw [if_neg c_31]); (try rfl))
    ·
      skip
      refine XW.iconst (v := (-1)) eX10_copy_14 (by decide) ?_
      exact XW.iret eX10_copy_15 rfl rfl (by (try unfold sX10_copy); (try unfold tX10_copy); (try rw [if_pos c_4]); (try rw [if_neg c_11]); (try rfl)) rfl (by (try unfold sX10_copy); (try unfold tX10_copy); (try rw [if_pos c_4]); (try rw [if_neg c_11]); (try rfl))
