/-! the reference: takes and comes -/
/-- the queues: what they hold are letters, and one more has its place -/
def mQ (I : xI) : Prop := ∃ st ln : Nat → Nat, ∀ j, j < 4 → I 87 j = nI (st j) ∧ I 86 j = nI (ln j) ∧ st j + ln j ≤ 80 ∧ ∀ t, t < ln j → ∃ k, k < 80 ∧ I 85 (80 * j + st j + t) = nI k
theorem takes_facts {I : xI} {n lx : Nat} (h1 : 1 ≤ n) (h4 : n ≤ 4) (hq : mQ I) (hl : lx < 4) (c : I 86 lx + 1 < I 86 (mLg I (n - 1))) : ∃ st ln k : Nat, mLg I (n - 1) < 4 ∧ I 87 (mLg I (n - 1)) = nI st ∧ I 86 (mLg I (n - 1)) = nI (ln + 1) ∧ st + ln ≤ 79 ∧ k < 80 ∧ I 85 (80 * mLg I (n - 1) + st + ln) = nI k ∧ mLg I (n - 1) ≠ lx := by
  obtain ⟨st, ln, hq⟩ := hq
  have hlo := mLg_le I (n - 1)
  obtain ⟨q1, q2, q3, q4⟩ := hq (mLg I (n - 1)) (by omega)
  obtain ⟨p1, p2, p3, p4⟩ := hq lx hl
  rw [p2, q2, nI_1] at c
  have hc := (nI_ltI (by omega) (by omega)).mp c
  obtain ⟨k, hk, hk2⟩ := q4 (ln (mLg I (n - 1)) - 1) (by omega)
  refine ⟨st (mLg I (n - 1)), ln (mLg I (n - 1)) - 1, k, by omega, q1, by rw [q2]; congr 1; omega, by omega, hk, by rw [← hk2], fun e => ?_⟩
  rw [e] at hc
  omega
def sX10_takes (I : xI) (n : Nat) (k : Int32) (lx : Nat) : Int32 := (if (I 69 19) = 0 then (if (I 71 lx) ≤ (I 86 lx) then 0 else (if ((I 69 0) - (sX10_all I)) ≤ 0 then 0 else 1)) else (if (I 69 19) = 1 then (if ((I 69 20) * ((I 69 0) - (sX10_all I))) ≤ (16 * (I 86 lx)) then 0 else (if ((I 69 0) - (sX10_all I)) ≤ 0 then 0 else 1)) else (if (I 69 19) = 3 then (if (I 70 lx) ≤ 0 then (if (I 69 0) ≤ (mCnt I n) then 0 else 1) else (if (I 86 lx) < (I 73 lx) then 1 else (if (I 69 0) ≤ (mCnt I n) then 0 else 1))) else (if ((I 69 0) - (sX10_all I)) ≤ 0 then (if ((I 86 lx) + 1) < (I 86 (mLg I (n - 1))) then 1 else 0) else 1))))
def mGo (I : xI) (lo : Nat) : Nat := (I 85 (80 * nI lo + I 87 lo + (I 86 lo - 1)).toNatClampNeg).toNatClampNeg
def tPush (I : xI) (lo : Nat) (k : Int32) : xI := wI (tX10_ends (wI I 86 lo (I 86 lo - 1)) (mGo I lo) 2) 93 (mGo I lo) k
def tX10_takes (I : xI) (n : Nat) (k : Int32) (lx : Nat) : xI := (if (I 69 19) = 0 then I else (if (I 69 19) = 1 then I else (if (I 69 19) = 3 then I else (if ((I 69 0) - (sX10_all I)) ≤ 0 then (if ((I 86 lx) + 1) < (I 86 (mLg I (n - 1))) then (tPush I (mLg I (n - 1)) k) else I) else I))))
set_option maxRecDepth 100000 in
set_option maxHeartbeats 4000000 in
theorem YX10_takes {l : Launch} {C : xC} {G : xG} (hs : SH G) (I : xI) {n : Nat} (hn : I 69 1 = nI n) (h1 : 1 ≤ n) (h4 : n ≤ 4) (hq : mQ I) (k : Int32) {lx : Nat} (hl : lx < 4) : XW l C mX10_takes 0 (xent mX10_takes [.ref 69, .int k, .int (nI lx)]) [] G I (some (.int (sX10_takes I n k lx))) G (tX10_takes I n k lx) := by
  show XW l C mX10_takes 0 [some (.ref 69), some (.int k), some (.int (nI lx)), none, none, none, none] [] G I _ G _
  have kl : (nI lx).toNatClampNeg = lx := nI_clamp (by omega)
  have kcl : (nI (mLg I (n - 1))).toNatClampNeg = mLg I (n - 1) := nI_clamp (by have := mLg_le I (n - 1); omega)
  refine XW.aload_n eX10_takes_0 rfl ?_
  refine XW.getR (b := 86) eX10_takes_1 f10_69_10 rfl (so_69 hs) (sr_69_24 hs) ?_
  refine XW.iload_n eX10_takes_4 rfl ?_
  refine XW.iaload eX10_takes_5 (sa_86 hs) (vp_in_nI hl (by decide)) ?_
  refine XW.istore_n (ls' := [some (.ref 69), some (.int k), some (.int (nI lx)), some (.int (I 86 (nI lx).toNatClampNeg)), none, none, none]) eX10_takes_6 (Nat.le_of_ble_eq_true rfl) rfl ?_
  refine XW.aload_n eX10_takes_7 rfl ?_
  refine XW.getI eX10_takes_8 f10_7_10 rfl (so_69 hs) ?_
  refine XW.aload_n eX10_takes_11 rfl ?_
  refine XW.callV (As := []) (st := [.int (I 69 0)]) eX10_takes_12 okX10_all cv10_151 rfl (so_69 hs) (YX10_all hs I) (xnum rfl rfl rfl rfl rfl) ?_
  refine XW.isub eX10_takes_15 ?_
  refine XW.istore (ls' := [some (.ref 69), some (.int k), some (.int (nI lx)), some (.int (I 86 (nI lx).toNatClampNeg)), some (.int ((I 69 0) - (sX10_all I))), none, none]) eX10_takes_16 (Nat.le_of_ble_eq_true rfl) rfl ?_
  refine XW.aload_n eX10_takes_18 rfl ?_
  refine XW.getI eX10_takes_19 f10_154_10 rfl (so_69 hs) ?_
  refine XW.if_ne eX10_takes_22 (fun c_22 => ?_) (fun c_22 => ?_)
  ·
    skip
    refine XW.aload_n eX10_takes_46 rfl ?_
    refine XW.getI eX10_takes_47 f10_154_10 rfl (so_69 hs) ?_
    refine XW.iconst (v := 1) eX10_takes_50 (by decide) ?_
    refine XW.icmp_ne eX10_takes_51 (fun c_51 => ?_) (fun c_51 => ?_)
    ·
      skip
      refine XW.aload_n eX10_takes_79 rfl ?_
      refine XW.getI eX10_takes_80 f10_154_10 rfl (so_69 hs) ?_
      refine XW.iconst (v := 3) eX10_takes_83 (by decide) ?_
      refine XW.icmp_ne eX10_takes_84 (fun c_84 => ?_) (fun c_84 => ?_)
      ·
        skip
        refine XW.iload eX10_takes_123 rfl ?_
        refine XW.if_le eX10_takes_125 (fun c_125 => ?_) (fun c_125 => ?_)
        ·
          skip
          refine XW.aload_n eX10_takes_130 rfl ?_
          refine XW.callV (As := []) (st := []) eX10_takes_131 okX10_longest cv10_163 rfl (so_69 hs) (YX10_longest hs I hn h1 h4) (xnum rfl rfl rfl rfl rfl) ?_
          refine XW.istore (ls' := [some (.ref 69), some (.int k), some (.int (nI lx)), some (.int (I 86 (nI lx).toNatClampNeg)), some (.int ((I 69 0) - (sX10_all I))), some (.int (nI (mLg I (n - 1)))), none]) eX10_takes_134 (Nat.le_of_ble_eq_true rfl) rfl ?_
          refine XW.aload_n eX10_takes_136 rfl ?_
          refine XW.getR (b := 86) eX10_takes_137 f10_69_10 rfl (so_69 hs) (sr_69_24 hs) ?_
          refine XW.iload eX10_takes_140 rfl ?_
          refine XW.iaload eX10_takes_142 (sa_86 hs) (vp_in_nI (by have := mLg_le I (n - 1); omega) (by decide)) ?_
          refine XW.iload_n eX10_takes_143 rfl ?_
          refine XW.iconst (v := 1) eX10_takes_144 (by decide) ?_
          refine XW.iadd eX10_takes_145 ?_
          refine XW.icmp_gt eX10_takes_146 (fun c_146 => ?_) (fun c_146 => ?_)
          ·
            simp only [kl, kcl] at c_146
            obtain ⟨st, ln, kk, q0, q1, q2, q3, hkk, q5, q6⟩ := takes_facts h1 h4 hq hl c_146
            have hidx : (((80 * (nI (mLg I (n - 1)))) + ((wI I 86 (nI (mLg I (n - 1))).toNatClampNeg ((I 86 (nI (mLg I (n - 1))).toNatClampNeg) - 1)) 87 (nI (mLg I (n - 1))).toNatClampNeg)) + ((wI I 86 (nI (mLg I (n - 1))).toNatClampNeg ((I 86 (nI (mLg I (n - 1))).toNatClampNeg) - 1)) 86 (nI (mLg I (n - 1))).toNatClampNeg)) = nI (80 * mLg I (n - 1) + st + ln) := by rw [kcl, wI_ne _ _ _ (by decide), wI_same, upd_same, q1, q2, nI_pred, show (80 : Int32) = nI 80 from rfl, pk_mul, nI_add, nI_add]
            have hgone : ((wI I 86 (nI (mLg I (n - 1))).toNatClampNeg ((I 86 (nI (mLg I (n - 1))).toNatClampNeg) - 1)) 85 (((80 * (nI (mLg I (n - 1)))) + ((wI I 86 (nI (mLg I (n - 1))).toNatClampNeg ((I 86 (nI (mLg I (n - 1))).toNatClampNeg) - 1)) 87 (nI (mLg I (n - 1))).toNatClampNeg)) + ((wI I 86 (nI (mLg I (n - 1))).toNatClampNeg ((I 86 (nI (mLg I (n - 1))).toNatClampNeg) - 1)) 86 (nI (mLg I (n - 1))).toNatClampNeg)).toNatClampNeg) = nI kk := by rw [hidx, wI_ne _ _ _ (by decide), nI_clamp (by omega), q5]
            refine XW.aload_n eX10_takes_151 rfl ?_
            refine XW.getR (b := 86) eX10_takes_152 f10_69_10 rfl (so_69 hs) (sr_69_24 hs) ?_
            refine XW.iload eX10_takes_155 rfl ?_
            refine XW.dup2 eX10_takes_157 rfl rfl ?_
            refine XW.iaload eX10_takes_158 (sa_86 hs) (vp_in_nI (by have := mLg_le I (n - 1); omega) (by decide)) ?_
            refine XW.iconst (v := 1) eX10_takes_159 (by decide) ?_
            refine XW.isub eX10_takes_160 ?_
            refine XW.iastore eX10_takes_161 (sa_86 hs) (vp_in_nI (by have := mLg_le I (n - 1); omega) (by decide)) ?_
            refine XW.aload_n eX10_takes_162 rfl ?_
            refine XW.getR (b := 85) eX10_takes_163 f10_66_10 rfl (so_69 hs) (sr_69_23 hs) ?_
            refine XW.bipush (v := 80) eX10_takes_166 (by decide) ?_
            refine XW.iload eX10_takes_168 rfl ?_
            refine XW.imul eX10_takes_170 ?_
            refine XW.aload_n eX10_takes_171 rfl ?_
            refine XW.getR (b := 87) eX10_takes_172 f10_72_10 rfl (so_69 hs) (sr_69_25 hs) ?_
            refine XW.iload eX10_takes_175 rfl ?_
            refine XW.iaload eX10_takes_177 (sa_87 hs) (vp_in_nI (by have := mLg_le I (n - 1); omega) (by decide)) ?_
            refine XW.iadd eX10_takes_178 ?_
            refine XW.aload_n eX10_takes_179 rfl ?_
            refine XW.getR (b := 86) eX10_takes_180 f10_69_10 rfl (so_69 hs) (sr_69_24 hs) ?_
            refine XW.iload eX10_takes_183 rfl ?_
            refine XW.iaload eX10_takes_185 (sa_86 hs) (vp_in_nI (by have := mLg_le I (n - 1); omega) (by decide)) ?_
            refine XW.iadd eX10_takes_186 ?_
            refine XW.iaload eX10_takes_187 (sa_85 hs) (by rw [hidx]; exact vp_in_nI (by omega) (by decide)) ?_
            refine XW.istore (ls' := [some (.ref 69), some (.int k), some (.int (nI lx)), some (.int (I 86 (nI lx).toNatClampNeg)), some (.int ((I 69 0) - (sX10_all I))), some (.int (nI (mLg I (n - 1)))), some (.int ((wI I 86 (nI (mLg I (n - 1))).toNatClampNeg ((I 86 (nI (mLg I (n - 1))).toNatClampNeg) - 1)) 85 (((80 * (nI (mLg I (n - 1)))) + ((wI I 86 (nI (mLg I (n - 1))).toNatClampNeg ((I 86 (nI (mLg I (n - 1))).toNatClampNeg) - 1)) 87 (nI (mLg I (n - 1))).toNatClampNeg)) + ((wI I 86 (nI (mLg I (n - 1))).toNatClampNeg ((I 86 (nI (mLg I (n - 1))).toNatClampNeg) - 1)) 86 (nI (mLg I (n - 1))).toNatClampNeg)).toNatClampNeg))]) eX10_takes_188 (Nat.le_of_ble_eq_true rfl) rfl ?_
            refine XW.aload_n eX10_takes_190 rfl ?_
            refine XW.iload eX10_takes_191 rfl ?_
            refine XW.iconst (v := 2) eX10_takes_193 (by decide) ?_
            refine XW.callV (As := [.int ((wI I 86 (nI (mLg I (n - 1))).toNatClampNeg ((I 86 (nI (mLg I (n - 1))).toNatClampNeg) - 1)) 85 (((80 * (nI (mLg I (n - 1)))) + ((wI I 86 (nI (mLg I (n - 1))).toNatClampNeg ((I 86 (nI (mLg I (n - 1))).toNatClampNeg) - 1)) 87 (nI (mLg I (n - 1))).toNatClampNeg)) + ((wI I 86 (nI (mLg I (n - 1))).toNatClampNeg ((I 86 (nI (mLg I (n - 1))).toNatClampNeg) - 1)) 86 (nI (mLg I (n - 1))).toNatClampNeg)).toNatClampNeg), .int 2]) (st := []) eX10_takes_194 okX10_ends cv10_166 rfl (so_69 hs) (YX10_ends hs (wI I 86 (nI (mLg I (n - 1))).toNatClampNeg ((I 86 (nI (mLg I (n - 1))).toNatClampNeg) - 1)) ((wI I 86 (nI (mLg I (n - 1))).toNatClampNeg ((I 86 (nI (mLg I (n - 1))).toNatClampNeg) - 1)) 85 (((80 * (nI (mLg I (n - 1)))) + ((wI I 86 (nI (mLg I (n - 1))).toNatClampNeg ((I 86 (nI (mLg I (n - 1))).toNatClampNeg) - 1)) 87 (nI (mLg I (n - 1))).toNatClampNeg)) + ((wI I 86 (nI (mLg I (n - 1))).toNatClampNeg ((I 86 (nI (mLg I (n - 1))).toNatClampNeg) - 1)) 86 (nI (mLg I (n - 1))).toNatClampNeg)).toNatClampNeg) 2 (by rw [hgone]; exact vp_in_nI hkk (by decide))) (xnum rfl rfl rfl rfl rfl) ?_
            refine XW.aload_n eX10_takes_197 rfl ?_
            refine XW.getR (b := 93) eX10_takes_198 f10_90_10 rfl (so_69 hs) (sr_69_31 hs) ?_
            refine XW.iload eX10_takes_201 rfl ?_
            refine XW.iload_n eX10_takes_203 rfl ?_
            refine XW.iastore eX10_takes_204 (sa_93 hs) (by rw [hgone]; exact vp_in_nI hkk (by decide)) ?_
            refine XW.iconst (v := 1) eX10_takes_205 (by decide) ?_
            exact XW.iret eX10_takes_206 rfl rfl (by (try unfold sX10_takes); (try unfold tX10_takes); (try simp only [kl, kcl] at c_22); (try simp only [kl, kcl] at c_51); (try simp only [kl, kcl] at c_84); (try simp only [kl, kcl] at c_125); (try simp only [kl, kcl] at c_146); (try rw [if_neg c_22]); (try rw [if_neg c_51]); (try rw [if_neg c_84]); (try rw [if_pos c_125]); (try rw [if_pos c_146]); (try rfl)) rfl (by (try unfold tX10_takes); (try simp only [kl, kcl] at c_22); (try simp only [kl, kcl] at c_51); (try simp only [kl, kcl] at c_84); (try simp only [kl, kcl] at c_125); (try simp only [kl, kcl] at c_146); (try rw [if_neg c_22]); (try rw [if_neg c_51]); (try rw [if_neg c_84]); (try rw [if_pos c_125]); (try rw [if_pos c_146]); unfold tPush mGo; rw [kcl]; simp only [wI_ne _ _ _ (show (85 : Nat) ≠ 86 by decide), wI_ne _ _ _ (show (87 : Nat) ≠ 86 by decide), wI_same, upd_same])
          ·
            skip
            refine XW.iconst (v := 0) eX10_takes_149 (by decide) ?_
            exact XW.iret eX10_takes_150 rfl rfl (by (try unfold sX10_takes); (try unfold tX10_takes); (try simp only [kl, kcl] at c_22); (try simp only [kl, kcl] at c_51); (try simp only [kl, kcl] at c_84); (try simp only [kl, kcl] at c_125); (try simp only [kl, kcl] at c_146); (try rw [if_neg c_22]); (try rw [if_neg c_51]); (try rw [if_neg c_84]); (try rw [if_pos c_125]); (try rw [if_neg c_146]); (try rfl)) rfl (by (try unfold sX10_takes); (try unfold tX10_takes); (try simp only [kl, kcl] at c_22); (try simp only [kl, kcl] at c_51); (try simp only [kl, kcl] at c_84); (try simp only [kl, kcl] at c_125); (try simp only [kl, kcl] at c_146); (try rw [if_neg c_22]); (try rw [if_neg c_51]); (try rw [if_neg c_84]); (try rw [if_pos c_125]); (try rw [if_neg c_146]); (try rfl))
        ·
          skip
          refine XW.iconst (v := 1) eX10_takes_128 (by decide) ?_
          exact XW.iret eX10_takes_129 rfl rfl (by (try unfold sX10_takes); (try unfold tX10_takes); (try simp only [kl, kcl] at c_22); (try simp only [kl, kcl] at c_51); (try simp only [kl, kcl] at c_84); (try simp only [kl, kcl] at c_125); (try rw [if_neg c_22]); (try rw [if_neg c_51]); (try rw [if_neg c_84]); (try rw [if_neg c_125]); (try rfl)) rfl (by (try unfold sX10_takes); (try unfold tX10_takes); (try simp only [kl, kcl] at c_22); (try simp only [kl, kcl] at c_51); (try simp only [kl, kcl] at c_84); (try simp only [kl, kcl] at c_125); (try rw [if_neg c_22]); (try rw [if_neg c_51]); (try rw [if_neg c_84]); (try rw [if_neg c_125]); (try rfl))
      ·
        skip
        refine XW.aload_n eX10_takes_87 rfl ?_
        refine XW.getR (b := 70) eX10_takes_88 f10_16_10 rfl (so_69 hs) (sr_69_2 hs) ?_
        refine XW.iload_n eX10_takes_91 rfl ?_
        refine XW.iaload eX10_takes_92 (sa_70 hs) (vp_in_nI hl (by decide)) ?_
        refine XW.if_le eX10_takes_93 (fun c_93 => ?_) (fun c_93 => ?_)
        ·
          skip
          refine XW.aload_n eX10_takes_106 rfl ?_
          refine XW.callV (As := []) (st := []) eX10_takes_107 okX10_counted cv10_160 rfl (so_69 hs) (YX10_counted hs I hn h4) (xnum rfl rfl rfl rfl rfl) ?_
          refine XW.aload_n eX10_takes_110 rfl ?_
          refine XW.getI eX10_takes_111 f10_7_10 rfl (so_69 hs) ?_
          refine XW.icmp_ge eX10_takes_114 (fun c_114 => ?_) (fun c_114 => ?_)
          ·
            skip
            refine XW.iconst (v := 0) eX10_takes_121 (by decide) ?_
            exact XW.iret eX10_takes_122 rfl rfl (by (try unfold sX10_takes); (try unfold tX10_takes); (try simp only [kl, kcl] at c_22); (try simp only [kl, kcl] at c_51); (try simp only [kl, kcl] at c_84); (try simp only [kl, kcl] at c_93); (try simp only [kl, kcl] at c_114); (try rw [if_neg c_22]); (try rw [if_neg c_51]); (try rw [if_pos c_84]); (try rw [if_pos c_93]); (try rw [if_pos c_114]); (try rfl)) rfl (by (try unfold sX10_takes); (try unfold tX10_takes); (try simp only [kl, kcl] at c_22); (try simp only [kl, kcl] at c_51); (try simp only [kl, kcl] at c_84); (try simp only [kl, kcl] at c_93); (try simp only [kl, kcl] at c_114); (try rw [if_neg c_22]); (try rw [if_neg c_51]); (try rw [if_pos c_84]); (try rw [if_pos c_93]); (try rw [if_pos c_114]); (try rfl))
          ·
            skip
            refine XW.iconst (v := 1) eX10_takes_117 (by decide) ?_
            refine XW.goto eX10_takes_118 ?_
            exact XW.iret eX10_takes_122 rfl rfl (by (try unfold sX10_takes); (try unfold tX10_takes); (try simp only [kl, kcl] at c_22); (try simp only [kl, kcl] at c_51); (try simp only [kl, kcl] at c_84); (try simp only [kl, kcl] at c_93); (try simp only [kl, kcl] at c_114); (try rw [if_neg c_22]); (try rw [if_neg c_51]); (try rw [if_pos c_84]); (try rw [if_pos c_93]); (try rw [if_neg c_114]); (try rfl)) rfl (by (try unfold sX10_takes); (try unfold tX10_takes); (try simp only [kl, kcl] at c_22); (try simp only [kl, kcl] at c_51); (try simp only [kl, kcl] at c_84); (try simp only [kl, kcl] at c_93); (try simp only [kl, kcl] at c_114); (try rw [if_neg c_22]); (try rw [if_neg c_51]); (try rw [if_pos c_84]); (try rw [if_pos c_93]); (try rw [if_neg c_114]); (try rfl))
        ·
          skip
          refine XW.iload_n eX10_takes_96 rfl ?_
          refine XW.aload_n eX10_takes_97 rfl ?_
          refine XW.getR (b := 73) eX10_takes_98 f10_26_10 rfl (so_69 hs) (sr_69_5 hs) ?_
          refine XW.iload_n eX10_takes_101 rfl ?_
          refine XW.iaload eX10_takes_102 (sa_73 hs) (vp_in_nI hl (by decide)) ?_
          refine XW.icmp_lt eX10_takes_103 (fun c_103 => ?_) (fun c_103 => ?_)
          ·
            skip
            refine XW.iconst (v := 1) eX10_takes_117 (by decide) ?_
            refine XW.goto eX10_takes_118 ?_
            exact XW.iret eX10_takes_122 rfl rfl (by (try unfold sX10_takes); (try unfold tX10_takes); (try simp only [kl, kcl] at c_22); (try simp only [kl, kcl] at c_51); (try simp only [kl, kcl] at c_84); (try simp only [kl, kcl] at c_93); (try simp only [kl, kcl] at c_103); (try rw [if_neg c_22]); (try rw [if_neg c_51]); (try rw [if_pos c_84]); (try rw [if_neg c_93]); (try rw [if_pos c_103]); (try rfl)) rfl (by (try unfold sX10_takes); (try unfold tX10_takes); (try simp only [kl, kcl] at c_22); (try simp only [kl, kcl] at c_51); (try simp only [kl, kcl] at c_84); (try simp only [kl, kcl] at c_93); (try simp only [kl, kcl] at c_103); (try rw [if_neg c_22]); (try rw [if_neg c_51]); (try rw [if_pos c_84]); (try rw [if_neg c_93]); (try rw [if_pos c_103]); (try rfl))
          ·
            skip
            refine XW.aload_n eX10_takes_106 rfl ?_
            refine XW.callV (As := []) (st := []) eX10_takes_107 okX10_counted cv10_160 rfl (so_69 hs) (YX10_counted hs I hn h4) (xnum rfl rfl rfl rfl rfl) ?_
            refine XW.aload_n eX10_takes_110 rfl ?_
            refine XW.getI eX10_takes_111 f10_7_10 rfl (so_69 hs) ?_
            refine XW.icmp_ge eX10_takes_114 (fun c_114 => ?_) (fun c_114 => ?_)
            ·
              skip
              refine XW.iconst (v := 0) eX10_takes_121 (by decide) ?_
              exact XW.iret eX10_takes_122 rfl rfl (by (try unfold sX10_takes); (try unfold tX10_takes); (try simp only [kl, kcl] at c_22); (try simp only [kl, kcl] at c_51); (try simp only [kl, kcl] at c_84); (try simp only [kl, kcl] at c_93); (try simp only [kl, kcl] at c_103); (try simp only [kl, kcl] at c_114); (try rw [if_neg c_22]); (try rw [if_neg c_51]); (try rw [if_pos c_84]); (try rw [if_neg c_93]); (try rw [if_neg c_103]); (try rw [if_pos c_114]); (try rfl)) rfl (by (try unfold sX10_takes); (try unfold tX10_takes); (try simp only [kl, kcl] at c_22); (try simp only [kl, kcl] at c_51); (try simp only [kl, kcl] at c_84); (try simp only [kl, kcl] at c_93); (try simp only [kl, kcl] at c_103); (try simp only [kl, kcl] at c_114); (try rw [if_neg c_22]); (try rw [if_neg c_51]); (try rw [if_pos c_84]); (try rw [if_neg c_93]); (try rw [if_neg c_103]); (try rw [if_pos c_114]); (try rfl))
            ·
              skip
              refine XW.iconst (v := 1) eX10_takes_117 (by decide) ?_
              refine XW.goto eX10_takes_118 ?_
              exact XW.iret eX10_takes_122 rfl rfl (by (try unfold sX10_takes); (try unfold tX10_takes); (try simp only [kl, kcl] at c_22); (try simp only [kl, kcl] at c_51); (try simp only [kl, kcl] at c_84); (try simp only [kl, kcl] at c_93); (try simp only [kl, kcl] at c_103); (try simp only [kl, kcl] at c_114); (try rw [if_neg c_22]); (try rw [if_neg c_51]); (try rw [if_pos c_84]); (try rw [if_neg c_93]); (try rw [if_neg c_103]); (try rw [if_neg c_114]); (try rfl)) rfl (by (try unfold sX10_takes); (try unfold tX10_takes); (try simp only [kl, kcl] at c_22); (try simp only [kl, kcl] at c_51); (try simp only [kl, kcl] at c_84); (try simp only [kl, kcl] at c_93); (try simp only [kl, kcl] at c_103); (try simp only [kl, kcl] at c_114); (try rw [if_neg c_22]); (try rw [if_neg c_51]); (try rw [if_pos c_84]); (try rw [if_neg c_93]); (try rw [if_neg c_103]); (try rw [if_neg c_114]); (try rfl))
    ·
      skip
      refine XW.bipush (v := 16) eX10_takes_54 (by decide) ?_
      refine XW.iload_n eX10_takes_56 rfl ?_
      refine XW.imul eX10_takes_57 ?_
      refine XW.aload_n eX10_takes_58 rfl ?_
      refine XW.getI eX10_takes_59 f10_157_10 rfl (so_69 hs) ?_
      refine XW.iload eX10_takes_62 rfl ?_
      refine XW.imul eX10_takes_64 ?_
      refine XW.icmp_ge eX10_takes_65 (fun c_65 => ?_) (fun c_65 => ?_)
      ·
        skip
        refine XW.iconst (v := 0) eX10_takes_77 (by decide) ?_
        exact XW.iret eX10_takes_78 rfl rfl (by (try unfold sX10_takes); (try unfold tX10_takes); (try simp only [kl, kcl] at c_22); (try simp only [kl, kcl] at c_51); (try simp only [kl, kcl] at c_65); (try rw [if_neg c_22]); (try rw [if_pos c_51]); (try rw [if_pos c_65]); (try rfl)) rfl (by (try unfold sX10_takes); (try unfold tX10_takes); (try simp only [kl, kcl] at c_22); (try simp only [kl, kcl] at c_51); (try simp only [kl, kcl] at c_65); (try rw [if_neg c_22]); (try rw [if_pos c_51]); (try rw [if_pos c_65]); (try rfl))
      ·
        skip
        refine XW.iload eX10_takes_68 rfl ?_
        refine XW.if_le eX10_takes_70 (fun c_70 => ?_) (fun c_70 => ?_)
        ·
          skip
          refine XW.iconst (v := 0) eX10_takes_77 (by decide) ?_
          exact XW.iret eX10_takes_78 rfl rfl (by (try unfold sX10_takes); (try unfold tX10_takes); (try simp only [kl, kcl] at c_22); (try simp only [kl, kcl] at c_51); (try simp only [kl, kcl] at c_65); (try simp only [kl, kcl] at c_70); (try rw [if_neg c_22]); (try rw [if_pos c_51]); (try rw [if_neg c_65]); (try rw [if_pos c_70]); (try rfl)) rfl (by (try unfold sX10_takes); (try unfold tX10_takes); (try simp only [kl, kcl] at c_22); (try simp only [kl, kcl] at c_51); (try simp only [kl, kcl] at c_65); (try simp only [kl, kcl] at c_70); (try rw [if_neg c_22]); (try rw [if_pos c_51]); (try rw [if_neg c_65]); (try rw [if_pos c_70]); (try rfl))
        ·
          skip
          refine XW.iconst (v := 1) eX10_takes_73 (by decide) ?_
          refine XW.goto eX10_takes_74 ?_
          exact XW.iret eX10_takes_78 rfl rfl (by (try unfold sX10_takes); (try unfold tX10_takes); (try simp only [kl, kcl] at c_22); (try simp only [kl, kcl] at c_51); (try simp only [kl, kcl] at c_65); (try simp only [kl, kcl] at c_70); (try rw [if_neg c_22]); (try rw [if_pos c_51]); (try rw [if_neg c_65]); (try rw [if_neg c_70]); (try rfl)) rfl (by (try unfold sX10_takes); (try unfold tX10_takes); (try simp only [kl, kcl] at c_22); (try simp only [kl, kcl] at c_51); (try simp only [kl, kcl] at c_65); (try simp only [kl, kcl] at c_70); (try rw [if_neg c_22]); (try rw [if_pos c_51]); (try rw [if_neg c_65]); (try rw [if_neg c_70]); (try rfl))
  ·
    skip
    refine XW.iload_n eX10_takes_25 rfl ?_
    refine XW.aload_n eX10_takes_26 rfl ?_
    refine XW.getR (b := 71) eX10_takes_27 f10_20_10 rfl (so_69 hs) (sr_69_3 hs) ?_
    refine XW.iload_n eX10_takes_30 rfl ?_
    refine XW.iaload eX10_takes_31 (sa_71 hs) (vp_in_nI hl (by decide)) ?_
    refine XW.icmp_ge eX10_takes_32 (fun c_32 => ?_) (fun c_32 => ?_)
    ·
      skip
      refine XW.iconst (v := 0) eX10_takes_44 (by decide) ?_
      exact XW.iret eX10_takes_45 rfl rfl (by (try unfold sX10_takes); (try unfold tX10_takes); (try simp only [kl, kcl] at c_22); (try simp only [kl, kcl] at c_32); (try rw [if_pos c_22]); (try rw [if_pos c_32]); (try rfl)) rfl (by (try unfold sX10_takes); (try unfold tX10_takes); (try simp only [kl, kcl] at c_22); (try simp only [kl, kcl] at c_32); (try rw [if_pos c_22]); (try rw [if_pos c_32]); (try rfl))
    ·
      skip
      refine XW.iload eX10_takes_35 rfl ?_
      refine XW.if_le eX10_takes_37 (fun c_37 => ?_) (fun c_37 => ?_)
      ·
        skip
        refine XW.iconst (v := 0) eX10_takes_44 (by decide) ?_
        exact XW.iret eX10_takes_45 rfl rfl (by (try unfold sX10_takes); (try unfold tX10_takes); (try simp only [kl, kcl] at c_22); (try simp only [kl, kcl] at c_32); (try simp only [kl, kcl] at c_37); (try rw [if_pos c_22]); (try rw [if_neg c_32]); (try rw [if_pos c_37]); (try rfl)) rfl (by (try unfold sX10_takes); (try unfold tX10_takes); (try simp only [kl, kcl] at c_22); (try simp only [kl, kcl] at c_32); (try simp only [kl, kcl] at c_37); (try rw [if_pos c_22]); (try rw [if_neg c_32]); (try rw [if_pos c_37]); (try rfl))
      ·
        skip
        refine XW.iconst (v := 1) eX10_takes_40 (by decide) ?_
        refine XW.goto eX10_takes_41 ?_
        exact XW.iret eX10_takes_45 rfl rfl (by (try unfold sX10_takes); (try unfold tX10_takes); (try simp only [kl, kcl] at c_22); (try simp only [kl, kcl] at c_32); (try simp only [kl, kcl] at c_37); (try rw [if_pos c_22]); (try rw [if_neg c_32]); (try rw [if_neg c_37]); (try rfl)) rfl (by (try unfold sX10_takes); (try unfold tX10_takes); (try simp only [kl, kcl] at c_22); (try simp only [kl, kcl] at c_32); (try simp only [kl, kcl] at c_37); (try rw [if_pos c_22]); (try rw [if_neg c_32]); (try rw [if_neg c_37]); (try rfl))
