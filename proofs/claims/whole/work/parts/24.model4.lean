/-! the reference: letters, sum, pass -/
theorem XW.forget {l : Launch} {C : xC} {M : xM} {pc : Nat} {ls ls2 : List (Option Value)} {st : List Value} {G G' : xG} {I I' : xI} {r : Option Value} (i : Nat) (hl : ls.set i none = ls2) (kk : XW l C M pc ls2 st G I r G' I') : XW l C M pc ls st G I r G' I' := by
  subst hl
  refine kk.less (by simp) (fun k v h => ?_)
  by_cases hk : i = k
  · subst hk
    by_cases hlt : i < ls.length
    · rw [List.getElem?_set_self hlt] at h; cases h
    · rw [List.getElem?_eq_none (by simpa using hlt)] at h; cases h
  · rwa [List.getElem?_set_ne hk] at h
def lok (f : Nat → Int32) (m : Int32) : Nat → Nat → Int32 → Bool
  | 0, _, _ => true
  | k + 1, p, last => if (last ≤ f p ∧ f p ≤ 39) ∧ (0 ≤ f (p + 1) ∧ f (p + 1) ≤ m) then lok f m k (p + 2) (f p) else false
theorem lstep (J : xI) (F K U : Nat → Int32) (k k2 rw : Nat) (v1 v2 v3 : Int32) : wI (wI (wI (wA (wA (wA J 82 F) 83 K) 81 U) 82 k v1) 83 k2 v2) 81 rw v3 = wA (wA (wA J 82 (upd F k v1)) 83 (upd K k2 v2)) 81 (upd U rw v3) := by
  funext b
  by_cases h1 : b = 81
  · subst h1; simp [wI, wA]
  by_cases h2 : b = 82
  · subst h2; simp [wI, wA]
  by_cases h3 : b = 83
  · subst h3; simp [wI, wA]
  · simp [wI, wA, h1, h2, h3]
theorem upd_upd (f : Nat → Int32) (k : Nat) (v w : Int32) : upd (upd f k v) k w = upd f k w := by
  funext q
  unfold upd
  split <;> rfl
set_option maxRecDepth 100000 in
set_option maxHeartbeats 4000000 in
theorem LX10_letters1 {l : Launch} {C : xC} {G : xG} (hs : SH G) (J : xI) {rw s a n : Nat} {y : Int32} (hr4 : rw < 4) (hs4 : s < 4) (ha : a + 2 * n ≤ 160) {r : Option Value} {I' : xI} {b : Bool} : ∀ (k j : Nat) (last : Int32), j ≤ n → n < j + k → lok (J 79) (J 69 1 - 1) (n - j) (160 * s + a + 2 * j) last = b → (true = b → ∀ last : Int32, XW l C mX10_letters 193 [some (.ref 69), some (.int (nI rw)), some (.int (nI s)), some (.int y), some (.int (nI a)), some (.int (nI n)), some (.int last), some (.int (nI n)), none] [] G J r G I') → (false = b → r = some (.int (-2)) ∧ G = G ∧ I' = J) → XW l C mX10_letters 114 [some (.ref 69), some (.int (nI rw)), some (.int (nI s)), some (.int y), some (.int (nI a)), some (.int (nI n)), some (.int last), some (.int (nI j)), none] [] G J r G I' := by
  intro k
  induction k with
  | zero =>
    intro j last h1 h2
    exact absurd h2 (by omega)
  | succ k ih =>
    intro j last h1 h2 hk kx kf
    refine XW.iload eX10_letters_114 rfl ?_
    refine XW.iload eX10_letters_116 rfl ?_
    refine XW.icmp_ge eX10_letters_118 (fun c_118 => ?_) (fun c_118 => ?_)
    ·
      have hi : ¬ j < n := fun h => nI_ge h (by omega) c_118
      have hi2 : j = n := by omega
      subst hi2
      rw [Nat.sub_self] at hk
      exact kx hk last
    ·
      have hi : j < n := Nat.lt_of_not_le (fun h => c_118 (nI_le h (by omega)))
      have e1 : n - j = (n - (j + 1)) + 1 := by omega
      rw [e1] at hk
      simp only [lok] at hk
      have hix : (160 : Int32) * nI s + nI a + 2 * nI j = nI (160 * s + a + 2 * j) := by rw [show (160 : Int32) = nI 160 from rfl, show (2 : Int32) = nI 2 from rfl, pk_mul, pk_mul, nI_add, nI_add]
      have hix1 : (160 : Int32) * nI s + nI a + 2 * nI j + 1 = nI (160 * s + a + 2 * j + 1) := by rw [hix, nI_succ]
      refine XW.aload_n eX10_letters_121 rfl ?_
      refine XW.getR (b := 79) eX10_letters_122 f10_47_10 rfl (so_69 hs) (sr_69_12 hs) ?_
      refine XW.sipush (v := 160) eX10_letters_125 (by decide) ?_
      refine XW.iload_n eX10_letters_128 rfl ?_
      refine XW.imul eX10_letters_129 ?_
      refine XW.iload eX10_letters_130 rfl ?_
      refine XW.iadd eX10_letters_132 ?_
      refine XW.iconst (v := 2) eX10_letters_133 (by decide) ?_
      refine XW.iload eX10_letters_134 rfl ?_
      refine XW.imul eX10_letters_136 ?_
      refine XW.iadd eX10_letters_137 ?_
      refine XW.iaload eX10_letters_138 (sa_79 hs) (by rw [hix]; exact vp_in_nI (by omega) (by decide)) ?_
      refine XW.istore (ls' := [some (.ref 69), some (.int (nI rw)), some (.int (nI s)), some (.int y), some (.int (nI a)), some (.int (nI n)), some (.int last), some (.int (nI j)), some (.int (J 79 (((160 * (nI s)) + (nI a)) + (2 * (nI j))).toNatClampNeg))]) eX10_letters_139 (Nat.le_of_ble_eq_true rfl) rfl ?_
      refine XW.iload eX10_letters_141 rfl ?_
      refine XW.iload eX10_letters_143 rfl ?_
      refine XW.bipush (v := 39) eX10_letters_145 (by decide) ?_
      refine XW.callS (As := [.int (J 79 (((160 * (nI s)) + (nI a)) + (2 * (nI j))).toNatClampNeg), .int last, .int 39]) (st := []) eX10_letters_147 okX10_in cs10_123 rfl (YX10_in J  (J 79 (((160 * (nI s)) + (nI a)) + (2 * (nI j))).toNatClampNeg) last 39) (xnum rfl rfl rfl rfl rfl) ?_
      refine XW.if_eqB eX10_letters_150 (fun c_150 => ?_) (fun c_150 => ?_)
      ·
        skip
        refine XW.bipush (v := (-2)) eX10_letters_180 (by decide) ?_
        have hf := kf (by rw [← hk]; exact (if_neg (fun h => c_150 (by rw [hix, nI_clamp (by omega)]; exact h.1))).symm)
        exact XW.iret eX10_letters_182 rfl rfl hf.1 hf.2.1 hf.2.2
      ·
        skip
        refine XW.aload_n eX10_letters_153 rfl ?_
        refine XW.aload_n eX10_letters_154 rfl ?_
        refine XW.getR (b := 79) eX10_letters_155 f10_47_10 rfl (so_69 hs) (sr_69_12 hs) ?_
        refine XW.sipush (v := 160) eX10_letters_158 (by decide) ?_
        refine XW.iload_n eX10_letters_161 rfl ?_
        refine XW.imul eX10_letters_162 ?_
        refine XW.iload eX10_letters_163 rfl ?_
        refine XW.iadd eX10_letters_165 ?_
        refine XW.iconst (v := 2) eX10_letters_166 (by decide) ?_
        refine XW.iload eX10_letters_167 rfl ?_
        refine XW.imul eX10_letters_169 ?_
        refine XW.iadd eX10_letters_170 ?_
        refine XW.iconst (v := 1) eX10_letters_171 (by decide) ?_
        refine XW.iadd eX10_letters_172 ?_
        refine XW.iaload eX10_letters_173 (sa_79 hs) (by rw [hix1]; exact vp_in_nI (by omega) (by decide)) ?_
        refine XW.callV (As := [.int (J 79 ((((160 * (nI s)) + (nI a)) + (2 * (nI j))) + 1).toNatClampNeg)]) (st := []) eX10_letters_174 okX10_isLine cv10_131 rfl (so_69 hs) (YX10_isLine hs J  (J 79 ((((160 * (nI s)) + (nI a)) + (2 * (nI j))) + 1).toNatClampNeg)) (xnum rfl rfl rfl rfl rfl) ?_
        refine XW.if_neB eX10_letters_177 (fun c_177 => ?_) (fun c_177 => ?_)
        ·
          skip
          refine XW.iload eX10_letters_183 rfl ?_
          refine XW.istore (ls' := [some (.ref 69), some (.int (nI rw)), some (.int (nI s)), some (.int y), some (.int (nI a)), some (.int (nI n)), some (.int (J 79 (((160 * (nI s)) + (nI a)) + (2 * (nI j))).toNatClampNeg)), some (.int (nI j)), some (.int (J 79 (((160 * (nI s)) + (nI a)) + (2 * (nI j))).toNatClampNeg))]) eX10_letters_185 (Nat.le_of_ble_eq_true rfl) rfl ?_
          refine XW.iinc (y := ((nI j) + 1)) (ls' := [some (.ref 69), some (.int (nI rw)), some (.int (nI s)), some (.int y), some (.int (nI a)), some (.int (nI n)), some (.int (J 79 (((160 * (nI s)) + (nI a)) + (2 * (nI j))).toNatClampNeg)), some (.int ((nI j) + 1)), some (.int (J 79 (((160 * (nI s)) + (nI a)) + (2 * (nI j))).toNatClampNeg))]) eX10_letters_187 rfl rfl rfl ?_
          refine XW.goto eX10_letters_190 ?_
          refine XW.forget 8 rfl ?_
          exact XW.to (ih (j + 1) (J 79 (160 * s + a + 2 * j)) (by omega) (by omega) (by rw [← hk, if_pos ⟨by rw [hix, nI_clamp (by omega)] at c_150; exact c_150, by rw [hix1, nI_clamp (by omega)] at c_177; exact c_177⟩, show 160 * s + a + 2 * (j + 1) = 160 * s + a + 2 * j + 2 by omega]) kx kf) (by rw [hix, nI_clamp (by omega), nI_succ]; rfl) rfl rfl
        ·
          skip
          refine XW.bipush (v := (-2)) eX10_letters_180 (by decide) ?_
          have hf := kf (by rw [← hk]; exact (if_neg (fun h => c_177 (by rw [hix1, nI_clamp (by omega)]; exact h.2))).symm)
          exact XW.iret eX10_letters_182 rfl rfl hf.1 hf.2.1 hf.2.2
set_option maxRecDepth 100000 in
set_option maxHeartbeats 4000000 in
theorem LX10_letters2 {l : Launch} {C : xC} {G : xG} (hs : SH G) (J : xI) {rw s a n : Nat} {y : Int32} (hr4 : rw < 4) (hs4 : s < 4) (ha : a + 2 * n ≤ 160) {r : Option Value} {G' : xG} {I' : xI} {c : Nat} (hc : c + n ≤ 80) {last : Int32} (kx : XW l C mX10_letters 306 [some (.ref 69), some (.int (nI rw)), some (.int (nI s)), some (.int y), some (.int (nI a)), some (.int (nI n)), some (.int last), some (.int (nI n)), none] [] G (wA (wA (wA J 82 (cp2 (J 79) (J 82) (160 * s + a) (80 * rw + c) n)) 83 (cp2 (J 79) (J 83) (160 * s + a + 1) (80 * rw + c) n)) 81 (upd (J 81) rw (nI (c + n)))) r G' I') : ∀ (k i : Nat), i ≤ n → n < i + k → XW l C mX10_letters 213 [some (.ref 69), some (.int (nI rw)), some (.int (nI s)), some (.int y), some (.int (nI a)), some (.int (nI n)), some (.int last), some (.int (nI i)), none] [] G (wA (wA (wA J 82 (cp2 (J 79) (J 82) (160 * s + a) (80 * rw + c) i)) 83 (cp2 (J 79) (J 83) (160 * s + a + 1) (80 * rw + c) i)) 81 (upd (J 81) rw (nI (c + i)))) r G' I' := by
  intro k
  induction k with
  | zero =>
    intro i h1 h2
    exact absurd h2 (by omega)
  | succ k ih =>
    intro i h1 h2
    refine XW.iload eX10_letters_213 rfl ?_
    refine XW.iload eX10_letters_215 rfl ?_
    refine XW.icmp_ge eX10_letters_217 (fun c_217 => ?_) (fun c_217 => ?_)
    ·
      have hi : ¬ i < n := fun h => nI_ge h (by omega) c_217
      have hi2 : i = n := by omega
      subst hi2
      exact kx
    ·
      have hi : i < n := Nat.lt_of_not_le (fun h => c_217 (nI_le h (by omega)))
      have hclr : (nI rw).toNatClampNeg = rw := nI_clamp (by omega)
      have hm0 : (wA (wA (wA J 82 (cp2 (J 79) (J 82) (160 * s + a) (80 * rw + c) i)) 83 (cp2 (J 79) (J 83) (160 * s + a + 1) (80 * rw + c) i)) 81 (upd (J 81) rw (nI (c + i)))) 81 rw = nI (c + i) := by rw [wA_same, upd_same]
      have hm1 : ∀ k v, (wI (wA (wA (wA J 82 (cp2 (J 79) (J 82) (160 * s + a) (80 * rw + c) i)) 83 (cp2 (J 79) (J 83) (160 * s + a + 1) (80 * rw + c) i)) 81 (upd (J 81) rw (nI (c + i)))) 82 k v) 81 rw = nI (c + i) := fun k v => by rw [wI_ne _ _ _ (by decide), wA_same, upd_same]
      have hm2 : ∀ k v k2 v2, (wI (wI (wA (wA (wA J 82 (cp2 (J 79) (J 82) (160 * s + a) (80 * rw + c) i)) 83 (cp2 (J 79) (J 83) (160 * s + a + 1) (80 * rw + c) i)) 81 (upd (J 81) rw (nI (c + i)))) 82 k v) 83 k2 v2) 81 rw = nI (c + i) := fun k v k2 v2 => by rw [wI_ne _ _ _ (by decide), wI_ne _ _ _ (by decide), wA_same, upd_same]
      have hit : (wA (wA (wA J 82 (cp2 (J 79) (J 82) (160 * s + a) (80 * rw + c) i)) 83 (cp2 (J 79) (J 83) (160 * s + a + 1) (80 * rw + c) i)) 81 (upd (J 81) rw (nI (c + i)))) 79 = J 79 ∧ ∀ k v, (wI (wA (wA (wA J 82 (cp2 (J 79) (J 82) (160 * s + a) (80 * rw + c) i)) 83 (cp2 (J 79) (J 83) (160 * s + a + 1) (80 * rw + c) i)) 81 (upd (J 81) rw (nI (c + i)))) 82 k v) 79 = J 79 := ⟨by rw [wA_ne _ _ (by decide), wA_ne _ _ (by decide), wA_ne _ _ (by decide)], fun k v => by rw [wI_ne _ _ _ (by decide), wA_ne _ _ (by decide), wA_ne _ _ (by decide), wA_ne _ _ (by decide)]⟩
      have hb : (80 : Int32) * nI rw + nI (c + i) = nI (80 * rw + c + i) := by rw [show (80 : Int32) = nI 80 from rfl, pk_mul, nI_add, Nat.add_assoc]
      have hix : (160 : Int32) * nI s + nI a + 2 * nI i = nI (160 * s + a + 2 * i) := by rw [show (160 : Int32) = nI 160 from rfl, show (2 : Int32) = nI 2 from rfl, pk_mul, pk_mul, nI_add, nI_add]
      have hix1 : nI (160 * s + a + 2 * i) + 1 = nI (160 * s + a + 2 * i + 1) := by rw [nI_succ]
      have hcl1 : (nI (80 * rw + c + i)).toNatClampNeg = 80 * rw + c + i := nI_clamp (by omega)
      have hcl2 : (nI (160 * s + a + 2 * i)).toNatClampNeg = 160 * s + a + 2 * i := nI_clamp (by omega)
      have hcl3 : (nI (160 * s + a + 2 * i + 1)).toNatClampNeg = 160 * s + a + 2 * i + 1 := nI_clamp (by omega)
      refine XW.aload_n eX10_letters_220 rfl ?_
      refine XW.getR (b := 82) eX10_letters_221 f10_56_10 rfl (so_69 hs) (sr_69_15 hs) ?_
      refine XW.bipush (v := 80) eX10_letters_224 (by decide) ?_
      refine XW.iload_n eX10_letters_226 rfl ?_
      refine XW.imul eX10_letters_227 ?_
      refine XW.aload_n eX10_letters_228 rfl ?_
      refine XW.getR (b := 81) eX10_letters_229 f10_53_10 rfl (so_69 hs) (sr_69_14 hs) ?_
      refine XW.iload_n eX10_letters_232 rfl ?_
      refine XW.iaload eX10_letters_233 (sa_81 hs) (vp_in_nI hr4 (by decide)) ?_
      refine XW.iadd eX10_letters_234 ?_
      refine XW.aload_n eX10_letters_235 rfl ?_
      refine XW.getR (b := 79) eX10_letters_236 f10_47_10 rfl (so_69 hs) (sr_69_12 hs) ?_
      refine XW.sipush (v := 160) eX10_letters_239 (by decide) ?_
      refine XW.iload_n eX10_letters_242 rfl ?_
      refine XW.imul eX10_letters_243 ?_
      refine XW.iload eX10_letters_244 rfl ?_
      refine XW.iadd eX10_letters_246 ?_
      refine XW.iconst (v := 2) eX10_letters_247 (by decide) ?_
      refine XW.iload eX10_letters_248 rfl ?_
      refine XW.imul eX10_letters_250 ?_
      refine XW.iadd eX10_letters_251 ?_
      refine XW.iaload eX10_letters_252 (sa_79 hs) (by rw [hix]; exact vp_in_nI (by omega) (by decide)) ?_
      refine XW.iastore eX10_letters_253 (sa_82 hs) (by simp only [hclr, hm0, hm1, hb]; exact vp_in_nI (by omega) (by decide)) ?_
      refine XW.aload_n eX10_letters_254 rfl ?_
      refine XW.getR (b := 83) eX10_letters_255 f10_59_10 rfl (so_69 hs) (sr_69_16 hs) ?_
      refine XW.bipush (v := 80) eX10_letters_258 (by decide) ?_
      refine XW.iload_n eX10_letters_260 rfl ?_
      refine XW.imul eX10_letters_261 ?_
      refine XW.aload_n eX10_letters_262 rfl ?_
      refine XW.getR (b := 81) eX10_letters_263 f10_53_10 rfl (so_69 hs) (sr_69_14 hs) ?_
      refine XW.iload_n eX10_letters_266 rfl ?_
      refine XW.iaload eX10_letters_267 (sa_81 hs) (vp_in_nI hr4 (by decide)) ?_
      refine XW.iadd eX10_letters_268 ?_
      refine XW.aload_n eX10_letters_269 rfl ?_
      refine XW.getR (b := 79) eX10_letters_270 f10_47_10 rfl (so_69 hs) (sr_69_12 hs) ?_
      refine XW.sipush (v := 160) eX10_letters_273 (by decide) ?_
      refine XW.iload_n eX10_letters_276 rfl ?_
      refine XW.imul eX10_letters_277 ?_
      refine XW.iload eX10_letters_278 rfl ?_
      refine XW.iadd eX10_letters_280 ?_
      refine XW.iconst (v := 2) eX10_letters_281 (by decide) ?_
      refine XW.iload eX10_letters_282 rfl ?_
      refine XW.imul eX10_letters_284 ?_
      refine XW.iadd eX10_letters_285 ?_
      refine XW.iconst (v := 1) eX10_letters_286 (by decide) ?_
      refine XW.iadd eX10_letters_287 ?_
      refine XW.iaload eX10_letters_288 (sa_79 hs) (by rw [hix, hix1]; exact vp_in_nI (by omega) (by decide)) ?_
      refine XW.iastore eX10_letters_289 (sa_83 hs) (by simp only [hclr, hm0, hm1, hb]; exact vp_in_nI (by omega) (by decide)) ?_
      refine XW.aload_n eX10_letters_290 rfl ?_
      refine XW.getR (b := 81) eX10_letters_291 f10_53_10 rfl (so_69 hs) (sr_69_14 hs) ?_
      refine XW.iload_n eX10_letters_294 rfl ?_
      refine XW.dup2 eX10_letters_295 rfl rfl ?_
      refine XW.iaload eX10_letters_296 (sa_81 hs) (vp_in_nI hr4 (by decide)) ?_
      refine XW.iconst (v := 1) eX10_letters_297 (by decide) ?_
      refine XW.iadd eX10_letters_298 ?_
      refine XW.iastore eX10_letters_299 (sa_81 hs) (vp_in_nI hr4 (by decide)) ?_
      refine XW.iinc (y := ((nI i) + 1)) (ls' := [some (.ref 69), some (.int (nI rw)), some (.int (nI s)), some (.int y), some (.int (nI a)), some (.int (nI n)), some (.int last), some (.int ((nI i) + 1)), none]) eX10_letters_300 rfl rfl rfl ?_
      refine XW.goto eX10_letters_303 ?_
      exact XW.to (ih (i + 1) (by omega) (by omega)) (by rw [nI_succ]) rfl (by simp only [hm0, hm1, hm2, hit, hb, hix, hix1, hcl1, hcl2, hcl3, hclr]; rw [lstep, cp2_succ, show 160 * s + a + 2 * i + 1 = 160 * s + a + 1 + 2 * i by omega, cp2_succ, upd_upd, nI_1]; rfl)
def uX10_letters (I : xI) (rw s a c n : Nat) : xI := wA (wA (wA I 82 (cp2 (I 79) (I 82) (160 * s + a) (80 * rw + c) n)) 83 (cp2 (I 79) (I 83) (160 * s + a + 1) (80 * rw + c) n)) 81 (upd (I 81) rw (nI (c + n)))
def mLast (I : xI) (x : Int32) : Int32 := if I 81 x.toNatClampNeg = 0 then 0 else I 82 (80 * x + I 81 x.toNatClampNeg - 1).toNatClampNeg
def sX10_letters (I : xI) (x y z i n : Int32) : Int32 := if 0 ≤ x ∧ x ≤ 3 then (if 0 ≤ y ∧ y ≤ 3 then (if 0 ≤ z ∧ z ≤ 2 then (if 0 ≤ n ∧ n ≤ 80 then (if 0 ≤ I 77 y.toNatClampNeg then (if I 77 y.toNatClampNeg = z then (if iwP I y i (2 * n) then (if lok (I 79) (I 69 1 - 1) n.toNatClampNeg (160 * y.toNatClampNeg + i.toNatClampNeg) (mLast I x) = true then (if I 81 x.toNatClampNeg + n ≤ 80 then I 81 x.toNatClampNeg + n else (-3)) else (-2)) else (-13)) else (-12)) else (-11)) else (-1)) else (-1)) else (-1)) else (-1)
def tX10_letters (I : xI) (x y z i n : Int32) : xI := if 0 ≤ x ∧ x ≤ 3 then (if 0 ≤ y ∧ y ≤ 3 then (if 0 ≤ z ∧ z ≤ 2 then (if 0 ≤ n ∧ n ≤ 80 then (if 0 ≤ I 77 y.toNatClampNeg then (if I 77 y.toNatClampNeg = z then (if iwP I y i (2 * n) then (if lok (I 79) (I 69 1 - 1) n.toNatClampNeg (160 * y.toNatClampNeg + i.toNatClampNeg) (mLast I x) = true then (if I 81 x.toNatClampNeg + n ≤ 80 then uX10_letters I x.toNatClampNeg y.toNatClampNeg i.toNatClampNeg (I 81 x.toNatClampNeg).toNatClampNeg n.toNatClampNeg else I) else I) else I) else I) else I) else I) else I) else I) else I
theorem vin_last {I : xI} {x : Int32} (hm : mHM I) (hx : 0 ≤ x ∧ x ≤ 3) (h : ¬ I 81 x.toNatClampNeg = 0) : vp_in (80 * x + I 81 x.toNatClampNeg - 1) 320 := by
  obtain ⟨a, ha, rfl⟩ := vp_in_of (vin_3 hx) (by decide)
  rw [nI_clamp (by omega)] at h ⊢
  obtain ⟨c, h1, h2⟩ := hm a ha
  rw [h2] at h ⊢
  cases c with
  | zero => exact absurd rfl h
  | succ c =>
    rw [show (80 : Int32) = nI 80 from rfl, pk_mul, nI_add, show 80 * a + (c + 1) = (80 * a + c) + 1 by omega, nI_pred]
    exact vp_in_nI (by omega) (by decide)
set_option maxRecDepth 100000 in
set_option maxHeartbeats 4000000 in
theorem YX10_letters {l : Launch} {C : xC} {G : xG} (hs : SH G) (I : xI) (hz : mHZ I) (hm : mHM I) (x y z i n : Int32) : XW l C mX10_letters 0 (xent mX10_letters [.ref 69, .int x, .int y, .int z, .int i, .int n]) [] G I (some (.int (sX10_letters I x y z i n))) G (tX10_letters I x y z i n) := by
  show XW l C mX10_letters 0 [some (.ref 69), some (.int x), some (.int y), some (.int z), some (.int i), some (.int n), none, none, none] [] G I _ G _
  refine XW.iload_n eX10_letters_0 rfl ?_
  refine XW.callS (As := [.int x]) (st := []) eX10_letters_1 okX10_isRow cs10_141 rfl (YX10_isRow I  x) (xnum rfl rfl rfl rfl rfl) ?_
  refine XW.if_eqB eX10_letters_4 (fun c_4 => ?_) (fun c_4 => ?_)
  ·
    skip
    refine XW.iconst (v := (-1)) eX10_letters_34 (by decide) ?_
    exact XW.iret eX10_letters_35 rfl rfl (by (try unfold sX10_letters); (try unfold tX10_letters); (try rw [if_neg c_4]); (try rfl)) rfl (by (try unfold sX10_letters); (try unfold tX10_letters); (try rw [if_neg c_4]); (try rfl))
  ·
    skip
    refine XW.iload_n eX10_letters_7 rfl ?_
    refine XW.callS (As := [.int y]) (st := []) eX10_letters_8 okX10_isSheet cs10_135 rfl (YX10_isSheet I  y) (xnum rfl rfl rfl rfl rfl) ?_
    refine XW.if_eqB eX10_letters_11 (fun c_11 => ?_) (fun c_11 => ?_)
    ·
      skip
      refine XW.iconst (v := (-1)) eX10_letters_34 (by decide) ?_
      exact XW.iret eX10_letters_35 rfl rfl (by (try unfold sX10_letters); (try unfold tX10_letters); (try rw [if_pos c_4]); (try rw [if_neg c_11]); (try rfl)) rfl (by (try unfold sX10_letters); (try unfold tX10_letters); (try rw [if_pos c_4]); (try rw [if_neg c_11]); (try rfl))
    ·
      skip
      refine XW.iload_n eX10_letters_14 rfl ?_
      refine XW.iconst (v := 0) eX10_letters_15 (by decide) ?_
      refine XW.iconst (v := 2) eX10_letters_16 (by decide) ?_
      refine XW.callS (As := [.int z, .int 0, .int 2]) (st := []) eX10_letters_17 okX10_in cs10_123 rfl (YX10_in I  z 0 2) (xnum rfl rfl rfl rfl rfl) ?_
      refine XW.if_eqB eX10_letters_20 (fun c_20 => ?_) (fun c_20 => ?_)
      ·
        skip
        refine XW.iconst (v := (-1)) eX10_letters_34 (by decide) ?_
        exact XW.iret eX10_letters_35 rfl rfl (by (try unfold sX10_letters); (try unfold tX10_letters); (try rw [if_pos c_4]); (try rw [if_pos c_11]); (try rw [if_neg c_20]); (try rfl)) rfl (by (try unfold sX10_letters); (try unfold tX10_letters); (try rw [if_pos c_4]); (try rw [if_pos c_11]); (try rw [if_neg c_20]); (try rfl))
      ·
        skip
        refine XW.iload eX10_letters_23 rfl ?_
        refine XW.iconst (v := 0) eX10_letters_25 (by decide) ?_
        refine XW.bipush (v := 80) eX10_letters_26 (by decide) ?_
        refine XW.callS (As := [.int n, .int 0, .int 80]) (st := []) eX10_letters_28 okX10_in cs10_123 rfl (YX10_in I  n 0 80) (xnum rfl rfl rfl rfl rfl) ?_
        refine XW.if_neB eX10_letters_31 (fun c_31 => ?_) (fun c_31 => ?_)
        ·
          skip
          refine XW.aload_n eX10_letters_36 rfl ?_
          refine XW.getR (b := 77) eX10_letters_37 f10_41_10 rfl (so_69 hs) (sr_69_10 hs) ?_
          refine XW.iload_n eX10_letters_40 rfl ?_
          refine XW.iaload eX10_letters_41 (sa_77 hs) (vin_k c_11 (by decide)) ?_
          refine XW.if_ge eX10_letters_42 (fun c_42 => ?_) (fun c_42 => ?_)
          ·
            skip
            refine XW.aload_n eX10_letters_48 rfl ?_
            refine XW.getR (b := 77) eX10_letters_49 f10_41_10 rfl (so_69 hs) (sr_69_10 hs) ?_
            refine XW.iload_n eX10_letters_52 rfl ?_
            refine XW.iaload eX10_letters_53 (sa_77 hs) (vin_k c_11 (by decide)) ?_
            refine XW.iload_n eX10_letters_54 rfl ?_
            refine XW.icmp_eq eX10_letters_55 (fun c_55 => ?_) (fun c_55 => ?_)
            ·
              skip
              refine XW.aload_n eX10_letters_61 rfl ?_
              refine XW.iload_n eX10_letters_62 rfl ?_
              refine XW.iload eX10_letters_63 rfl ?_
              refine XW.iconst (v := 2) eX10_letters_65 (by decide) ?_
              refine XW.iload eX10_letters_66 rfl ?_
              refine XW.imul eX10_letters_68 ?_
              refine XW.callV (As := [.int y, .int i, .int (2 * n)]) (st := []) eX10_letters_69 okX10_isWithin cv10_138 rfl (so_69 hs) (YX10_isWithin hs I y i (2 * n) c_11) (xnum rfl rfl rfl rfl rfl) ?_
              refine XW.if_neB eX10_letters_72 (fun c_72 => ?_) (fun c_72 => ?_)
              ·
                skip
                refine XW.aload_n eX10_letters_78 rfl ?_
                refine XW.getR (b := 81) eX10_letters_79 f10_53_10 rfl (so_69 hs) (sr_69_14 hs) ?_
                refine XW.iload_n eX10_letters_82 rfl ?_
                refine XW.iaload eX10_letters_83 (sa_81 hs) (vin_k c_4 (by decide)) ?_
                refine XW.if_ne eX10_letters_84 (fun c_84 => ?_) (fun c_84 => ?_)
                ·
                  skip
                  refine XW.aload_n eX10_letters_91 rfl ?_
                  refine XW.getR (b := 82) eX10_letters_92 f10_56_10 rfl (so_69 hs) (sr_69_15 hs) ?_
                  refine XW.bipush (v := 80) eX10_letters_95 (by decide) ?_
                  refine XW.iload_n eX10_letters_97 rfl ?_
                  refine XW.imul eX10_letters_98 ?_
                  refine XW.aload_n eX10_letters_99 rfl ?_
                  refine XW.getR (b := 81) eX10_letters_100 f10_53_10 rfl (so_69 hs) (sr_69_14 hs) ?_
                  refine XW.iload_n eX10_letters_103 rfl ?_
                  refine XW.iaload eX10_letters_104 (sa_81 hs) (vin_k c_4 (by decide)) ?_
                  refine XW.iadd eX10_letters_105 ?_
                  refine XW.iconst (v := 1) eX10_letters_106 (by decide) ?_
                  refine XW.isub eX10_letters_107 ?_
                  refine XW.iaload eX10_letters_108 (sa_82 hs) (vin_last hm c_4 c_84) ?_
                  refine XW.istore (ls' := [some (.ref 69), some (.int x), some (.int y), some (.int z), some (.int i), some (.int n), some (.int (I 82 (((80 * x) + (I 81 x.toNatClampNeg)) - 1).toNatClampNeg)), none, none]) eX10_letters_109 (Nat.le_of_ble_eq_true rfl) rfl ?_
                  refine XW.iconst (v := 0) eX10_letters_111 (by decide) ?_
                  refine XW.istore (ls' := [some (.ref 69), some (.int x), some (.int y), some (.int z), some (.int i), some (.int n), some (.int (I 82 (((80 * x) + (I 81 x.toNatClampNeg)) - 1).toNatClampNeg)), some (.int 0), none]) eX10_letters_112 (Nat.le_of_ble_eq_true rfl) rfl ?_
                  have kl : mLast I x = (I 82 (((80 * x) + (I 81 x.toNatClampNeg)) - 1).toNatClampNeg) := by unfold mLast; first | rw [if_pos c_84] | rw [if_neg c_84]
                  obtain ⟨rw, hr4, rfl⟩ := vp_in_of (vin_3 c_4) (by decide)
                  obtain ⟨s, hs4, rfl⟩ := vp_in_of (vin_3 c_11) (by decide)
                  obtain ⟨z1, hz1, hz2⟩ := hz _ (xin_lt (vin_3 c_11))
                  obtain ⟨c, hc1, hc2⟩ := hm _ (xin_lt (vin_3 c_4))
                  obtain ⟨nn, hnn, rfl⟩ := vp_in_of (vin_k (N := 89) c_31 (by decide)) (by decide)
                  have h2n : (2 : Int32) * nI nn = nI (2 * nn) := by rw [show (2 : Int32) = nI 2 from rfl, pk_mul]
                  obtain ⟨a, n2, rfl, hn2, hab⟩ := wi_in hz2 hz1 (by rw [h2n]; exact nI_pos (by omega)) c_72
                  have hn2 : 2 * nn = n2 := (nI_eq (by omega) (by omega)).mp (by rw [← h2n]; exact hn2)
                  subst hn2
                  have k1 : (nI rw).toNatClampNeg = rw := nI_clamp (by omega)
                  have k2 : (nI s).toNatClampNeg = s := nI_clamp (by omega)
                  have k3 : (nI a).toNatClampNeg = a := nI_clamp (by omega)
                  have k4 : (nI nn).toNatClampNeg = nn := nI_clamp (by omega)
                  refine XW.to (LX10_letters1 (rw := rw) (s := s) (a := a) (n := nn) (b := lok (I 79) (I 69 1 - 1) nn (160 * s + a) (mLast I (nI rw))) hs I hr4 hs4 (by omega) (nn + 1) 0 (mLast I (nI rw)) (by omega) (by omega) (by rw [Nat.sub_zero, Nat.mul_zero, Nat.add_zero]) (fun hb lst => ?_) (fun hb => ⟨?_, rfl, ?_⟩)) (by rw [kl, nI_0]) rfl rfl
                  ·
                    refine XW.aload_n eX10_letters_193 rfl ?_
                    refine XW.getR (b := 81) eX10_letters_194 f10_53_10 rfl (so_69 hs) (sr_69_14 hs) ?_
                    refine XW.iload_n eX10_letters_197 rfl ?_
                    refine XW.iaload eX10_letters_198 (sa_81 hs) (vp_in_nI hr4 (by decide)) ?_
                    refine XW.iload eX10_letters_199 rfl ?_
                    refine XW.iadd eX10_letters_201 ?_
                    refine XW.bipush (v := 80) eX10_letters_202 (by decide) ?_
                    refine XW.icmp_le eX10_letters_204 (fun c_204 => ?_) (fun c_204 => ?_)
                    ·
                      skip
                      refine XW.iconst (v := 0) eX10_letters_210 (by decide) ?_
                      refine XW.istore (ls' := [some (.ref 69), some (.int (nI rw)), some (.int (nI s)), some (.int z), some (.int (nI a)), some (.int (nI nn)), some (.int lst), some (.int 0), none]) eX10_letters_211 (Nat.le_of_ble_eq_true rfl) rfl ?_
                      have hcn : c + nn ≤ 80 := by rw [hc2, nI_add] at c_204; exact (nI_leI (by omega) (by decide)).mp c_204
                      rw [k1] at hc2
                      refine XW.to (LX10_letters2 (rw := rw) (s := s) (a := a) (n := nn) (c := c) hs I hr4 hs4 (by omega) hcn ?_ (nn + 1) 0 (by omega) (by omega)) rfl rfl (by rw [cp2_0, cp2_0, wA_self, wA_self, Nat.add_zero, ← hc2]; rw [show upd (I 81) rw (I 81 rw) = I 81 from by funext q; unfold upd; split <;> simp_all, wA_self])
                      refine XW.aload_n eX10_letters_306 rfl ?_
                      refine XW.getR (b := 81) eX10_letters_307 f10_53_10 rfl (so_69 hs) (sr_69_14 hs) ?_
                      refine XW.iload_n eX10_letters_310 rfl ?_
                      refine XW.iaload eX10_letters_311 (sa_81 hs) (vp_in_nI hr4 (by decide)) ?_
                      exact XW.iret eX10_letters_312 rfl rfl (by unfold sX10_letters; rw [if_pos c_4, if_pos c_11, if_pos c_20, if_pos c_31, if_pos c_42, if_pos c_55, if_pos c_72, k1, k2, k3, k4, if_pos hb.symm]; rw [k1] at c_204; rw [if_pos c_204, wA_same, upd_same, hc2, nI_add]) rfl (by unfold tX10_letters; rw [if_pos c_4, if_pos c_11, if_pos c_20, if_pos c_31, if_pos c_42, if_pos c_55, if_pos c_72, k1, k2, k3, k4, if_pos hb.symm]; rw [k1] at c_204; rw [if_pos c_204, hc2, nI_clamp (by omega)]; rfl)
                    ·
                      skip
                      refine XW.bipush (v := (-3)) eX10_letters_207 (by decide) ?_
                      exact XW.iret eX10_letters_209 rfl rfl (by unfold sX10_letters; rw [if_pos c_4, if_pos c_11, if_pos c_20, if_pos c_31, if_pos c_42, if_pos c_55, if_pos c_72, k1, k2, k3, k4, if_pos hb.symm]; rw [k1] at c_204; rw [if_neg c_204]) rfl (by unfold tX10_letters; rw [if_pos c_4, if_pos c_11, if_pos c_20, if_pos c_31, if_pos c_42, if_pos c_55, if_pos c_72, k1, k2, k3, k4, if_pos hb.symm]; rw [k1] at c_204; rw [if_neg c_204])
                  ·
                    unfold sX10_letters; rw [if_pos c_4, if_pos c_11, if_pos c_20, if_pos c_31, if_pos c_42, if_pos c_55, if_pos c_72, k1, k2, k3, k4, if_neg (by rw [← hb]; decide)]
                  ·
                    unfold tX10_letters; rw [if_pos c_4, if_pos c_11, if_pos c_20, if_pos c_31, if_pos c_42, if_pos c_55, if_pos c_72, k1, k2, k3, k4, if_neg (by rw [← hb]; decide)]
                ·
                  skip
                  refine XW.iconst (v := 0) eX10_letters_87 (by decide) ?_
                  refine XW.goto eX10_letters_88 ?_
                  refine XW.istore (ls' := [some (.ref 69), some (.int x), some (.int y), some (.int z), some (.int i), some (.int n), some (.int 0), none, none]) eX10_letters_109 (Nat.le_of_ble_eq_true rfl) rfl ?_
                  refine XW.iconst (v := 0) eX10_letters_111 (by decide) ?_
                  refine XW.istore (ls' := [some (.ref 69), some (.int x), some (.int y), some (.int z), some (.int i), some (.int n), some (.int 0), some (.int 0), none]) eX10_letters_112 (Nat.le_of_ble_eq_true rfl) rfl ?_
                  have kl : mLast I x = 0 := by unfold mLast; first | rw [if_pos c_84] | rw [if_neg c_84]
                  obtain ⟨rw, hr4, rfl⟩ := vp_in_of (vin_3 c_4) (by decide)
                  obtain ⟨s, hs4, rfl⟩ := vp_in_of (vin_3 c_11) (by decide)
                  obtain ⟨z1, hz1, hz2⟩ := hz _ (xin_lt (vin_3 c_11))
                  obtain ⟨c, hc1, hc2⟩ := hm _ (xin_lt (vin_3 c_4))
                  obtain ⟨nn, hnn, rfl⟩ := vp_in_of (vin_k (N := 89) c_31 (by decide)) (by decide)
                  have h2n : (2 : Int32) * nI nn = nI (2 * nn) := by rw [show (2 : Int32) = nI 2 from rfl, pk_mul]
                  obtain ⟨a, n2, rfl, hn2, hab⟩ := wi_in hz2 hz1 (by rw [h2n]; exact nI_pos (by omega)) c_72
                  have hn2 : 2 * nn = n2 := (nI_eq (by omega) (by omega)).mp (by rw [← h2n]; exact hn2)
                  subst hn2
                  have k1 : (nI rw).toNatClampNeg = rw := nI_clamp (by omega)
                  have k2 : (nI s).toNatClampNeg = s := nI_clamp (by omega)
                  have k3 : (nI a).toNatClampNeg = a := nI_clamp (by omega)
                  have k4 : (nI nn).toNatClampNeg = nn := nI_clamp (by omega)
                  refine XW.to (LX10_letters1 (rw := rw) (s := s) (a := a) (n := nn) (b := lok (I 79) (I 69 1 - 1) nn (160 * s + a) (mLast I (nI rw))) hs I hr4 hs4 (by omega) (nn + 1) 0 (mLast I (nI rw)) (by omega) (by omega) (by rw [Nat.sub_zero, Nat.mul_zero, Nat.add_zero]) (fun hb lst => ?_) (fun hb => ⟨?_, rfl, ?_⟩)) (by rw [kl, nI_0]) rfl rfl
                  ·
                    refine XW.aload_n eX10_letters_193 rfl ?_
                    refine XW.getR (b := 81) eX10_letters_194 f10_53_10 rfl (so_69 hs) (sr_69_14 hs) ?_
                    refine XW.iload_n eX10_letters_197 rfl ?_
                    refine XW.iaload eX10_letters_198 (sa_81 hs) (vp_in_nI hr4 (by decide)) ?_
                    refine XW.iload eX10_letters_199 rfl ?_
                    refine XW.iadd eX10_letters_201 ?_
                    refine XW.bipush (v := 80) eX10_letters_202 (by decide) ?_
                    refine XW.icmp_le eX10_letters_204 (fun c_204 => ?_) (fun c_204 => ?_)
                    ·
                      skip
                      refine XW.iconst (v := 0) eX10_letters_210 (by decide) ?_
                      refine XW.istore (ls' := [some (.ref 69), some (.int (nI rw)), some (.int (nI s)), some (.int z), some (.int (nI a)), some (.int (nI nn)), some (.int lst), some (.int 0), none]) eX10_letters_211 (Nat.le_of_ble_eq_true rfl) rfl ?_
                      have hcn : c + nn ≤ 80 := by rw [hc2, nI_add] at c_204; exact (nI_leI (by omega) (by decide)).mp c_204
                      rw [k1] at hc2
                      refine XW.to (LX10_letters2 (rw := rw) (s := s) (a := a) (n := nn) (c := c) hs I hr4 hs4 (by omega) hcn ?_ (nn + 1) 0 (by omega) (by omega)) rfl rfl (by rw [cp2_0, cp2_0, wA_self, wA_self, Nat.add_zero, ← hc2]; rw [show upd (I 81) rw (I 81 rw) = I 81 from by funext q; unfold upd; split <;> simp_all, wA_self])
                      refine XW.aload_n eX10_letters_306 rfl ?_
                      refine XW.getR (b := 81) eX10_letters_307 f10_53_10 rfl (so_69 hs) (sr_69_14 hs) ?_
                      refine XW.iload_n eX10_letters_310 rfl ?_
                      refine XW.iaload eX10_letters_311 (sa_81 hs) (vp_in_nI hr4 (by decide)) ?_
                      exact XW.iret eX10_letters_312 rfl rfl (by unfold sX10_letters; rw [if_pos c_4, if_pos c_11, if_pos c_20, if_pos c_31, if_pos c_42, if_pos c_55, if_pos c_72, k1, k2, k3, k4, if_pos hb.symm]; rw [k1] at c_204; rw [if_pos c_204, wA_same, upd_same, hc2, nI_add]) rfl (by unfold tX10_letters; rw [if_pos c_4, if_pos c_11, if_pos c_20, if_pos c_31, if_pos c_42, if_pos c_55, if_pos c_72, k1, k2, k3, k4, if_pos hb.symm]; rw [k1] at c_204; rw [if_pos c_204, hc2, nI_clamp (by omega)]; rfl)
                    ·
                      skip
                      refine XW.bipush (v := (-3)) eX10_letters_207 (by decide) ?_
                      exact XW.iret eX10_letters_209 rfl rfl (by unfold sX10_letters; rw [if_pos c_4, if_pos c_11, if_pos c_20, if_pos c_31, if_pos c_42, if_pos c_55, if_pos c_72, k1, k2, k3, k4, if_pos hb.symm]; rw [k1] at c_204; rw [if_neg c_204]) rfl (by unfold tX10_letters; rw [if_pos c_4, if_pos c_11, if_pos c_20, if_pos c_31, if_pos c_42, if_pos c_55, if_pos c_72, k1, k2, k3, k4, if_pos hb.symm]; rw [k1] at c_204; rw [if_neg c_204])
                  ·
                    unfold sX10_letters; rw [if_pos c_4, if_pos c_11, if_pos c_20, if_pos c_31, if_pos c_42, if_pos c_55, if_pos c_72, k1, k2, k3, k4, if_neg (by rw [← hb]; decide)]
                  ·
                    unfold tX10_letters; rw [if_pos c_4, if_pos c_11, if_pos c_20, if_pos c_31, if_pos c_42, if_pos c_55, if_pos c_72, k1, k2, k3, k4, if_neg (by rw [← hb]; decide)]
              ·
                skip
                refine XW.bipush (v := (-13)) eX10_letters_75 (by decide) ?_
                exact XW.iret eX10_letters_77 rfl rfl (by (try unfold sX10_letters); (try unfold tX10_letters); (try rw [if_pos c_4]); (try rw [if_pos c_11]); (try rw [if_pos c_20]); (try rw [if_pos c_31]); (try rw [if_pos c_42]); (try rw [if_pos c_55]); (try rw [if_neg c_72]); (try rfl)) rfl (by (try unfold sX10_letters); (try unfold tX10_letters); (try rw [if_pos c_4]); (try rw [if_pos c_11]); (try rw [if_pos c_20]); (try rw [if_pos c_31]); (try rw [if_pos c_42]); (try rw [if_pos c_55]); (try rw [if_neg c_72]); (try rfl))
            ·
              skip
              refine XW.bipush (v := (-12)) eX10_letters_58 (by decide) ?_
              exact XW.iret eX10_letters_60 rfl rfl (by (try unfold sX10_letters); (try unfold tX10_letters); (try rw [if_pos c_4]); (try rw [if_pos c_11]); (try rw [if_pos c_20]); (try rw [if_pos c_31]); (try rw [if_pos c_42]); (try rw [if_neg c_55]); (try rfl)) rfl (by (try unfold sX10_letters); (try unfold tX10_letters); (try rw [if_pos c_4]); (try rw [if_pos c_11]); (try rw [if_pos c_20]); (try rw [if_pos c_31]); (try rw [if_pos c_42]); (try rw [if_neg c_55]); (try rfl))
          ·
            skip
            refine XW.bipush (v := (-11)) eX10_letters_45 (by decide) ?_
            exact XW.iret eX10_letters_47 rfl rfl (by (try unfold sX10_letters); (try unfold tX10_letters); (try rw [if_pos c_4]); (try rw [if_pos c_11]); (try rw [if_pos c_20]); (try rw [if_pos c_31]); (try rw [if_neg c_42]); (try rfl)) rfl (by (try unfold sX10_letters); (try unfold tX10_letters); (try rw [if_pos c_4]); (try rw [if_pos c_11]); (try rw [if_pos c_20]); (try rw [if_pos c_31]); (try rw [if_neg c_42]); (try rfl))
        ·
          skip
          refine XW.iconst (v := (-1)) eX10_letters_34 (by decide) ?_
          exact XW.iret eX10_letters_35 rfl rfl (by (try unfold sX10_letters); (try unfold tX10_letters); (try rw [if_pos c_4]); (try rw [if_pos c_11]); (try rw [if_pos c_20]); (try rw [if_neg c_31]); (try rfl)) rfl (by (try unfold sX10_letters); (try unfold tX10_letters); (try rw [if_pos c_4]); (try rw [if_pos c_11]); (try rw [if_pos c_20]); (try rw [if_neg c_31]); (try rfl))
