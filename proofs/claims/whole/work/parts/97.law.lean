/-! the law -/
section LAW
variable {l : Launch} {C : xC} {G G1 G2 : xG} {I I1 I2 I3 : xI} {r : Option Value} {i : Nat} {v : Int32}
theorem sc_in {k L : Nat} (hm : L ≤ 3072) (h : i + k < L) : vp_in (nI i + nI k) L := by rw [nI_add]; exact vp_in_nI h (by omega)
theorem sc_1 (hi : i + 6 ≤ C.2.2.1) (hm : C.2.2.1 ≤ 3072) : vp_in (nI i + 1) C.2.2.1 := sc_in (k := 1) hm (by omega)
theorem sc_2 (hi : i + 6 ≤ C.2.2.1) (hm : C.2.2.1 ≤ 3072) : vp_in (nI i + 2) C.2.2.1 := sc_in (k := 2) hm (by omega)
theorem sc_3 (hi : i + 6 ≤ C.2.2.1) (hm : C.2.2.1 ≤ 3072) : vp_in (nI i + 3) C.2.2.1 := sc_in (k := 3) hm (by omega)
theorem sc_4 (hi : i + 6 ≤ C.2.2.1) (hm : C.2.2.1 ≤ 3072) : vp_in (nI i + 4) C.2.2.1 := sc_in (k := 4) hm (by omega)
theorem sc_5 (hi : i + 6 ≤ C.2.2.1) (hm : C.2.2.1 ≤ 3072) : vp_in (nI i + 5) C.2.2.1 := sc_in (k := 5) hm (by omega)
theorem L999 (hw : XW l C mL_law 18 [some (.ref 1), some (.ref 2), some (.ref 69), some (.int (nI (i + 6)))] [] G I r G2 I3) : XW l C mL_law 999 [some (.ref 1), some (.ref 2), some (.ref 69), some (.int (nI i))] [] G I r G2 I3 := by
  refine XW.iinc (y := nI (i + 6)) (ls' := [some (.ref 1), some (.ref 2), some (.ref 69), some (.int (nI (i + 6)))]) eL_law_999 rfl ?_ rfl ?_
  · exact nI_add i 6
  · exact XW.goto eL_law_1002 hw
theorem Lhead (hi : i + 6 ≤ C.2.2.1) (hm : C.2.2.1 ≤ 3072) {j : Nat} (ej : C.2.2.2.1 (nI i).toNatClampNeg &&& 31 = nI j) (kk : XW l C mL_law 33 [some (.ref 1), some (.ref 2), some (.ref 69), some (.int (nI i))] [.int (nI j)] G I r G2 I3) : XW l C mL_law 18 [some (.ref 1), some (.ref 2), some (.ref 69), some (.int (nI i))] [] G I r G2 I3 := by
  refine XW.iload_n eL_law_18 rfl ?_
  refine XW.aload_n eL_law_19 rfl ?_
  refine XW.slen (v := nI C.2.2.1) eL_law_20 rfl ?_
  refine XW.bipush (v := 6) eL_law_21 (by decide) ?_
  refine XW.isub eL_law_23 ?_
  rw [show nI C.2.2.1 - 6 = nI (C.2.2.1 - 6) from pk_sub (b := 6) (by omega)]
  refine XW.icmp_gt eL_law_24 (fun c => absurd c (nI_nlt (by omega) (by omega))) (fun _ => ?_)
  refine XW.aload_n eL_law_27 rfl ?_
  refine XW.iload_n eL_law_28 rfl ?_
  refine XW.sload eL_law_29 (vp_in_nI (by omega) (by omega)) ?_
  refine XW.bipush (v := 31) eL_law_30 (by decide) ?_
  refine XW.iand eL_law_32 ?_
  rw [ej]
  exact kk
theorem Lexit (hi : ¬ i + 6 ≤ C.2.2.1) (hm : C.2.2.1 ≤ 3072) (h4 : i ≤ 4000) : XW l C mL_law 18 [some (.ref 1), some (.ref 2), some (.ref 69), some (.int (nI i))] [] G I (some (.int 1)) G I := by
  refine XW.iload_n eL_law_18 rfl ?_
  refine XW.aload_n eL_law_19 rfl ?_
  refine XW.slen (v := nI C.2.2.1) eL_law_20 rfl ?_
  refine XW.bipush (v := 6) eL_law_21 (by decide) ?_
  refine XW.isub eL_law_23 ?_
  refine XW.icmp_gt eL_law_24 (fun _ => ?_) (fun c => absurd ?_ c)
  · refine XW.iconst (v := 1) eL_law_1005 (by decide) ?_
    exact XW.iret eL_law_1006 rfl rfl rfl rfl rfl
  · have e : (nI C.2.2.1 - 6).toInt = (C.2.2.1 : Int) - 6 := pk_sub_toInt (b := 6) (by omega) (by omega)
    refine Int32.lt_iff_toInt_lt.mpr ?_
    rw [e, nI_toInt (by omega)]
    omega
theorem B_room (hi : i + 6 ≤ C.2.2.1) (hm : C.2.2.1 ≤ 3072) (hG : SH G) (hx : XW l C mX9_room 0 (xent mX9_room [.ref 2, .int (C.2.2.2.1 (nI i + 1).toNatClampNeg)]) [] G I (some (.int v)) G1 I1) (hy : XW l C mX10_room 0 (xent mX10_room [.ref 69, .int (C.2.2.2.1 (nI i + 1).toNatClampNeg)]) [] G1 I1 (some (.int v)) G1 I2) (hG1 : SH G1) (n1 : gN G ≤ gN G1) (s1 : gS G ≤ gS G1) (n2 : gN G1 ≤ gN G2) (s2 : gS G1 ≤ gS G2) (kk : XW l C mL_law 999 [some (.ref 1), some (.ref 2), some (.ref 69), some (.int (nI i))] [] G1 I2 r G2 I3) : XW l C mL_law 148 [some (.ref 1), some (.ref 2), some (.ref 69), some (.int (nI i))] [] G I r G2 I3 := by
  refine XW.aload_n eL_law_148 rfl ?_
  refine XW.aload_n eL_law_149 rfl ?_
  refine XW.iload_n eL_law_150 rfl ?_
  refine XW.iconst (v := 1) eL_law_151 (by decide) ?_
  refine XW.iadd eL_law_152 ?_
  refine XW.sload eL_law_153 (sc_1 hi hm) ?_
  refine XW.callV (As := [.int (C.2.2.2.1 (nI i + 1).toNatClampNeg)]) (st := []) eL_law_154 okX9_room cvL_13 rfl (so_2 hG) hx (xnumG rfl rfl rfl rfl rfl n1 s1 n2 s2) ?_
  refine XW.aload_n eL_law_157 rfl ?_
  refine XW.aload_n eL_law_158 rfl ?_
  refine XW.iload_n eL_law_159 rfl ?_
  refine XW.iconst (v := 1) eL_law_160 (by decide) ?_
  refine XW.iadd eL_law_161 ?_
  refine XW.sload eL_law_162 (sc_1 hi hm) ?_
  refine XW.callV (As := [.int (C.2.2.2.1 (nI i + 1).toNatClampNeg)]) (st := [.int v]) eL_law_163 okX10_room cvL_17 rfl (so_69 hG1) hy (xnumG rfl rfl rfl rfl rfl (Nat.le_refl _) (Nat.le_refl _) n2 s2) ?_
  exact XW.icmp_eq eL_law_166 (fun _ => kk) (fun c => absurd rfl c)
theorem B_line (hi : i + 6 ≤ C.2.2.1) (hm : C.2.2.1 ≤ 3072) (hG : SH G) (hx : XW l C mX9_line 0 (xent mX9_line [.ref 2, .int (C.2.2.2.1 (nI i + 1).toNatClampNeg), .int (C.2.2.2.1 (nI i + 2).toNatClampNeg)]) [] G I (some (.int v)) G1 I1) (hy : XW l C mX10_line 0 (xent mX10_line [.ref 69, .int (C.2.2.2.1 (nI i + 1).toNatClampNeg), .int (C.2.2.2.1 (nI i + 2).toNatClampNeg)]) [] G1 I1 (some (.int v)) G1 I2) (hG1 : SH G1) (n1 : gN G ≤ gN G1) (s1 : gS G ≤ gS G1) (n2 : gN G1 ≤ gN G2) (s2 : gS G1 ≤ gS G2) (kk : XW l C mL_law 999 [some (.ref 1), some (.ref 2), some (.ref 69), some (.int (nI i))] [] G1 I2 r G2 I3) : XW l C mL_law 171 [some (.ref 1), some (.ref 2), some (.ref 69), some (.int (nI i))] [] G I r G2 I3 := by
  refine XW.aload_n eL_law_171 rfl ?_
  refine XW.aload_n eL_law_172 rfl ?_
  refine XW.iload_n eL_law_173 rfl ?_
  refine XW.iconst (v := 1) eL_law_174 (by decide) ?_
  refine XW.iadd eL_law_175 ?_
  refine XW.sload eL_law_176 (sc_1 hi hm) ?_
  refine XW.aload_n eL_law_177 rfl ?_
  refine XW.iload_n eL_law_178 rfl ?_
  refine XW.iconst (v := 2) eL_law_179 (by decide) ?_
  refine XW.iadd eL_law_180 ?_
  refine XW.sload eL_law_181 (sc_2 hi hm) ?_
  refine XW.callV (As := [.int (C.2.2.2.1 (nI i + 1).toNatClampNeg), .int (C.2.2.2.1 (nI i + 2).toNatClampNeg)]) (st := []) eL_law_182 okX9_line cvL_18 rfl (so_2 hG) hx (xnumG rfl rfl rfl rfl rfl n1 s1 n2 s2) ?_
  refine XW.aload_n eL_law_185 rfl ?_
  refine XW.aload_n eL_law_186 rfl ?_
  refine XW.iload_n eL_law_187 rfl ?_
  refine XW.iconst (v := 1) eL_law_188 (by decide) ?_
  refine XW.iadd eL_law_189 ?_
  refine XW.sload eL_law_190 (sc_1 hi hm) ?_
  refine XW.aload_n eL_law_191 rfl ?_
  refine XW.iload_n eL_law_192 rfl ?_
  refine XW.iconst (v := 2) eL_law_193 (by decide) ?_
  refine XW.iadd eL_law_194 ?_
  refine XW.sload eL_law_195 (sc_2 hi hm) ?_
  refine XW.callV (As := [.int (C.2.2.2.1 (nI i + 1).toNatClampNeg), .int (C.2.2.2.1 (nI i + 2).toNatClampNeg)]) (st := [.int v]) eL_law_196 okX10_line cvL_22 rfl (so_69 hG1) hy (xnumG rfl rfl rfl rfl rfl (Nat.le_refl _) (Nat.le_refl _) n2 s2) ?_
  exact XW.icmp_eq eL_law_199 (fun _ => kk) (fun c => absurd rfl c)
theorem B_mark (hi : i + 6 ≤ C.2.2.1) (hm : C.2.2.1 ≤ 3072) (hG : SH G) (hx : XW l C mX9_mark 0 (xent mX9_mark [.ref 2, .int (C.2.2.2.1 (nI i + 1).toNatClampNeg), .int (C.2.2.2.1 (nI i + 2).toNatClampNeg)]) [] G I (some (.int v)) G1 I1) (hy : XW l C mX10_mark 0 (xent mX10_mark [.ref 69, .int (C.2.2.2.1 (nI i + 1).toNatClampNeg), .int (C.2.2.2.1 (nI i + 2).toNatClampNeg)]) [] G1 I1 (some (.int v)) G1 I2) (hG1 : SH G1) (n1 : gN G ≤ gN G1) (s1 : gS G ≤ gS G1) (n2 : gN G1 ≤ gN G2) (s2 : gS G1 ≤ gS G2) (kk : XW l C mL_law 999 [some (.ref 1), some (.ref 2), some (.ref 69), some (.int (nI i))] [] G1 I2 r G2 I3) : XW l C mL_law 204 [some (.ref 1), some (.ref 2), some (.ref 69), some (.int (nI i))] [] G I r G2 I3 := by
  refine XW.aload_n eL_law_204 rfl ?_
  refine XW.aload_n eL_law_205 rfl ?_
  refine XW.iload_n eL_law_206 rfl ?_
  refine XW.iconst (v := 1) eL_law_207 (by decide) ?_
  refine XW.iadd eL_law_208 ?_
  refine XW.sload eL_law_209 (sc_1 hi hm) ?_
  refine XW.aload_n eL_law_210 rfl ?_
  refine XW.iload_n eL_law_211 rfl ?_
  refine XW.iconst (v := 2) eL_law_212 (by decide) ?_
  refine XW.iadd eL_law_213 ?_
  refine XW.sload eL_law_214 (sc_2 hi hm) ?_
  refine XW.callV (As := [.int (C.2.2.2.1 (nI i + 1).toNatClampNeg), .int (C.2.2.2.1 (nI i + 2).toNatClampNeg)]) (st := []) eL_law_215 okX9_mark cvL_23 rfl (so_2 hG) hx (xnumG rfl rfl rfl rfl rfl n1 s1 n2 s2) ?_
  refine XW.aload_n eL_law_218 rfl ?_
  refine XW.aload_n eL_law_219 rfl ?_
  refine XW.iload_n eL_law_220 rfl ?_
  refine XW.iconst (v := 1) eL_law_221 (by decide) ?_
  refine XW.iadd eL_law_222 ?_
  refine XW.sload eL_law_223 (sc_1 hi hm) ?_
  refine XW.aload_n eL_law_224 rfl ?_
  refine XW.iload_n eL_law_225 rfl ?_
  refine XW.iconst (v := 2) eL_law_226 (by decide) ?_
  refine XW.iadd eL_law_227 ?_
  refine XW.sload eL_law_228 (sc_2 hi hm) ?_
  refine XW.callV (As := [.int (C.2.2.2.1 (nI i + 1).toNatClampNeg), .int (C.2.2.2.1 (nI i + 2).toNatClampNeg)]) (st := [.int v]) eL_law_229 okX10_mark cvL_26 rfl (so_69 hG1) hy (xnumG rfl rfl rfl rfl rfl (Nat.le_refl _) (Nat.le_refl _) n2 s2) ?_
  exact XW.icmp_eq eL_law_232 (fun _ => kk) (fun c => absurd rfl c)
theorem B_pace (hi : i + 6 ≤ C.2.2.1) (hm : C.2.2.1 ≤ 3072) (hG : SH G) (hx : XW l C mX9_pace 0 (xent mX9_pace [.ref 2, .int (C.2.2.2.1 (nI i + 1).toNatClampNeg), .int (C.2.2.2.1 (nI i + 2).toNatClampNeg)]) [] G I (some (.int v)) G1 I1) (hy : XW l C mX10_pace 0 (xent mX10_pace [.ref 69, .int (C.2.2.2.1 (nI i + 1).toNatClampNeg), .int (C.2.2.2.1 (nI i + 2).toNatClampNeg)]) [] G1 I1 (some (.int v)) G1 I2) (hG1 : SH G1) (n1 : gN G ≤ gN G1) (s1 : gS G ≤ gS G1) (n2 : gN G1 ≤ gN G2) (s2 : gS G1 ≤ gS G2) (kk : XW l C mL_law 999 [some (.ref 1), some (.ref 2), some (.ref 69), some (.int (nI i))] [] G1 I2 r G2 I3) : XW l C mL_law 237 [some (.ref 1), some (.ref 2), some (.ref 69), some (.int (nI i))] [] G I r G2 I3 := by
  refine XW.aload_n eL_law_237 rfl ?_
  refine XW.aload_n eL_law_238 rfl ?_
  refine XW.iload_n eL_law_239 rfl ?_
  refine XW.iconst (v := 1) eL_law_240 (by decide) ?_
  refine XW.iadd eL_law_241 ?_
  refine XW.sload eL_law_242 (sc_1 hi hm) ?_
  refine XW.aload_n eL_law_243 rfl ?_
  refine XW.iload_n eL_law_244 rfl ?_
  refine XW.iconst (v := 2) eL_law_245 (by decide) ?_
  refine XW.iadd eL_law_246 ?_
  refine XW.sload eL_law_247 (sc_2 hi hm) ?_
  refine XW.callV (As := [.int (C.2.2.2.1 (nI i + 1).toNatClampNeg), .int (C.2.2.2.1 (nI i + 2).toNatClampNeg)]) (st := []) eL_law_248 okX9_pace cvL_27 rfl (so_2 hG) hx (xnumG rfl rfl rfl rfl rfl n1 s1 n2 s2) ?_
  refine XW.aload_n eL_law_251 rfl ?_
  refine XW.aload_n eL_law_252 rfl ?_
  refine XW.iload_n eL_law_253 rfl ?_
  refine XW.iconst (v := 1) eL_law_254 (by decide) ?_
  refine XW.iadd eL_law_255 ?_
  refine XW.sload eL_law_256 (sc_1 hi hm) ?_
  refine XW.aload_n eL_law_257 rfl ?_
  refine XW.iload_n eL_law_258 rfl ?_
  refine XW.iconst (v := 2) eL_law_259 (by decide) ?_
  refine XW.iadd eL_law_260 ?_
  refine XW.sload eL_law_261 (sc_2 hi hm) ?_
  refine XW.callV (As := [.int (C.2.2.2.1 (nI i + 1).toNatClampNeg), .int (C.2.2.2.1 (nI i + 2).toNatClampNeg)]) (st := [.int v]) eL_law_262 okX10_pace cvL_30 rfl (so_69 hG1) hy (xnumG rfl rfl rfl rfl rfl (Nat.le_refl _) (Nat.le_refl _) n2 s2) ?_
  exact XW.icmp_eq eL_law_265 (fun _ => kk) (fun c => absurd rfl c)
theorem B_part (hi : i + 6 ≤ C.2.2.1) (hm : C.2.2.1 ≤ 3072) (hG : SH G) (hx : XW l C mX9_part 0 (xent mX9_part [.ref 2, .int (C.2.2.2.1 (nI i + 1).toNatClampNeg), .int (C.2.2.2.1 (nI i + 2).toNatClampNeg)]) [] G I (some (.int v)) G1 I1) (hy : XW l C mX10_part 0 (xent mX10_part [.ref 69, .int (C.2.2.2.1 (nI i + 1).toNatClampNeg), .int (C.2.2.2.1 (nI i + 2).toNatClampNeg)]) [] G1 I1 (some (.int v)) G1 I2) (hG1 : SH G1) (n1 : gN G ≤ gN G1) (s1 : gS G ≤ gS G1) (n2 : gN G1 ≤ gN G2) (s2 : gS G1 ≤ gS G2) (kk : XW l C mL_law 999 [some (.ref 1), some (.ref 2), some (.ref 69), some (.int (nI i))] [] G1 I2 r G2 I3) : XW l C mL_law 270 [some (.ref 1), some (.ref 2), some (.ref 69), some (.int (nI i))] [] G I r G2 I3 := by
  refine XW.aload_n eL_law_270 rfl ?_
  refine XW.aload_n eL_law_271 rfl ?_
  refine XW.iload_n eL_law_272 rfl ?_
  refine XW.iconst (v := 1) eL_law_273 (by decide) ?_
  refine XW.iadd eL_law_274 ?_
  refine XW.sload eL_law_275 (sc_1 hi hm) ?_
  refine XW.aload_n eL_law_276 rfl ?_
  refine XW.iload_n eL_law_277 rfl ?_
  refine XW.iconst (v := 2) eL_law_278 (by decide) ?_
  refine XW.iadd eL_law_279 ?_
  refine XW.sload eL_law_280 (sc_2 hi hm) ?_
  refine XW.callV (As := [.int (C.2.2.2.1 (nI i + 1).toNatClampNeg), .int (C.2.2.2.1 (nI i + 2).toNatClampNeg)]) (st := []) eL_law_281 okX9_part cvL_31 rfl (so_2 hG) hx (xnumG rfl rfl rfl rfl rfl n1 s1 n2 s2) ?_
  refine XW.aload_n eL_law_284 rfl ?_
  refine XW.aload_n eL_law_285 rfl ?_
  refine XW.iload_n eL_law_286 rfl ?_
  refine XW.iconst (v := 1) eL_law_287 (by decide) ?_
  refine XW.iadd eL_law_288 ?_
  refine XW.sload eL_law_289 (sc_1 hi hm) ?_
  refine XW.aload_n eL_law_290 rfl ?_
  refine XW.iload_n eL_law_291 rfl ?_
  refine XW.iconst (v := 2) eL_law_292 (by decide) ?_
  refine XW.iadd eL_law_293 ?_
  refine XW.sload eL_law_294 (sc_2 hi hm) ?_
  refine XW.callV (As := [.int (C.2.2.2.1 (nI i + 1).toNatClampNeg), .int (C.2.2.2.1 (nI i + 2).toNatClampNeg)]) (st := [.int v]) eL_law_295 okX10_part cvL_34 rfl (so_69 hG1) hy (xnumG rfl rfl rfl rfl rfl (Nat.le_refl _) (Nat.le_refl _) n2 s2) ?_
  exact XW.icmp_eq eL_law_298 (fun _ => kk) (fun c => absurd rfl c)
theorem B_hold (hi : i + 6 ≤ C.2.2.1) (hm : C.2.2.1 ≤ 3072) (hG : SH G) (hx : XW l C mX9_hold 0 (xent mX9_hold [.ref 2, .int (C.2.2.2.1 (nI i + 1).toNatClampNeg), .int (C.2.2.2.1 (nI i + 2).toNatClampNeg), .int (C.2.2.2.1 (nI i + 3).toNatClampNeg), .int (C.2.2.2.1 (nI i + 4).toNatClampNeg)]) [] G I (some (.int v)) G1 I1) (hy : XW l C mX10_hold 0 (xent mX10_hold [.ref 69, .int (C.2.2.2.1 (nI i + 1).toNatClampNeg), .int (C.2.2.2.1 (nI i + 2).toNatClampNeg), .int (C.2.2.2.1 (nI i + 3).toNatClampNeg), .int (C.2.2.2.1 (nI i + 4).toNatClampNeg)]) [] G1 I1 (some (.int v)) G1 I2) (hG1 : SH G1) (n1 : gN G ≤ gN G1) (s1 : gS G ≤ gS G1) (n2 : gN G1 ≤ gN G2) (s2 : gS G1 ≤ gS G2) (kk : XW l C mL_law 999 [some (.ref 1), some (.ref 2), some (.ref 69), some (.int (nI i))] [] G1 I2 r G2 I3) : XW l C mL_law 303 [some (.ref 1), some (.ref 2), some (.ref 69), some (.int (nI i))] [] G I r G2 I3 := by
  refine XW.aload_n eL_law_303 rfl ?_
  refine XW.aload_n eL_law_304 rfl ?_
  refine XW.iload_n eL_law_305 rfl ?_
  refine XW.iconst (v := 1) eL_law_306 (by decide) ?_
  refine XW.iadd eL_law_307 ?_
  refine XW.sload eL_law_308 (sc_1 hi hm) ?_
  refine XW.aload_n eL_law_309 rfl ?_
  refine XW.iload_n eL_law_310 rfl ?_
  refine XW.iconst (v := 2) eL_law_311 (by decide) ?_
  refine XW.iadd eL_law_312 ?_
  refine XW.sload eL_law_313 (sc_2 hi hm) ?_
  refine XW.aload_n eL_law_314 rfl ?_
  refine XW.iload_n eL_law_315 rfl ?_
  refine XW.iconst (v := 3) eL_law_316 (by decide) ?_
  refine XW.iadd eL_law_317 ?_
  refine XW.sload eL_law_318 (sc_3 hi hm) ?_
  refine XW.aload_n eL_law_319 rfl ?_
  refine XW.iload_n eL_law_320 rfl ?_
  refine XW.iconst (v := 4) eL_law_321 (by decide) ?_
  refine XW.iadd eL_law_322 ?_
  refine XW.sload eL_law_323 (sc_4 hi hm) ?_
  refine XW.callV (As := [.int (C.2.2.2.1 (nI i + 1).toNatClampNeg), .int (C.2.2.2.1 (nI i + 2).toNatClampNeg), .int (C.2.2.2.1 (nI i + 3).toNatClampNeg), .int (C.2.2.2.1 (nI i + 4).toNatClampNeg)]) (st := []) eL_law_324 okX9_hold cvL_35 rfl (so_2 hG) hx (xnumG rfl rfl rfl rfl rfl n1 s1 n2 s2) ?_
  refine XW.aload_n eL_law_327 rfl ?_
  refine XW.aload_n eL_law_328 rfl ?_
  refine XW.iload_n eL_law_329 rfl ?_
  refine XW.iconst (v := 1) eL_law_330 (by decide) ?_
  refine XW.iadd eL_law_331 ?_
  refine XW.sload eL_law_332 (sc_1 hi hm) ?_
  refine XW.aload_n eL_law_333 rfl ?_
  refine XW.iload_n eL_law_334 rfl ?_
  refine XW.iconst (v := 2) eL_law_335 (by decide) ?_
  refine XW.iadd eL_law_336 ?_
  refine XW.sload eL_law_337 (sc_2 hi hm) ?_
  refine XW.aload_n eL_law_338 rfl ?_
  refine XW.iload_n eL_law_339 rfl ?_
  refine XW.iconst (v := 3) eL_law_340 (by decide) ?_
  refine XW.iadd eL_law_341 ?_
  refine XW.sload eL_law_342 (sc_3 hi hm) ?_
  refine XW.aload_n eL_law_343 rfl ?_
  refine XW.iload_n eL_law_344 rfl ?_
  refine XW.iconst (v := 4) eL_law_345 (by decide) ?_
  refine XW.iadd eL_law_346 ?_
  refine XW.sload eL_law_347 (sc_4 hi hm) ?_
  refine XW.callV (As := [.int (C.2.2.2.1 (nI i + 1).toNatClampNeg), .int (C.2.2.2.1 (nI i + 2).toNatClampNeg), .int (C.2.2.2.1 (nI i + 3).toNatClampNeg), .int (C.2.2.2.1 (nI i + 4).toNatClampNeg)]) (st := [.int v]) eL_law_348 okX10_hold cvL_39 rfl (so_69 hG1) hy (xnumG rfl rfl rfl rfl rfl (Nat.le_refl _) (Nat.le_refl _) n2 s2) ?_
  exact XW.icmp_eq eL_law_351 (fun _ => kk) (fun c => absurd rfl c)
theorem B_told (hi : i + 6 ≤ C.2.2.1) (hm : C.2.2.1 ≤ 3072) (hG : SH G) (hx : XW l C mX9_told 0 (xent mX9_told [.ref 2, .int (C.2.2.2.1 (nI i + 1).toNatClampNeg), .int (C.2.2.2.1 (nI i + 2).toNatClampNeg)]) [] G I (some (.int v)) G1 I1) (hy : XW l C mX10_told 0 (xent mX10_told [.ref 69, .int (C.2.2.2.1 (nI i + 1).toNatClampNeg), .int (C.2.2.2.1 (nI i + 2).toNatClampNeg)]) [] G1 I1 (some (.int v)) G1 I2) (hG1 : SH G1) (n1 : gN G ≤ gN G1) (s1 : gS G ≤ gS G1) (n2 : gN G1 ≤ gN G2) (s2 : gS G1 ≤ gS G2) (kk : XW l C mL_law 999 [some (.ref 1), some (.ref 2), some (.ref 69), some (.int (nI i))] [] G1 I2 r G2 I3) : XW l C mL_law 356 [some (.ref 1), some (.ref 2), some (.ref 69), some (.int (nI i))] [] G I r G2 I3 := by
  refine XW.aload_n eL_law_356 rfl ?_
  refine XW.aload_n eL_law_357 rfl ?_
  refine XW.iload_n eL_law_358 rfl ?_
  refine XW.iconst (v := 1) eL_law_359 (by decide) ?_
  refine XW.iadd eL_law_360 ?_
  refine XW.sload eL_law_361 (sc_1 hi hm) ?_
  refine XW.aload_n eL_law_362 rfl ?_
  refine XW.iload_n eL_law_363 rfl ?_
  refine XW.iconst (v := 2) eL_law_364 (by decide) ?_
  refine XW.iadd eL_law_365 ?_
  refine XW.sload eL_law_366 (sc_2 hi hm) ?_
  refine XW.callV (As := [.int (C.2.2.2.1 (nI i + 1).toNatClampNeg), .int (C.2.2.2.1 (nI i + 2).toNatClampNeg)]) (st := []) eL_law_367 okX9_told cvL_40 rfl (so_2 hG) hx (xnumG rfl rfl rfl rfl rfl n1 s1 n2 s2) ?_
  refine XW.aload_n eL_law_370 rfl ?_
  refine XW.aload_n eL_law_371 rfl ?_
  refine XW.iload_n eL_law_372 rfl ?_
  refine XW.iconst (v := 1) eL_law_373 (by decide) ?_
  refine XW.iadd eL_law_374 ?_
  refine XW.sload eL_law_375 (sc_1 hi hm) ?_
  refine XW.aload_n eL_law_376 rfl ?_
  refine XW.iload_n eL_law_377 rfl ?_
  refine XW.iconst (v := 2) eL_law_378 (by decide) ?_
  refine XW.iadd eL_law_379 ?_
  refine XW.sload eL_law_380 (sc_2 hi hm) ?_
  refine XW.callV (As := [.int (C.2.2.2.1 (nI i + 1).toNatClampNeg), .int (C.2.2.2.1 (nI i + 2).toNatClampNeg)]) (st := [.int v]) eL_law_381 okX10_told cvL_43 rfl (so_69 hG1) hy (xnumG rfl rfl rfl rfl rfl (Nat.le_refl _) (Nat.le_refl _) n2 s2) ?_
  exact XW.icmp_eq eL_law_384 (fun _ => kk) (fun c => absurd rfl c)
theorem B_share (hi : i + 6 ≤ C.2.2.1) (hm : C.2.2.1 ≤ 3072) (hG : SH G) (hx : XW l C mX9_share 0 (xent mX9_share [.ref 2, .int (C.2.2.2.1 (nI i + 1).toNatClampNeg)]) [] G I (some (.int v)) G1 I1) (hy : XW l C mX10_share 0 (xent mX10_share [.ref 69, .int (C.2.2.2.1 (nI i + 1).toNatClampNeg)]) [] G1 I1 (some (.int v)) G1 I2) (hG1 : SH G1) (n1 : gN G ≤ gN G1) (s1 : gS G ≤ gS G1) (n2 : gN G1 ≤ gN G2) (s2 : gS G1 ≤ gS G2) (kk : XW l C mL_law 999 [some (.ref 1), some (.ref 2), some (.ref 69), some (.int (nI i))] [] G1 I2 r G2 I3) : XW l C mL_law 389 [some (.ref 1), some (.ref 2), some (.ref 69), some (.int (nI i))] [] G I r G2 I3 := by
  refine XW.aload_n eL_law_389 rfl ?_
  refine XW.aload_n eL_law_390 rfl ?_
  refine XW.iload_n eL_law_391 rfl ?_
  refine XW.iconst (v := 1) eL_law_392 (by decide) ?_
  refine XW.iadd eL_law_393 ?_
  refine XW.sload eL_law_394 (sc_1 hi hm) ?_
  refine XW.callV (As := [.int (C.2.2.2.1 (nI i + 1).toNatClampNeg)]) (st := []) eL_law_395 okX9_share cvL_44 rfl (so_2 hG) hx (xnumG rfl rfl rfl rfl rfl n1 s1 n2 s2) ?_
  refine XW.aload_n eL_law_398 rfl ?_
  refine XW.aload_n eL_law_399 rfl ?_
  refine XW.iload_n eL_law_400 rfl ?_
  refine XW.iconst (v := 1) eL_law_401 (by decide) ?_
  refine XW.iadd eL_law_402 ?_
  refine XW.sload eL_law_403 (sc_1 hi hm) ?_
  refine XW.callV (As := [.int (C.2.2.2.1 (nI i + 1).toNatClampNeg)]) (st := [.int v]) eL_law_404 okX10_share cvL_47 rfl (so_69 hG1) hy (xnumG rfl rfl rfl rfl rfl (Nat.le_refl _) (Nat.le_refl _) n2 s2) ?_
  exact XW.icmp_eq eL_law_407 (fun _ => kk) (fun c => absurd rfl c)
theorem B_sheet (hi : i + 6 ≤ C.2.2.1) (hm : C.2.2.1 ≤ 3072) (hG : SH G) (hx : XW l C mX9_sheet 0 (xent mX9_sheet [.ref 2, .int (C.2.2.2.1 (nI i + 1).toNatClampNeg), .int (C.2.2.2.1 (nI i + 2).toNatClampNeg), .int (C.2.2.2.1 (nI i + 3).toNatClampNeg)]) [] G I (some (.int v)) G1 I1) (hy : XW l C mX10_sheet 0 (xent mX10_sheet [.ref 69, .int (C.2.2.2.1 (nI i + 1).toNatClampNeg), .int (C.2.2.2.1 (nI i + 2).toNatClampNeg), .int (C.2.2.2.1 (nI i + 3).toNatClampNeg)]) [] G1 I1 (some (.int v)) G1 I2) (hG1 : SH G1) (n1 : gN G ≤ gN G1) (s1 : gS G ≤ gS G1) (n2 : gN G1 ≤ gN G2) (s2 : gS G1 ≤ gS G2) (kk : XW l C mL_law 999 [some (.ref 1), some (.ref 2), some (.ref 69), some (.int (nI i))] [] G1 I2 r G2 I3) : XW l C mL_law 412 [some (.ref 1), some (.ref 2), some (.ref 69), some (.int (nI i))] [] G I r G2 I3 := by
  refine XW.aload_n eL_law_412 rfl ?_
  refine XW.aload_n eL_law_413 rfl ?_
  refine XW.iload_n eL_law_414 rfl ?_
  refine XW.iconst (v := 1) eL_law_415 (by decide) ?_
  refine XW.iadd eL_law_416 ?_
  refine XW.sload eL_law_417 (sc_1 hi hm) ?_
  refine XW.aload_n eL_law_418 rfl ?_
  refine XW.iload_n eL_law_419 rfl ?_
  refine XW.iconst (v := 2) eL_law_420 (by decide) ?_
  refine XW.iadd eL_law_421 ?_
  refine XW.sload eL_law_422 (sc_2 hi hm) ?_
  refine XW.aload_n eL_law_423 rfl ?_
  refine XW.iload_n eL_law_424 rfl ?_
  refine XW.iconst (v := 3) eL_law_425 (by decide) ?_
  refine XW.iadd eL_law_426 ?_
  refine XW.sload eL_law_427 (sc_3 hi hm) ?_
  refine XW.callV (As := [.int (C.2.2.2.1 (nI i + 1).toNatClampNeg), .int (C.2.2.2.1 (nI i + 2).toNatClampNeg), .int (C.2.2.2.1 (nI i + 3).toNatClampNeg)]) (st := []) eL_law_428 okX9_sheet cvL_48 rfl (so_2 hG) hx (xnumG rfl rfl rfl rfl rfl n1 s1 n2 s2) ?_
  refine XW.aload_n eL_law_431 rfl ?_
  refine XW.aload_n eL_law_432 rfl ?_
  refine XW.iload_n eL_law_433 rfl ?_
  refine XW.iconst (v := 1) eL_law_434 (by decide) ?_
  refine XW.iadd eL_law_435 ?_
  refine XW.sload eL_law_436 (sc_1 hi hm) ?_
  refine XW.aload_n eL_law_437 rfl ?_
  refine XW.iload_n eL_law_438 rfl ?_
  refine XW.iconst (v := 2) eL_law_439 (by decide) ?_
  refine XW.iadd eL_law_440 ?_
  refine XW.sload eL_law_441 (sc_2 hi hm) ?_
  refine XW.aload_n eL_law_442 rfl ?_
  refine XW.iload_n eL_law_443 rfl ?_
  refine XW.iconst (v := 3) eL_law_444 (by decide) ?_
  refine XW.iadd eL_law_445 ?_
  refine XW.sload eL_law_446 (sc_3 hi hm) ?_
  refine XW.callV (As := [.int (C.2.2.2.1 (nI i + 1).toNatClampNeg), .int (C.2.2.2.1 (nI i + 2).toNatClampNeg), .int (C.2.2.2.1 (nI i + 3).toNatClampNeg)]) (st := [.int v]) eL_law_447 okX10_sheet cvL_52 rfl (so_69 hG1) hy (xnumG rfl rfl rfl rfl rfl (Nat.le_refl _) (Nat.le_refl _) n2 s2) ?_
  exact XW.icmp_eq eL_law_450 (fun _ => kk) (fun c => absurd rfl c)
theorem B_drop (hi : i + 6 ≤ C.2.2.1) (hm : C.2.2.1 ≤ 3072) (hG : SH G) (hx : XW l C mX9_drop 0 (xent mX9_drop [.ref 2, .int (C.2.2.2.1 (nI i + 1).toNatClampNeg)]) [] G I (some (.int v)) G1 I1) (hy : XW l C mX10_drop 0 (xent mX10_drop [.ref 69, .int (C.2.2.2.1 (nI i + 1).toNatClampNeg)]) [] G1 I1 (some (.int v)) G1 I2) (hG1 : SH G1) (n1 : gN G ≤ gN G1) (s1 : gS G ≤ gS G1) (n2 : gN G1 ≤ gN G2) (s2 : gS G1 ≤ gS G2) (kk : XW l C mL_law 999 [some (.ref 1), some (.ref 2), some (.ref 69), some (.int (nI i))] [] G1 I2 r G2 I3) : XW l C mL_law 455 [some (.ref 1), some (.ref 2), some (.ref 69), some (.int (nI i))] [] G I r G2 I3 := by
  refine XW.aload_n eL_law_455 rfl ?_
  refine XW.aload_n eL_law_456 rfl ?_
  refine XW.iload_n eL_law_457 rfl ?_
  refine XW.iconst (v := 1) eL_law_458 (by decide) ?_
  refine XW.iadd eL_law_459 ?_
  refine XW.sload eL_law_460 (sc_1 hi hm) ?_
  refine XW.callV (As := [.int (C.2.2.2.1 (nI i + 1).toNatClampNeg)]) (st := []) eL_law_461 okX9_drop cvL_53 rfl (so_2 hG) hx (xnumG rfl rfl rfl rfl rfl n1 s1 n2 s2) ?_
  refine XW.aload_n eL_law_464 rfl ?_
  refine XW.aload_n eL_law_465 rfl ?_
  refine XW.iload_n eL_law_466 rfl ?_
  refine XW.iconst (v := 1) eL_law_467 (by decide) ?_
  refine XW.iadd eL_law_468 ?_
  refine XW.sload eL_law_469 (sc_1 hi hm) ?_
  refine XW.callV (As := [.int (C.2.2.2.1 (nI i + 1).toNatClampNeg)]) (st := [.int v]) eL_law_470 okX10_drop cvL_56 rfl (so_69 hG1) hy (xnumG rfl rfl rfl rfl rfl (Nat.le_refl _) (Nat.le_refl _) n2 s2) ?_
  exact XW.icmp_eq eL_law_473 (fun _ => kk) (fun c => absurd rfl c)
theorem B_item (hi : i + 6 ≤ C.2.2.1) (hm : C.2.2.1 ≤ 3072) (hG : SH G) (hx : XW l C mX9_item 0 (xent mX9_item [.ref 2, .int (C.2.2.2.1 (nI i + 1).toNatClampNeg), .int (C.2.2.2.1 (nI i + 2).toNatClampNeg), .int (C.2.2.2.1 (nI i + 3).toNatClampNeg), .int (C.2.2.2.1 (nI i + 4).toNatClampNeg)]) [] G I (some (.int v)) G1 I1) (hy : XW l C mX10_item 0 (xent mX10_item [.ref 69, .int (C.2.2.2.1 (nI i + 1).toNatClampNeg), .int (C.2.2.2.1 (nI i + 2).toNatClampNeg), .int (C.2.2.2.1 (nI i + 3).toNatClampNeg), .int (C.2.2.2.1 (nI i + 4).toNatClampNeg)]) [] G1 I1 (some (.int v)) G1 I2) (hG1 : SH G1) (n1 : gN G ≤ gN G1) (s1 : gS G ≤ gS G1) (n2 : gN G1 ≤ gN G2) (s2 : gS G1 ≤ gS G2) (kk : XW l C mL_law 999 [some (.ref 1), some (.ref 2), some (.ref 69), some (.int (nI i))] [] G1 I2 r G2 I3) : XW l C mL_law 478 [some (.ref 1), some (.ref 2), some (.ref 69), some (.int (nI i))] [] G I r G2 I3 := by
  refine XW.aload_n eL_law_478 rfl ?_
  refine XW.aload_n eL_law_479 rfl ?_
  refine XW.iload_n eL_law_480 rfl ?_
  refine XW.iconst (v := 1) eL_law_481 (by decide) ?_
  refine XW.iadd eL_law_482 ?_
  refine XW.sload eL_law_483 (sc_1 hi hm) ?_
  refine XW.aload_n eL_law_484 rfl ?_
  refine XW.iload_n eL_law_485 rfl ?_
  refine XW.iconst (v := 2) eL_law_486 (by decide) ?_
  refine XW.iadd eL_law_487 ?_
  refine XW.sload eL_law_488 (sc_2 hi hm) ?_
  refine XW.aload_n eL_law_489 rfl ?_
  refine XW.iload_n eL_law_490 rfl ?_
  refine XW.iconst (v := 3) eL_law_491 (by decide) ?_
  refine XW.iadd eL_law_492 ?_
  refine XW.sload eL_law_493 (sc_3 hi hm) ?_
  refine XW.aload_n eL_law_494 rfl ?_
  refine XW.iload_n eL_law_495 rfl ?_
  refine XW.iconst (v := 4) eL_law_496 (by decide) ?_
  refine XW.iadd eL_law_497 ?_
  refine XW.sload eL_law_498 (sc_4 hi hm) ?_
  refine XW.callV (As := [.int (C.2.2.2.1 (nI i + 1).toNatClampNeg), .int (C.2.2.2.1 (nI i + 2).toNatClampNeg), .int (C.2.2.2.1 (nI i + 3).toNatClampNeg), .int (C.2.2.2.1 (nI i + 4).toNatClampNeg)]) (st := []) eL_law_499 okX9_item cvL_57 rfl (so_2 hG) hx (xnumG rfl rfl rfl rfl rfl n1 s1 n2 s2) ?_
  refine XW.aload_n eL_law_502 rfl ?_
  refine XW.aload_n eL_law_503 rfl ?_
  refine XW.iload_n eL_law_504 rfl ?_
  refine XW.iconst (v := 1) eL_law_505 (by decide) ?_
  refine XW.iadd eL_law_506 ?_
  refine XW.sload eL_law_507 (sc_1 hi hm) ?_
  refine XW.aload_n eL_law_508 rfl ?_
  refine XW.iload_n eL_law_509 rfl ?_
  refine XW.iconst (v := 2) eL_law_510 (by decide) ?_
  refine XW.iadd eL_law_511 ?_
  refine XW.sload eL_law_512 (sc_2 hi hm) ?_
  refine XW.aload_n eL_law_513 rfl ?_
  refine XW.iload_n eL_law_514 rfl ?_
  refine XW.iconst (v := 3) eL_law_515 (by decide) ?_
  refine XW.iadd eL_law_516 ?_
  refine XW.sload eL_law_517 (sc_3 hi hm) ?_
  refine XW.aload_n eL_law_518 rfl ?_
  refine XW.iload_n eL_law_519 rfl ?_
  refine XW.iconst (v := 4) eL_law_520 (by decide) ?_
  refine XW.iadd eL_law_521 ?_
  refine XW.sload eL_law_522 (sc_4 hi hm) ?_
  refine XW.callV (As := [.int (C.2.2.2.1 (nI i + 1).toNatClampNeg), .int (C.2.2.2.1 (nI i + 2).toNatClampNeg), .int (C.2.2.2.1 (nI i + 3).toNatClampNeg), .int (C.2.2.2.1 (nI i + 4).toNatClampNeg)]) (st := [.int v]) eL_law_523 okX10_item cvL_60 rfl (so_69 hG1) hy (xnumG rfl rfl rfl rfl rfl (Nat.le_refl _) (Nat.le_refl _) n2 s2) ?_
  exact XW.icmp_eq eL_law_526 (fun _ => kk) (fun c => absurd rfl c)
theorem B_copy (hi : i + 6 ≤ C.2.2.1) (hm : C.2.2.1 ≤ 3072) (hG : SH G) (hx : XW l C mX9_copy 0 (xent mX9_copy [.ref 2, .int (C.2.2.2.1 (nI i + 1).toNatClampNeg), .int (C.2.2.2.1 (nI i + 2).toNatClampNeg), .int (C.2.2.2.1 (nI i + 3).toNatClampNeg), .int (C.2.2.2.1 (nI i + 4).toNatClampNeg), .int (C.2.2.2.1 (nI i + 5).toNatClampNeg)]) [] G I (some (.int v)) G1 I1) (hy : XW l C mX10_copy 0 (xent mX10_copy [.ref 69, .int (C.2.2.2.1 (nI i + 1).toNatClampNeg), .int (C.2.2.2.1 (nI i + 2).toNatClampNeg), .int (C.2.2.2.1 (nI i + 3).toNatClampNeg), .int (C.2.2.2.1 (nI i + 4).toNatClampNeg), .int (C.2.2.2.1 (nI i + 5).toNatClampNeg)]) [] G1 I1 (some (.int v)) G1 I2) (hG1 : SH G1) (n1 : gN G ≤ gN G1) (s1 : gS G ≤ gS G1) (n2 : gN G1 ≤ gN G2) (s2 : gS G1 ≤ gS G2) (kk : XW l C mL_law 999 [some (.ref 1), some (.ref 2), some (.ref 69), some (.int (nI i))] [] G1 I2 r G2 I3) : XW l C mL_law 531 [some (.ref 1), some (.ref 2), some (.ref 69), some (.int (nI i))] [] G I r G2 I3 := by
  refine XW.aload_n eL_law_531 rfl ?_
  refine XW.aload_n eL_law_532 rfl ?_
  refine XW.iload_n eL_law_533 rfl ?_
  refine XW.iconst (v := 1) eL_law_534 (by decide) ?_
  refine XW.iadd eL_law_535 ?_
  refine XW.sload eL_law_536 (sc_1 hi hm) ?_
  refine XW.aload_n eL_law_537 rfl ?_
  refine XW.iload_n eL_law_538 rfl ?_
  refine XW.iconst (v := 2) eL_law_539 (by decide) ?_
  refine XW.iadd eL_law_540 ?_
  refine XW.sload eL_law_541 (sc_2 hi hm) ?_
  refine XW.aload_n eL_law_542 rfl ?_
  refine XW.iload_n eL_law_543 rfl ?_
  refine XW.iconst (v := 3) eL_law_544 (by decide) ?_
  refine XW.iadd eL_law_545 ?_
  refine XW.sload eL_law_546 (sc_3 hi hm) ?_
  refine XW.aload_n eL_law_547 rfl ?_
  refine XW.iload_n eL_law_548 rfl ?_
  refine XW.iconst (v := 4) eL_law_549 (by decide) ?_
  refine XW.iadd eL_law_550 ?_
  refine XW.sload eL_law_551 (sc_4 hi hm) ?_
  refine XW.aload_n eL_law_552 rfl ?_
  refine XW.iload_n eL_law_553 rfl ?_
  refine XW.iconst (v := 5) eL_law_554 (by decide) ?_
  refine XW.iadd eL_law_555 ?_
  refine XW.sload eL_law_556 (sc_5 hi hm) ?_
  refine XW.callV (As := [.int (C.2.2.2.1 (nI i + 1).toNatClampNeg), .int (C.2.2.2.1 (nI i + 2).toNatClampNeg), .int (C.2.2.2.1 (nI i + 3).toNatClampNeg), .int (C.2.2.2.1 (nI i + 4).toNatClampNeg), .int (C.2.2.2.1 (nI i + 5).toNatClampNeg)]) (st := []) eL_law_557 okX9_copy cvL_61 rfl (so_2 hG) hx (xnumG rfl rfl rfl rfl rfl n1 s1 n2 s2) ?_
  refine XW.aload_n eL_law_560 rfl ?_
  refine XW.aload_n eL_law_561 rfl ?_
  refine XW.iload_n eL_law_562 rfl ?_
  refine XW.iconst (v := 1) eL_law_563 (by decide) ?_
  refine XW.iadd eL_law_564 ?_
  refine XW.sload eL_law_565 (sc_1 hi hm) ?_
  refine XW.aload_n eL_law_566 rfl ?_
  refine XW.iload_n eL_law_567 rfl ?_
  refine XW.iconst (v := 2) eL_law_568 (by decide) ?_
  refine XW.iadd eL_law_569 ?_
  refine XW.sload eL_law_570 (sc_2 hi hm) ?_
  refine XW.aload_n eL_law_571 rfl ?_
  refine XW.iload_n eL_law_572 rfl ?_
  refine XW.iconst (v := 3) eL_law_573 (by decide) ?_
  refine XW.iadd eL_law_574 ?_
  refine XW.sload eL_law_575 (sc_3 hi hm) ?_
  refine XW.aload_n eL_law_576 rfl ?_
  refine XW.iload_n eL_law_577 rfl ?_
  refine XW.iconst (v := 4) eL_law_578 (by decide) ?_
  refine XW.iadd eL_law_579 ?_
  refine XW.sload eL_law_580 (sc_4 hi hm) ?_
  refine XW.aload_n eL_law_581 rfl ?_
  refine XW.iload_n eL_law_582 rfl ?_
  refine XW.iconst (v := 5) eL_law_583 (by decide) ?_
  refine XW.iadd eL_law_584 ?_
  refine XW.sload eL_law_585 (sc_5 hi hm) ?_
  refine XW.callV (As := [.int (C.2.2.2.1 (nI i + 1).toNatClampNeg), .int (C.2.2.2.1 (nI i + 2).toNatClampNeg), .int (C.2.2.2.1 (nI i + 3).toNatClampNeg), .int (C.2.2.2.1 (nI i + 4).toNatClampNeg), .int (C.2.2.2.1 (nI i + 5).toNatClampNeg)]) (st := [.int v]) eL_law_586 okX10_copy cvL_65 rfl (so_69 hG1) hy (xnumG rfl rfl rfl rfl rfl (Nat.le_refl _) (Nat.le_refl _) n2 s2) ?_
  exact XW.icmp_eq eL_law_589 (fun _ => kk) (fun c => absurd rfl c)
theorem B_letters (hi : i + 6 ≤ C.2.2.1) (hm : C.2.2.1 ≤ 3072) (hG : SH G) (hx : XW l C mX9_letters 0 (xent mX9_letters [.ref 2, .int (C.2.2.2.1 (nI i + 1).toNatClampNeg), .int (C.2.2.2.1 (nI i + 2).toNatClampNeg), .int (C.2.2.2.1 (nI i + 3).toNatClampNeg), .int (C.2.2.2.1 (nI i + 4).toNatClampNeg), .int (C.2.2.2.1 (nI i + 5).toNatClampNeg)]) [] G I (some (.int v)) G1 I1) (hy : XW l C mX10_letters 0 (xent mX10_letters [.ref 69, .int (C.2.2.2.1 (nI i + 1).toNatClampNeg), .int (C.2.2.2.1 (nI i + 2).toNatClampNeg), .int (C.2.2.2.1 (nI i + 3).toNatClampNeg), .int (C.2.2.2.1 (nI i + 4).toNatClampNeg), .int (C.2.2.2.1 (nI i + 5).toNatClampNeg)]) [] G1 I1 (some (.int v)) G1 I2) (hG1 : SH G1) (n1 : gN G ≤ gN G1) (s1 : gS G ≤ gS G1) (n2 : gN G1 ≤ gN G2) (s2 : gS G1 ≤ gS G2) (kk : XW l C mL_law 999 [some (.ref 1), some (.ref 2), some (.ref 69), some (.int (nI i))] [] G1 I2 r G2 I3) : XW l C mL_law 594 [some (.ref 1), some (.ref 2), some (.ref 69), some (.int (nI i))] [] G I r G2 I3 := by
  refine XW.aload_n eL_law_594 rfl ?_
  refine XW.aload_n eL_law_595 rfl ?_
  refine XW.iload_n eL_law_596 rfl ?_
  refine XW.iconst (v := 1) eL_law_597 (by decide) ?_
  refine XW.iadd eL_law_598 ?_
  refine XW.sload eL_law_599 (sc_1 hi hm) ?_
  refine XW.aload_n eL_law_600 rfl ?_
  refine XW.iload_n eL_law_601 rfl ?_
  refine XW.iconst (v := 2) eL_law_602 (by decide) ?_
  refine XW.iadd eL_law_603 ?_
  refine XW.sload eL_law_604 (sc_2 hi hm) ?_
  refine XW.aload_n eL_law_605 rfl ?_
  refine XW.iload_n eL_law_606 rfl ?_
  refine XW.iconst (v := 3) eL_law_607 (by decide) ?_
  refine XW.iadd eL_law_608 ?_
  refine XW.sload eL_law_609 (sc_3 hi hm) ?_
  refine XW.aload_n eL_law_610 rfl ?_
  refine XW.iload_n eL_law_611 rfl ?_
  refine XW.iconst (v := 4) eL_law_612 (by decide) ?_
  refine XW.iadd eL_law_613 ?_
  refine XW.sload eL_law_614 (sc_4 hi hm) ?_
  refine XW.aload_n eL_law_615 rfl ?_
  refine XW.iload_n eL_law_616 rfl ?_
  refine XW.iconst (v := 5) eL_law_617 (by decide) ?_
  refine XW.iadd eL_law_618 ?_
  refine XW.sload eL_law_619 (sc_5 hi hm) ?_
  refine XW.callV (As := [.int (C.2.2.2.1 (nI i + 1).toNatClampNeg), .int (C.2.2.2.1 (nI i + 2).toNatClampNeg), .int (C.2.2.2.1 (nI i + 3).toNatClampNeg), .int (C.2.2.2.1 (nI i + 4).toNatClampNeg), .int (C.2.2.2.1 (nI i + 5).toNatClampNeg)]) (st := []) eL_law_620 okX9_letters cvL_66 rfl (so_2 hG) hx (xnumG rfl rfl rfl rfl rfl n1 s1 n2 s2) ?_
  refine XW.aload_n eL_law_623 rfl ?_
  refine XW.aload_n eL_law_624 rfl ?_
  refine XW.iload_n eL_law_625 rfl ?_
  refine XW.iconst (v := 1) eL_law_626 (by decide) ?_
  refine XW.iadd eL_law_627 ?_
  refine XW.sload eL_law_628 (sc_1 hi hm) ?_
  refine XW.aload_n eL_law_629 rfl ?_
  refine XW.iload_n eL_law_630 rfl ?_
  refine XW.iconst (v := 2) eL_law_631 (by decide) ?_
  refine XW.iadd eL_law_632 ?_
  refine XW.sload eL_law_633 (sc_2 hi hm) ?_
  refine XW.aload_n eL_law_634 rfl ?_
  refine XW.iload_n eL_law_635 rfl ?_
  refine XW.iconst (v := 3) eL_law_636 (by decide) ?_
  refine XW.iadd eL_law_637 ?_
  refine XW.sload eL_law_638 (sc_3 hi hm) ?_
  refine XW.aload_n eL_law_639 rfl ?_
  refine XW.iload_n eL_law_640 rfl ?_
  refine XW.iconst (v := 4) eL_law_641 (by decide) ?_
  refine XW.iadd eL_law_642 ?_
  refine XW.sload eL_law_643 (sc_4 hi hm) ?_
  refine XW.aload_n eL_law_644 rfl ?_
  refine XW.iload_n eL_law_645 rfl ?_
  refine XW.iconst (v := 5) eL_law_646 (by decide) ?_
  refine XW.iadd eL_law_647 ?_
  refine XW.sload eL_law_648 (sc_5 hi hm) ?_
  refine XW.callV (As := [.int (C.2.2.2.1 (nI i + 1).toNatClampNeg), .int (C.2.2.2.1 (nI i + 2).toNatClampNeg), .int (C.2.2.2.1 (nI i + 3).toNatClampNeg), .int (C.2.2.2.1 (nI i + 4).toNatClampNeg), .int (C.2.2.2.1 (nI i + 5).toNatClampNeg)]) (st := [.int v]) eL_law_649 okX10_letters cvL_69 rfl (so_69 hG1) hy (xnumG rfl rfl rfl rfl rfl (Nat.le_refl _) (Nat.le_refl _) n2 s2) ?_
  exact XW.icmp_eq eL_law_652 (fun _ => kk) (fun c => absurd rfl c)
theorem B_clear (hi : i + 6 ≤ C.2.2.1) (hm : C.2.2.1 ≤ 3072) (hG : SH G) (hx : XW l C mX9_clear 0 (xent mX9_clear [.ref 2, .int (C.2.2.2.1 (nI i + 1).toNatClampNeg)]) [] G I (some (.int v)) G1 I1) (hy : XW l C mX10_clear 0 (xent mX10_clear [.ref 69, .int (C.2.2.2.1 (nI i + 1).toNatClampNeg)]) [] G1 I1 (some (.int v)) G1 I2) (hG1 : SH G1) (n1 : gN G ≤ gN G1) (s1 : gS G ≤ gS G1) (n2 : gN G1 ≤ gN G2) (s2 : gS G1 ≤ gS G2) (kk : XW l C mL_law 999 [some (.ref 1), some (.ref 2), some (.ref 69), some (.int (nI i))] [] G1 I2 r G2 I3) : XW l C mL_law 657 [some (.ref 1), some (.ref 2), some (.ref 69), some (.int (nI i))] [] G I r G2 I3 := by
  refine XW.aload_n eL_law_657 rfl ?_
  refine XW.aload_n eL_law_658 rfl ?_
  refine XW.iload_n eL_law_659 rfl ?_
  refine XW.iconst (v := 1) eL_law_660 (by decide) ?_
  refine XW.iadd eL_law_661 ?_
  refine XW.sload eL_law_662 (sc_1 hi hm) ?_
  refine XW.callV (As := [.int (C.2.2.2.1 (nI i + 1).toNatClampNeg)]) (st := []) eL_law_663 okX9_clear cvL_70 rfl (so_2 hG) hx (xnumG rfl rfl rfl rfl rfl n1 s1 n2 s2) ?_
  refine XW.aload_n eL_law_666 rfl ?_
  refine XW.aload_n eL_law_667 rfl ?_
  refine XW.iload_n eL_law_668 rfl ?_
  refine XW.iconst (v := 1) eL_law_669 (by decide) ?_
  refine XW.iadd eL_law_670 ?_
  refine XW.sload eL_law_671 (sc_1 hi hm) ?_
  refine XW.callV (As := [.int (C.2.2.2.1 (nI i + 1).toNatClampNeg)]) (st := [.int v]) eL_law_672 okX10_clear cvL_73 rfl (so_69 hG1) hy (xnumG rfl rfl rfl rfl rfl (Nat.le_refl _) (Nat.le_refl _) n2 s2) ?_
  exact XW.icmp_eq eL_law_675 (fun _ => kk) (fun c => absurd rfl c)
theorem B_letter (hi : i + 6 ≤ C.2.2.1) (hm : C.2.2.1 ≤ 3072) (hG : SH G) (hx : XW l C mX9_letter 0 (xent mX9_letter [.ref 2, .int (C.2.2.2.1 (nI i + 1).toNatClampNeg), .int (C.2.2.2.1 (nI i + 2).toNatClampNeg), .int (C.2.2.2.1 (nI i + 3).toNatClampNeg)]) [] G I (some (.int v)) G1 I1) (hy : XW l C mX10_letter 0 (xent mX10_letter [.ref 69, .int (C.2.2.2.1 (nI i + 1).toNatClampNeg), .int (C.2.2.2.1 (nI i + 2).toNatClampNeg), .int (C.2.2.2.1 (nI i + 3).toNatClampNeg)]) [] G1 I1 (some (.int v)) G1 I2) (hG1 : SH G1) (n1 : gN G ≤ gN G1) (s1 : gS G ≤ gS G1) (n2 : gN G1 ≤ gN G2) (s2 : gS G1 ≤ gS G2) (kk : XW l C mL_law 999 [some (.ref 1), some (.ref 2), some (.ref 69), some (.int (nI i))] [] G1 I2 r G2 I3) : XW l C mL_law 680 [some (.ref 1), some (.ref 2), some (.ref 69), some (.int (nI i))] [] G I r G2 I3 := by
  refine XW.aload_n eL_law_680 rfl ?_
  refine XW.aload_n eL_law_681 rfl ?_
  refine XW.iload_n eL_law_682 rfl ?_
  refine XW.iconst (v := 1) eL_law_683 (by decide) ?_
  refine XW.iadd eL_law_684 ?_
  refine XW.sload eL_law_685 (sc_1 hi hm) ?_
  refine XW.aload_n eL_law_686 rfl ?_
  refine XW.iload_n eL_law_687 rfl ?_
  refine XW.iconst (v := 2) eL_law_688 (by decide) ?_
  refine XW.iadd eL_law_689 ?_
  refine XW.sload eL_law_690 (sc_2 hi hm) ?_
  refine XW.aload_n eL_law_691 rfl ?_
  refine XW.iload_n eL_law_692 rfl ?_
  refine XW.iconst (v := 3) eL_law_693 (by decide) ?_
  refine XW.iadd eL_law_694 ?_
  refine XW.sload eL_law_695 (sc_3 hi hm) ?_
  refine XW.callV (As := [.int (C.2.2.2.1 (nI i + 1).toNatClampNeg), .int (C.2.2.2.1 (nI i + 2).toNatClampNeg), .int (C.2.2.2.1 (nI i + 3).toNatClampNeg)]) (st := []) eL_law_696 okX9_letter cvL_74 rfl (so_2 hG) hx (xnumG rfl rfl rfl rfl rfl n1 s1 n2 s2) ?_
  refine XW.aload_n eL_law_699 rfl ?_
  refine XW.aload_n eL_law_700 rfl ?_
  refine XW.iload_n eL_law_701 rfl ?_
  refine XW.iconst (v := 1) eL_law_702 (by decide) ?_
  refine XW.iadd eL_law_703 ?_
  refine XW.sload eL_law_704 (sc_1 hi hm) ?_
  refine XW.aload_n eL_law_705 rfl ?_
  refine XW.iload_n eL_law_706 rfl ?_
  refine XW.iconst (v := 2) eL_law_707 (by decide) ?_
  refine XW.iadd eL_law_708 ?_
  refine XW.sload eL_law_709 (sc_2 hi hm) ?_
  refine XW.aload_n eL_law_710 rfl ?_
  refine XW.iload_n eL_law_711 rfl ?_
  refine XW.iconst (v := 3) eL_law_712 (by decide) ?_
  refine XW.iadd eL_law_713 ?_
  refine XW.sload eL_law_714 (sc_3 hi hm) ?_
  refine XW.callV (As := [.int (C.2.2.2.1 (nI i + 1).toNatClampNeg), .int (C.2.2.2.1 (nI i + 2).toNatClampNeg), .int (C.2.2.2.1 (nI i + 3).toNatClampNeg)]) (st := [.int v]) eL_law_715 okX10_letter cvL_77 rfl (so_69 hG1) hy (xnumG rfl rfl rfl rfl rfl (Nat.le_refl _) (Nat.le_refl _) n2 s2) ?_
  exact XW.icmp_eq eL_law_718 (fun _ => kk) (fun c => absurd rfl c)
theorem B_run (hi : i + 6 ≤ C.2.2.1) (hm : C.2.2.1 ≤ 3072) (hG : SH G) (hx : XW l C mX9_run 0 (xent mX9_run [.ref 2, .int (C.2.2.2.1 (nI i + 1).toNatClampNeg), .int (C.2.2.2.1 (nI i + 2).toNatClampNeg)]) [] G I (some (.int v)) G1 I1) (hy : XW l C mX10_run 0 (xent mX10_run [.ref 69, .int (C.2.2.2.1 (nI i + 1).toNatClampNeg), .int (C.2.2.2.1 (nI i + 2).toNatClampNeg)]) [] G1 I1 (some (.int v)) G1 I2) (hG1 : SH G1) (n1 : gN G ≤ gN G1) (s1 : gS G ≤ gS G1) (n2 : gN G1 ≤ gN G2) (s2 : gS G1 ≤ gS G2) (kk : XW l C mL_law 999 [some (.ref 1), some (.ref 2), some (.ref 69), some (.int (nI i))] [] G1 I2 r G2 I3) : XW l C mL_law 723 [some (.ref 1), some (.ref 2), some (.ref 69), some (.int (nI i))] [] G I r G2 I3 := by
  refine XW.aload_n eL_law_723 rfl ?_
  refine XW.aload_n eL_law_724 rfl ?_
  refine XW.iload_n eL_law_725 rfl ?_
  refine XW.iconst (v := 1) eL_law_726 (by decide) ?_
  refine XW.iadd eL_law_727 ?_
  refine XW.sload eL_law_728 (sc_1 hi hm) ?_
  refine XW.aload_n eL_law_729 rfl ?_
  refine XW.iload_n eL_law_730 rfl ?_
  refine XW.iconst (v := 2) eL_law_731 (by decide) ?_
  refine XW.iadd eL_law_732 ?_
  refine XW.sload eL_law_733 (sc_2 hi hm) ?_
  refine XW.callV (As := [.int (C.2.2.2.1 (nI i + 1).toNatClampNeg), .int (C.2.2.2.1 (nI i + 2).toNatClampNeg)]) (st := []) eL_law_734 okX9_run cvL_78 rfl (so_2 hG) hx (xnumG rfl rfl rfl rfl rfl n1 s1 n2 s2) ?_
  refine XW.aload_n eL_law_737 rfl ?_
  refine XW.aload_n eL_law_738 rfl ?_
  refine XW.iload_n eL_law_739 rfl ?_
  refine XW.iconst (v := 1) eL_law_740 (by decide) ?_
  refine XW.iadd eL_law_741 ?_
  refine XW.sload eL_law_742 (sc_1 hi hm) ?_
  refine XW.aload_n eL_law_743 rfl ?_
  refine XW.iload_n eL_law_744 rfl ?_
  refine XW.iconst (v := 2) eL_law_745 (by decide) ?_
  refine XW.iadd eL_law_746 ?_
  refine XW.sload eL_law_747 (sc_2 hi hm) ?_
  refine XW.callV (As := [.int (C.2.2.2.1 (nI i + 1).toNatClampNeg), .int (C.2.2.2.1 (nI i + 2).toNatClampNeg)]) (st := [.int v]) eL_law_748 okX10_run cvL_81 rfl (so_69 hG1) hy (xnumG rfl rfl rfl rfl rfl (Nat.le_refl _) (Nat.le_refl _) n2 s2) ?_
  exact XW.icmp_eq eL_law_751 (fun _ => kk) (fun c => absurd rfl c)
theorem B_fate (hi : i + 6 ≤ C.2.2.1) (hm : C.2.2.1 ≤ 3072) (hG : SH G) (hx : XW l C mX9_fate 0 (xent mX9_fate [.ref 2, .int (C.2.2.2.1 (nI i + 1).toNatClampNeg), .int (C.2.2.2.1 (nI i + 2).toNatClampNeg)]) [] G I (some (.int v)) G1 I1) (hy : XW l C mX10_fate 0 (xent mX10_fate [.ref 69, .int (C.2.2.2.1 (nI i + 1).toNatClampNeg), .int (C.2.2.2.1 (nI i + 2).toNatClampNeg)]) [] G1 I1 (some (.int v)) G1 I2) (hG1 : SH G1) (n1 : gN G ≤ gN G1) (s1 : gS G ≤ gS G1) (n2 : gN G1 ≤ gN G2) (s2 : gS G1 ≤ gS G2) (kk : XW l C mL_law 999 [some (.ref 1), some (.ref 2), some (.ref 69), some (.int (nI i))] [] G1 I2 r G2 I3) : XW l C mL_law 756 [some (.ref 1), some (.ref 2), some (.ref 69), some (.int (nI i))] [] G I r G2 I3 := by
  refine XW.aload_n eL_law_756 rfl ?_
  refine XW.aload_n eL_law_757 rfl ?_
  refine XW.iload_n eL_law_758 rfl ?_
  refine XW.iconst (v := 1) eL_law_759 (by decide) ?_
  refine XW.iadd eL_law_760 ?_
  refine XW.sload eL_law_761 (sc_1 hi hm) ?_
  refine XW.aload_n eL_law_762 rfl ?_
  refine XW.iload_n eL_law_763 rfl ?_
  refine XW.iconst (v := 2) eL_law_764 (by decide) ?_
  refine XW.iadd eL_law_765 ?_
  refine XW.sload eL_law_766 (sc_2 hi hm) ?_
  refine XW.callV (As := [.int (C.2.2.2.1 (nI i + 1).toNatClampNeg), .int (C.2.2.2.1 (nI i + 2).toNatClampNeg)]) (st := []) eL_law_767 okX9_fate cvL_82 rfl (so_2 hG) hx (xnumG rfl rfl rfl rfl rfl n1 s1 n2 s2) ?_
  refine XW.aload_n eL_law_770 rfl ?_
  refine XW.aload_n eL_law_771 rfl ?_
  refine XW.iload_n eL_law_772 rfl ?_
  refine XW.iconst (v := 1) eL_law_773 (by decide) ?_
  refine XW.iadd eL_law_774 ?_
  refine XW.sload eL_law_775 (sc_1 hi hm) ?_
  refine XW.aload_n eL_law_776 rfl ?_
  refine XW.iload_n eL_law_777 rfl ?_
  refine XW.iconst (v := 2) eL_law_778 (by decide) ?_
  refine XW.iadd eL_law_779 ?_
  refine XW.sload eL_law_780 (sc_2 hi hm) ?_
  refine XW.callV (As := [.int (C.2.2.2.1 (nI i + 1).toNatClampNeg), .int (C.2.2.2.1 (nI i + 2).toNatClampNeg)]) (st := [.int v]) eL_law_781 okX10_fate cvL_85 rfl (so_69 hG1) hy (xnumG rfl rfl rfl rfl rfl (Nat.le_refl _) (Nat.le_refl _) n2 s2) ?_
  exact XW.icmp_eq eL_law_784 (fun _ => kk) (fun c => absurd rfl c)
theorem B_sum (hi : i + 6 ≤ C.2.2.1) (hm : C.2.2.1 ≤ 3072) (hG : SH G) (hx : XW l C mX9_sum 0 (xent mX9_sum [.ref 2, .int (C.2.2.2.1 (nI i + 1).toNatClampNeg), .int (C.2.2.2.1 (nI i + 2).toNatClampNeg)]) [] G I (some (.int v)) G1 I1) (hy : XW l C mX10_sum 0 (xent mX10_sum [.ref 69, .int (C.2.2.2.1 (nI i + 1).toNatClampNeg), .int (C.2.2.2.1 (nI i + 2).toNatClampNeg)]) [] G1 I1 (some (.int v)) G1 I2) (hG1 : SH G1) (n1 : gN G ≤ gN G1) (s1 : gS G ≤ gS G1) (n2 : gN G1 ≤ gN G2) (s2 : gS G1 ≤ gS G2) (kk : XW l C mL_law 999 [some (.ref 1), some (.ref 2), some (.ref 69), some (.int (nI i))] [] G1 I2 r G2 I3) : XW l C mL_law 789 [some (.ref 1), some (.ref 2), some (.ref 69), some (.int (nI i))] [] G I r G2 I3 := by
  refine XW.aload_n eL_law_789 rfl ?_
  refine XW.aload_n eL_law_790 rfl ?_
  refine XW.iload_n eL_law_791 rfl ?_
  refine XW.iconst (v := 1) eL_law_792 (by decide) ?_
  refine XW.iadd eL_law_793 ?_
  refine XW.sload eL_law_794 (sc_1 hi hm) ?_
  refine XW.aload_n eL_law_795 rfl ?_
  refine XW.iload_n eL_law_796 rfl ?_
  refine XW.iconst (v := 2) eL_law_797 (by decide) ?_
  refine XW.iadd eL_law_798 ?_
  refine XW.sload eL_law_799 (sc_2 hi hm) ?_
  refine XW.callV (As := [.int (C.2.2.2.1 (nI i + 1).toNatClampNeg), .int (C.2.2.2.1 (nI i + 2).toNatClampNeg)]) (st := []) eL_law_800 okX9_sum cvL_86 rfl (so_2 hG) hx (xnumG rfl rfl rfl rfl rfl n1 s1 n2 s2) ?_
  refine XW.aload_n eL_law_803 rfl ?_
  refine XW.aload_n eL_law_804 rfl ?_
  refine XW.iload_n eL_law_805 rfl ?_
  refine XW.iconst (v := 1) eL_law_806 (by decide) ?_
  refine XW.iadd eL_law_807 ?_
  refine XW.sload eL_law_808 (sc_1 hi hm) ?_
  refine XW.aload_n eL_law_809 rfl ?_
  refine XW.iload_n eL_law_810 rfl ?_
  refine XW.iconst (v := 2) eL_law_811 (by decide) ?_
  refine XW.iadd eL_law_812 ?_
  refine XW.sload eL_law_813 (sc_2 hi hm) ?_
  refine XW.callV (As := [.int (C.2.2.2.1 (nI i + 1).toNatClampNeg), .int (C.2.2.2.1 (nI i + 2).toNatClampNeg)]) (st := [.int v]) eL_law_814 okX10_sum cvL_89 rfl (so_69 hG1) hy (xnumG rfl rfl rfl rfl rfl (Nat.le_refl _) (Nat.le_refl _) n2 s2) ?_
  exact XW.icmp_eq eL_law_817 (fun _ => kk) (fun c => absurd rfl c)
theorem B_length (hi : i + 6 ≤ C.2.2.1) (hm : C.2.2.1 ≤ 3072) (hG : SH G) (hx : XW l C mX9_length 0 (xent mX9_length [.ref 2, .int (C.2.2.2.1 (nI i + 1).toNatClampNeg), .int (C.2.2.2.1 (nI i + 2).toNatClampNeg)]) [] G I (some (.int v)) G1 I1) (hy : XW l C mX10_length 0 (xent mX10_length [.ref 69, .int (C.2.2.2.1 (nI i + 1).toNatClampNeg), .int (C.2.2.2.1 (nI i + 2).toNatClampNeg)]) [] G1 I1 (some (.int v)) G1 I2) (hG1 : SH G1) (n1 : gN G ≤ gN G1) (s1 : gS G ≤ gS G1) (n2 : gN G1 ≤ gN G2) (s2 : gS G1 ≤ gS G2) (kk : XW l C mL_law 999 [some (.ref 1), some (.ref 2), some (.ref 69), some (.int (nI i))] [] G1 I2 r G2 I3) : XW l C mL_law 822 [some (.ref 1), some (.ref 2), some (.ref 69), some (.int (nI i))] [] G I r G2 I3 := by
  refine XW.aload_n eL_law_822 rfl ?_
  refine XW.aload_n eL_law_823 rfl ?_
  refine XW.iload_n eL_law_824 rfl ?_
  refine XW.iconst (v := 1) eL_law_825 (by decide) ?_
  refine XW.iadd eL_law_826 ?_
  refine XW.sload eL_law_827 (sc_1 hi hm) ?_
  refine XW.aload_n eL_law_828 rfl ?_
  refine XW.iload_n eL_law_829 rfl ?_
  refine XW.iconst (v := 2) eL_law_830 (by decide) ?_
  refine XW.iadd eL_law_831 ?_
  refine XW.sload eL_law_832 (sc_2 hi hm) ?_
  refine XW.callV (As := [.int (C.2.2.2.1 (nI i + 1).toNatClampNeg), .int (C.2.2.2.1 (nI i + 2).toNatClampNeg)]) (st := []) eL_law_833 okX9_length cvL_90 rfl (so_2 hG) hx (xnumG rfl rfl rfl rfl rfl n1 s1 n2 s2) ?_
  refine XW.aload_n eL_law_836 rfl ?_
  refine XW.aload_n eL_law_837 rfl ?_
  refine XW.iload_n eL_law_838 rfl ?_
  refine XW.iconst (v := 1) eL_law_839 (by decide) ?_
  refine XW.iadd eL_law_840 ?_
  refine XW.sload eL_law_841 (sc_1 hi hm) ?_
  refine XW.aload_n eL_law_842 rfl ?_
  refine XW.iload_n eL_law_843 rfl ?_
  refine XW.iconst (v := 2) eL_law_844 (by decide) ?_
  refine XW.iadd eL_law_845 ?_
  refine XW.sload eL_law_846 (sc_2 hi hm) ?_
  refine XW.callV (As := [.int (C.2.2.2.1 (nI i + 1).toNatClampNeg), .int (C.2.2.2.1 (nI i + 2).toNatClampNeg)]) (st := [.int v]) eL_law_847 okX10_length cvL_93 rfl (so_69 hG1) hy (xnumG rfl rfl rfl rfl rfl (Nat.le_refl _) (Nat.le_refl _) n2 s2) ?_
  exact XW.icmp_eq eL_law_850 (fun _ => kk) (fun c => absurd rfl c)
theorem B_ticks (hi : i + 6 ≤ C.2.2.1) (hm : C.2.2.1 ≤ 3072) (hG : SH G) (hx : XW l C mX9_ticks 0 (xent mX9_ticks [.ref 2]) [] G I (some (.int v)) G1 I1) (hy : XW l C mX10_ticks 0 (xent mX10_ticks [.ref 69]) [] G1 I1 (some (.int v)) G1 I2) (hG1 : SH G1) (n1 : gN G ≤ gN G1) (s1 : gS G ≤ gS G1) (n2 : gN G1 ≤ gN G2) (s2 : gS G1 ≤ gS G2) (kk : XW l C mL_law 999 [some (.ref 1), some (.ref 2), some (.ref 69), some (.int (nI i))] [] G1 I2 r G2 I3) : XW l C mL_law 855 [some (.ref 1), some (.ref 2), some (.ref 69), some (.int (nI i))] [] G I r G2 I3 := by
  refine XW.aload_n eL_law_855 rfl ?_
  refine XW.callV (As := []) (st := []) eL_law_856 okX9_ticks cvL_94 rfl (so_2 hG) hx (xnumG rfl rfl rfl rfl rfl n1 s1 n2 s2) ?_
  refine XW.aload_n eL_law_859 rfl ?_
  refine XW.callV (As := []) (st := [.int v]) eL_law_860 okX10_ticks cvL_98 rfl (so_69 hG1) hy (xnumG rfl rfl rfl rfl rfl (Nat.le_refl _) (Nat.le_refl _) n2 s2) ?_
  exact XW.icmp_eq eL_law_863 (fun _ => kk) (fun c => absurd rfl c)
theorem B_best (hi : i + 6 ≤ C.2.2.1) (hm : C.2.2.1 ≤ 3072) (hG : SH G) (hx : XW l C mX9_best 0 (xent mX9_best [.ref 2, .int (C.2.2.2.1 (nI i + 1).toNatClampNeg)]) [] G I (some (.int v)) G1 I1) (hy : XW l C mX10_best 0 (xent mX10_best [.ref 69, .int (C.2.2.2.1 (nI i + 1).toNatClampNeg)]) [] G1 I1 (some (.int v)) G1 I2) (hG1 : SH G1) (n1 : gN G ≤ gN G1) (s1 : gS G ≤ gS G1) (n2 : gN G1 ≤ gN G2) (s2 : gS G1 ≤ gS G2) (kk : XW l C mL_law 999 [some (.ref 1), some (.ref 2), some (.ref 69), some (.int (nI i))] [] G1 I2 r G2 I3) : XW l C mL_law 868 [some (.ref 1), some (.ref 2), some (.ref 69), some (.int (nI i))] [] G I r G2 I3 := by
  refine XW.aload_n eL_law_868 rfl ?_
  refine XW.aload_n eL_law_869 rfl ?_
  refine XW.iload_n eL_law_870 rfl ?_
  refine XW.iconst (v := 1) eL_law_871 (by decide) ?_
  refine XW.iadd eL_law_872 ?_
  refine XW.sload eL_law_873 (sc_1 hi hm) ?_
  refine XW.callV (As := [.int (C.2.2.2.1 (nI i + 1).toNatClampNeg)]) (st := []) eL_law_874 okX9_best cvL_99 rfl (so_2 hG) hx (xnumG rfl rfl rfl rfl rfl n1 s1 n2 s2) ?_
  refine XW.aload_n eL_law_877 rfl ?_
  refine XW.aload_n eL_law_878 rfl ?_
  refine XW.iload_n eL_law_879 rfl ?_
  refine XW.iconst (v := 1) eL_law_880 (by decide) ?_
  refine XW.iadd eL_law_881 ?_
  refine XW.sload eL_law_882 (sc_1 hi hm) ?_
  refine XW.callV (As := [.int (C.2.2.2.1 (nI i + 1).toNatClampNeg)]) (st := [.int v]) eL_law_883 okX10_best cvL_102 rfl (so_69 hG1) hy (xnumG rfl rfl rfl rfl rfl (Nat.le_refl _) (Nat.le_refl _) n2 s2) ?_
  exact XW.icmp_eq eL_law_886 (fun _ => kk) (fun c => absurd rfl c)
theorem B_shortBy (hi : i + 6 ≤ C.2.2.1) (hm : C.2.2.1 ≤ 3072) (hG : SH G) (hx : XW l C mX9_shortBy 0 (xent mX9_shortBy [.ref 2, .int (C.2.2.2.1 (nI i + 1).toNatClampNeg), .int (C.2.2.2.1 (nI i + 2).toNatClampNeg)]) [] G I (some (.int v)) G1 I1) (hy : XW l C mX10_shortBy 0 (xent mX10_shortBy [.ref 69, .int (C.2.2.2.1 (nI i + 1).toNatClampNeg), .int (C.2.2.2.1 (nI i + 2).toNatClampNeg)]) [] G1 I1 (some (.int v)) G1 I2) (hG1 : SH G1) (n1 : gN G ≤ gN G1) (s1 : gS G ≤ gS G1) (n2 : gN G1 ≤ gN G2) (s2 : gS G1 ≤ gS G2) (kk : XW l C mL_law 999 [some (.ref 1), some (.ref 2), some (.ref 69), some (.int (nI i))] [] G1 I2 r G2 I3) : XW l C mL_law 891 [some (.ref 1), some (.ref 2), some (.ref 69), some (.int (nI i))] [] G I r G2 I3 := by
  refine XW.aload_n eL_law_891 rfl ?_
  refine XW.aload_n eL_law_892 rfl ?_
  refine XW.iload_n eL_law_893 rfl ?_
  refine XW.iconst (v := 1) eL_law_894 (by decide) ?_
  refine XW.iadd eL_law_895 ?_
  refine XW.sload eL_law_896 (sc_1 hi hm) ?_
  refine XW.aload_n eL_law_897 rfl ?_
  refine XW.iload_n eL_law_898 rfl ?_
  refine XW.iconst (v := 2) eL_law_899 (by decide) ?_
  refine XW.iadd eL_law_900 ?_
  refine XW.sload eL_law_901 (sc_2 hi hm) ?_
  refine XW.callV (As := [.int (C.2.2.2.1 (nI i + 1).toNatClampNeg), .int (C.2.2.2.1 (nI i + 2).toNatClampNeg)]) (st := []) eL_law_902 okX9_shortBy cvL_103 rfl (so_2 hG) hx (xnumG rfl rfl rfl rfl rfl n1 s1 n2 s2) ?_
  refine XW.aload_n eL_law_905 rfl ?_
  refine XW.aload_n eL_law_906 rfl ?_
  refine XW.iload_n eL_law_907 rfl ?_
  refine XW.iconst (v := 1) eL_law_908 (by decide) ?_
  refine XW.iadd eL_law_909 ?_
  refine XW.sload eL_law_910 (sc_1 hi hm) ?_
  refine XW.aload_n eL_law_911 rfl ?_
  refine XW.iload_n eL_law_912 rfl ?_
  refine XW.iconst (v := 2) eL_law_913 (by decide) ?_
  refine XW.iadd eL_law_914 ?_
  refine XW.sload eL_law_915 (sc_2 hi hm) ?_
  refine XW.callV (As := [.int (C.2.2.2.1 (nI i + 1).toNatClampNeg), .int (C.2.2.2.1 (nI i + 2).toNatClampNeg)]) (st := [.int v]) eL_law_916 okX10_shortBy cvL_106 rfl (so_69 hG1) hy (xnumG rfl rfl rfl rfl rfl (Nat.le_refl _) (Nat.le_refl _) n2 s2) ?_
  exact XW.icmp_eq eL_law_919 (fun _ => kk) (fun c => absurd rfl c)
theorem B_marks (hi : i + 6 ≤ C.2.2.1) (hm : C.2.2.1 ≤ 3072) (hG : SH G) (hx : XW l C mX9_marks 0 (xent mX9_marks [.ref 2]) [] G I (some (.int v)) G1 I1) (hy : XW l C mX10_marks 0 (xent mX10_marks [.ref 69]) [] G1 I1 (some (.int v)) G1 I2) (hG1 : SH G1) (n1 : gN G ≤ gN G1) (s1 : gS G ≤ gS G1) (n2 : gN G1 ≤ gN G2) (s2 : gS G1 ≤ gS G2) (kk : XW l C mL_law 999 [some (.ref 1), some (.ref 2), some (.ref 69), some (.int (nI i))] [] G1 I2 r G2 I3) : XW l C mL_law 973 [some (.ref 1), some (.ref 2), some (.ref 69), some (.int (nI i))] [] G I r G2 I3 := by
  refine XW.aload_n eL_law_973 rfl ?_
  refine XW.callV (As := []) (st := []) eL_law_974 okX9_marks cvL_112 rfl (so_2 hG) hx (xnumG rfl rfl rfl rfl rfl n1 s1 n2 s2) ?_
  refine XW.aload_n eL_law_977 rfl ?_
  refine XW.callV (As := []) (st := [.int v]) eL_law_978 okX10_marks cvL_115 rfl (so_69 hG1) hy (xnumG rfl rfl rfl rfl rfl (Nat.le_refl _) (Nat.le_refl _) n2 s2) ?_
  exact XW.icmp_eq eL_law_981 (fun _ => kk) (fun c => absurd rfl c)
theorem B_witness (hi : i + 6 ≤ C.2.2.1) (hm : C.2.2.1 ≤ 3072) (hG : SH G) (hx : XW l C mX9_witness 0 (xent mX9_witness [.ref 2]) [] G I (some (.int v)) G1 I1) (hy : XW l C mX10_witness 0 (xent mX10_witness [.ref 69]) [] G1 I1 (some (.int v)) G1 I2) (hG1 : SH G1) (n1 : gN G ≤ gN G1) (s1 : gS G ≤ gS G1) (n2 : gN G1 ≤ gN G2) (s2 : gS G1 ≤ gS G2) (kk : XW l C mL_law 999 [some (.ref 1), some (.ref 2), some (.ref 69), some (.int (nI i))] [] G1 I2 r G2 I3) : XW l C mL_law 986 [some (.ref 1), some (.ref 2), some (.ref 69), some (.int (nI i))] [] G I r G2 I3 := by
  refine XW.aload_n eL_law_986 rfl ?_
  refine XW.callV (As := []) (st := []) eL_law_987 okX9_witness cvL_116 rfl (so_2 hG) hx (xnumG rfl rfl rfl rfl rfl n1 s1 n2 s2) ?_
  refine XW.aload_n eL_law_990 rfl ?_
  refine XW.callV (As := []) (st := [.int v]) eL_law_991 okX10_witness cvL_119 rfl (so_69 hG1) hy (xnumG rfl rfl rfl rfl rfl (Nat.le_refl _) (Nat.le_refl _) n2 s2) ?_
  exact XW.icmp_eq eL_law_994 (fun _ => kk) (fun c => absurd rfl c)
theorem B_pass3 {b : Int32} (b0 : (C.2.2.2.1 (nI i + 2).toNatClampNeg) = 0 → b = 0) (b1 : ¬ (C.2.2.2.1 (nI i + 2).toNatClampNeg) = 0 → b = 1) (hi : i + 6 ≤ C.2.2.1) (hm : C.2.2.1 ≤ 3072) (hG : SH G) (hx : XW l C mX9_pass 0 (xent mX9_pass [.ref 2, .int (C.2.2.2.1 (nI i + 1).toNatClampNeg), .int b]) [] G I (some (.int v)) G1 I1) (hy : XW l C mX10_pass 0 (xent mX10_pass [.ref 69, .int (C.2.2.2.1 (nI i + 1).toNatClampNeg), .int b]) [] G1 I1 (some (.int v)) G1 I2) (hG1 : SH G1) (n1 : gN G ≤ gN G1) (s1 : gS G ≤ gS G1) (n2 : gN G1 ≤ gN G2) (s2 : gS G1 ≤ gS G2) (kk : XW l C mL_law 999 [some (.ref 1), some (.ref 2), some (.ref 69), some (.int (nI i))] [] G1 I2 r G2 I3) : XW l C mL_law 965 [some (.ref 1), some (.ref 2), some (.ref 69), some (.int (nI i))] [.int b, .int (C.2.2.2.1 (nI i + 1).toNatClampNeg), .ref 69, .int v] G1 I1 r G2 I3 := by
  refine XW.callV (As := [.int (C.2.2.2.1 (nI i + 1).toNatClampNeg), .int b]) (st := [.int v]) eL_law_965 okX10_pass cvL_111 rfl (so_69 hG1) hy (xnumG rfl rfl rfl rfl rfl (Nat.le_refl _) (Nat.le_refl _) n2 s2) ?_
  exact XW.icmp_eq eL_law_968 (fun _ => kk) (fun c => absurd rfl c)
theorem B_pass2 {b : Int32} (b0 : (C.2.2.2.1 (nI i + 2).toNatClampNeg) = 0 → b = 0) (b1 : ¬ (C.2.2.2.1 (nI i + 2).toNatClampNeg) = 0 → b = 1) (hi : i + 6 ≤ C.2.2.1) (hm : C.2.2.1 ≤ 3072) (hG : SH G) (hx : XW l C mX9_pass 0 (xent mX9_pass [.ref 2, .int (C.2.2.2.1 (nI i + 1).toNatClampNeg), .int b]) [] G I (some (.int v)) G1 I1) (hy : XW l C mX10_pass 0 (xent mX10_pass [.ref 69, .int (C.2.2.2.1 (nI i + 1).toNatClampNeg), .int b]) [] G1 I1 (some (.int v)) G1 I2) (hG1 : SH G1) (n1 : gN G ≤ gN G1) (s1 : gS G ≤ gS G1) (n2 : gN G1 ≤ gN G2) (s2 : gS G1 ≤ gS G2) (kk : XW l C mL_law 999 [some (.ref 1), some (.ref 2), some (.ref 69), some (.int (nI i))] [] G1 I2 r G2 I3) : XW l C mL_law 943 [some (.ref 1), some (.ref 2), some (.ref 69), some (.int (nI i))] [.int b, .int (C.2.2.2.1 (nI i + 1).toNatClampNeg), .ref 2] G I r G2 I3 := by
  refine XW.callV (As := [.int (C.2.2.2.1 (nI i + 1).toNatClampNeg), .int b]) (st := []) eL_law_943 okX9_pass cvL_107 rfl (so_2 hG) hx (xnumG rfl rfl rfl rfl rfl n1 s1 n2 s2) ?_
  refine XW.aload_n eL_law_946 rfl ?_
  refine XW.aload_n eL_law_947 rfl ?_
  refine XW.iload_n eL_law_948 rfl ?_
  refine XW.iconst (v := 1) eL_law_949 (by decide) ?_
  refine XW.iadd eL_law_950 ?_
  refine XW.sload eL_law_951 (sc_1 hi hm) ?_
  refine XW.aload_n eL_law_952 rfl ?_
  refine XW.iload_n eL_law_953 rfl ?_
  refine XW.iconst (v := 2) eL_law_954 (by decide) ?_
  refine XW.iadd eL_law_955 ?_
  refine XW.sload eL_law_956 (sc_2 hi hm) ?_
  refine XW.if_eq eL_law_957 (fun c => ?_) (fun c => ?_)
  · refine XW.iconst (v := 0) eL_law_964 (by decide) ?_
    have e := b0 c
    have z := B_pass3 b0 b1 hi hm hG hx hy hG1 n1 s1 n2 s2 kk
    rw [e] at z
    exact z
  · refine XW.iconst (v := 1) eL_law_960 (by decide) ?_
    refine XW.goto eL_law_961 ?_
    have e := b1 c
    have z := B_pass3 b0 b1 hi hm hG hx hy hG1 n1 s1 n2 s2 kk
    rw [e] at z
    exact z
theorem B_pass {b : Int32} (b0 : (C.2.2.2.1 (nI i + 2).toNatClampNeg) = 0 → b = 0) (b1 : ¬ (C.2.2.2.1 (nI i + 2).toNatClampNeg) = 0 → b = 1) (hi : i + 6 ≤ C.2.2.1) (hm : C.2.2.1 ≤ 3072) (hG : SH G) (hx : XW l C mX9_pass 0 (xent mX9_pass [.ref 2, .int (C.2.2.2.1 (nI i + 1).toNatClampNeg), .int b]) [] G I (some (.int v)) G1 I1) (hy : XW l C mX10_pass 0 (xent mX10_pass [.ref 69, .int (C.2.2.2.1 (nI i + 1).toNatClampNeg), .int b]) [] G1 I1 (some (.int v)) G1 I2) (hG1 : SH G1) (n1 : gN G ≤ gN G1) (s1 : gS G ≤ gS G1) (n2 : gN G1 ≤ gN G2) (s2 : gS G1 ≤ gS G2) (kk : XW l C mL_law 999 [some (.ref 1), some (.ref 2), some (.ref 69), some (.int (nI i))] [] G1 I2 r G2 I3) : XW l C mL_law 924 [some (.ref 1), some (.ref 2), some (.ref 69), some (.int (nI i))] [] G I r G2 I3 := by
  refine XW.aload_n eL_law_924 rfl ?_
  refine XW.aload_n eL_law_925 rfl ?_
  refine XW.iload_n eL_law_926 rfl ?_
  refine XW.iconst (v := 1) eL_law_927 (by decide) ?_
  refine XW.iadd eL_law_928 ?_
  refine XW.sload eL_law_929 (sc_1 hi hm) ?_
  refine XW.aload_n eL_law_930 rfl ?_
  refine XW.iload_n eL_law_931 rfl ?_
  refine XW.iconst (v := 2) eL_law_932 (by decide) ?_
  refine XW.iadd eL_law_933 ?_
  refine XW.sload eL_law_934 (sc_2 hi hm) ?_
  refine XW.if_eq eL_law_935 (fun c => ?_) (fun c => ?_)
  · refine XW.iconst (v := 0) eL_law_942 (by decide) ?_
    have e := b0 c
    have z := B_pass2 b0 b1 hi hm hG hx hy hG1 n1 s1 n2 s2 kk
    rw [e] at z
    exact z
  · refine XW.iconst (v := 1) eL_law_938 (by decide) ?_
    refine XW.goto eL_law_939 ?_
    have e := b1 c
    have z := B_pass2 b0 b1 hi hm hG hx hy hG1 n1 s1 n2 s2 kk
    rw [e] at z
    exact z
set_option maxHeartbeats 4000000 in
set_option maxRecDepth 100000 in
theorem Lloop (hm : C.2.2.1 ≤ 3072) : ∀ (k i : Nat) (G : xG) (I : xI), REL G I → C.2.2.1 < i + 6 * k + 6 → i ≤ 4000 → ∃ G1 I1, XW l C mL_law 18 [some (.ref 1), some (.ref 2), some (.ref 69), some (.int (nI i))] [] G I (some (.int 1)) G1 I1 ∧ gN G ≤ gN G1 ∧ gS G ≤ gS G1 ∧ gN G1 ≤ gN G + 2 * k ∧ gS G1 ≤ gS G + 165 * k := by
  intro k
  induction k with
  | zero => intro i G I h h1 h2; exact ⟨G, I, Lexit (by omega) hm h2, Nat.le_refl _, Nat.le_refl _, by omega, by omega⟩
  | succ k ih =>
    intro i G I h h1 h2
    by_cases hi : i + 6 ≤ C.2.2.1
    rotate_left
    · exact ⟨G, I, Lexit hi hm h2, Nat.le_refl _, Nat.le_refl _, by omega, by omega⟩
    obtain ⟨j, hj, ej⟩ := pk_andE (C.2.2.2.1 (nI i).toNatClampNeg) (m := 31) 5 (by decide)
    have h32 : j < 32 := hj
    rcases (show j = 0 ∨ j = 1 ∨ j = 2 ∨ j = 3 ∨ j = 4 ∨ j = 5 ∨ j = 6 ∨ j = 7 ∨ j = 8 ∨ j = 9 ∨ j = 10 ∨ j = 11 ∨ j = 12 ∨ j = 13 ∨ j = 14 ∨ j = 15 ∨ j = 16 ∨ j = 17 ∨ j = 18 ∨ j = 19 ∨ j = 20 ∨ j = 21 ∨ j = 22 ∨ j = 23 ∨ j = 24 ∨ 25 ≤ j by omega) with rfl | rfl | rfl | rfl | rfl | rfl | rfl | rfl | rfl | rfl | rfl | rfl | rfl | rfl | rfl | rfl | rfl | rfl | rfl | rfl | rfl | rfl | rfl | rfl | rfl | hj25
    · obtain ⟨v, G1, I1, I2, hx, hy, hr, n1, s1, m1, m2⟩ := EQ_room (l := l) (C := C) h (C.2.2.2.1 (nI i + 1).toNatClampNeg)
      obtain ⟨G2, I3, hw, p1, p2, p3, p4⟩ := ih (i + 6) G1 I2 hr (by omega) (by omega)
      exact ⟨G2, I3, Lhead hi hm ej (XW.tabIn (off := 115) (tgt := 148) dL_law_33 (by decide) (by decide) (by decide) (by decide) (B_room hi hm h.1 hx hy hr.1 n1 s1 p1 p2 (L999 hw))), by omega, by omega, by omega, by omega⟩
    · obtain ⟨v, G1, I1, I2, hx, hy, hr, n1, s1, m1, m2⟩ := EQ_line (l := l) (C := C) h (C.2.2.2.1 (nI i + 1).toNatClampNeg) (C.2.2.2.1 (nI i + 2).toNatClampNeg)
      obtain ⟨G2, I3, hw, p1, p2, p3, p4⟩ := ih (i + 6) G1 I2 hr (by omega) (by omega)
      exact ⟨G2, I3, Lhead hi hm ej (XW.tabIn (off := 138) (tgt := 171) dL_law_33 (by decide) (by decide) (by decide) (by decide) (B_line hi hm h.1 hx hy hr.1 n1 s1 p1 p2 (L999 hw))), by omega, by omega, by omega, by omega⟩
    · obtain ⟨v, G1, I1, I2, hx, hy, hr, n1, s1, m1, m2⟩ := EQ_mark (l := l) (C := C) h (C.2.2.2.1 (nI i + 1).toNatClampNeg) (C.2.2.2.1 (nI i + 2).toNatClampNeg)
      obtain ⟨G2, I3, hw, p1, p2, p3, p4⟩ := ih (i + 6) G1 I2 hr (by omega) (by omega)
      exact ⟨G2, I3, Lhead hi hm ej (XW.tabIn (off := 171) (tgt := 204) dL_law_33 (by decide) (by decide) (by decide) (by decide) (B_mark hi hm h.1 hx hy hr.1 n1 s1 p1 p2 (L999 hw))), by omega, by omega, by omega, by omega⟩
    · obtain ⟨v, G1, I1, I2, hx, hy, hr, n1, s1, m1, m2⟩ := EQ_pace (l := l) (C := C) h (C.2.2.2.1 (nI i + 1).toNatClampNeg) (C.2.2.2.1 (nI i + 2).toNatClampNeg)
      obtain ⟨G2, I3, hw, p1, p2, p3, p4⟩ := ih (i + 6) G1 I2 hr (by omega) (by omega)
      exact ⟨G2, I3, Lhead hi hm ej (XW.tabIn (off := 204) (tgt := 237) dL_law_33 (by decide) (by decide) (by decide) (by decide) (B_pace hi hm h.1 hx hy hr.1 n1 s1 p1 p2 (L999 hw))), by omega, by omega, by omega, by omega⟩
    · obtain ⟨v, G1, I1, I2, hx, hy, hr, n1, s1, m1, m2⟩ := EQ_part (l := l) (C := C) h (C.2.2.2.1 (nI i + 1).toNatClampNeg) (C.2.2.2.1 (nI i + 2).toNatClampNeg)
      obtain ⟨G2, I3, hw, p1, p2, p3, p4⟩ := ih (i + 6) G1 I2 hr (by omega) (by omega)
      exact ⟨G2, I3, Lhead hi hm ej (XW.tabIn (off := 237) (tgt := 270) dL_law_33 (by decide) (by decide) (by decide) (by decide) (B_part hi hm h.1 hx hy hr.1 n1 s1 p1 p2 (L999 hw))), by omega, by omega, by omega, by omega⟩
    · obtain ⟨v, G1, I1, I2, hx, hy, hr, n1, s1, m1, m2⟩ := EQ_hold (l := l) (C := C) h (C.2.2.2.1 (nI i + 1).toNatClampNeg) (C.2.2.2.1 (nI i + 2).toNatClampNeg) (C.2.2.2.1 (nI i + 3).toNatClampNeg) (C.2.2.2.1 (nI i + 4).toNatClampNeg)
      obtain ⟨G2, I3, hw, p1, p2, p3, p4⟩ := ih (i + 6) G1 I2 hr (by omega) (by omega)
      exact ⟨G2, I3, Lhead hi hm ej (XW.tabIn (off := 270) (tgt := 303) dL_law_33 (by decide) (by decide) (by decide) (by decide) (B_hold hi hm h.1 hx hy hr.1 n1 s1 p1 p2 (L999 hw))), by omega, by omega, by omega, by omega⟩
    · obtain ⟨v, G1, I1, I2, hx, hy, hr, n1, s1, m1, m2⟩ := EQ_told (l := l) (C := C) h (C.2.2.2.1 (nI i + 1).toNatClampNeg) (C.2.2.2.1 (nI i + 2).toNatClampNeg)
      obtain ⟨G2, I3, hw, p1, p2, p3, p4⟩ := ih (i + 6) G1 I2 hr (by omega) (by omega)
      exact ⟨G2, I3, Lhead hi hm ej (XW.tabIn (off := 323) (tgt := 356) dL_law_33 (by decide) (by decide) (by decide) (by decide) (B_told hi hm h.1 hx hy hr.1 n1 s1 p1 p2 (L999 hw))), by omega, by omega, by omega, by omega⟩
    · obtain ⟨v, G1, I1, I2, hx, hy, hr, n1, s1, m1, m2⟩ := EQ_share (l := l) (C := C) h (C.2.2.2.1 (nI i + 1).toNatClampNeg)
      obtain ⟨G2, I3, hw, p1, p2, p3, p4⟩ := ih (i + 6) G1 I2 hr (by omega) (by omega)
      exact ⟨G2, I3, Lhead hi hm ej (XW.tabIn (off := 356) (tgt := 389) dL_law_33 (by decide) (by decide) (by decide) (by decide) (B_share hi hm h.1 hx hy hr.1 n1 s1 p1 p2 (L999 hw))), by omega, by omega, by omega, by omega⟩
    · obtain ⟨v, G1, I1, I2, hx, hy, hr, n1, s1, m1, m2⟩ := EQ_sheet (l := l) (C := C) h (C.2.2.2.1 (nI i + 1).toNatClampNeg) (C.2.2.2.1 (nI i + 2).toNatClampNeg) (C.2.2.2.1 (nI i + 3).toNatClampNeg)
      obtain ⟨G2, I3, hw, p1, p2, p3, p4⟩ := ih (i + 6) G1 I2 hr (by omega) (by omega)
      exact ⟨G2, I3, Lhead hi hm ej (XW.tabIn (off := 379) (tgt := 412) dL_law_33 (by decide) (by decide) (by decide) (by decide) (B_sheet hi hm h.1 hx hy hr.1 n1 s1 p1 p2 (L999 hw))), by omega, by omega, by omega, by omega⟩
    · obtain ⟨v, G1, I1, I2, hx, hy, hr, n1, s1, m1, m2⟩ := EQ_drop (l := l) (C := C) h (C.2.2.2.1 (nI i + 1).toNatClampNeg)
      obtain ⟨G2, I3, hw, p1, p2, p3, p4⟩ := ih (i + 6) G1 I2 hr (by omega) (by omega)
      exact ⟨G2, I3, Lhead hi hm ej (XW.tabIn (off := 422) (tgt := 455) dL_law_33 (by decide) (by decide) (by decide) (by decide) (B_drop hi hm h.1 hx hy hr.1 n1 s1 p1 p2 (L999 hw))), by omega, by omega, by omega, by omega⟩
    · obtain ⟨v, G1, I1, I2, hx, hy, hr, n1, s1, m1, m2⟩ := EQ_item (l := l) (C := C) h (C.2.2.2.1 (nI i + 1).toNatClampNeg) (C.2.2.2.1 (nI i + 2).toNatClampNeg) (C.2.2.2.1 (nI i + 3).toNatClampNeg) (C.2.2.2.1 (nI i + 4).toNatClampNeg)
      obtain ⟨G2, I3, hw, p1, p2, p3, p4⟩ := ih (i + 6) G1 I2 hr (by omega) (by omega)
      exact ⟨G2, I3, Lhead hi hm ej (XW.tabIn (off := 445) (tgt := 478) dL_law_33 (by decide) (by decide) (by decide) (by decide) (B_item hi hm h.1 hx hy hr.1 n1 s1 p1 p2 (L999 hw))), by omega, by omega, by omega, by omega⟩
    · obtain ⟨v, G1, I1, I2, hx, hy, hr, n1, s1, m1, m2⟩ := EQ_copy (l := l) (C := C) h (C.2.2.2.1 (nI i + 1).toNatClampNeg) (C.2.2.2.1 (nI i + 2).toNatClampNeg) (C.2.2.2.1 (nI i + 3).toNatClampNeg) (C.2.2.2.1 (nI i + 4).toNatClampNeg) (C.2.2.2.1 (nI i + 5).toNatClampNeg)
      obtain ⟨G2, I3, hw, p1, p2, p3, p4⟩ := ih (i + 6) G1 I2 hr (by omega) (by omega)
      exact ⟨G2, I3, Lhead hi hm ej (XW.tabIn (off := 498) (tgt := 531) dL_law_33 (by decide) (by decide) (by decide) (by decide) (B_copy hi hm h.1 hx hy hr.1 n1 s1 p1 p2 (L999 hw))), by omega, by omega, by omega, by omega⟩
    · obtain ⟨v, G1, I1, I2, hx, hy, hr, n1, s1, m1, m2⟩ := EQ_letters (l := l) (C := C) h (C.2.2.2.1 (nI i + 1).toNatClampNeg) (C.2.2.2.1 (nI i + 2).toNatClampNeg) (C.2.2.2.1 (nI i + 3).toNatClampNeg) (C.2.2.2.1 (nI i + 4).toNatClampNeg) (C.2.2.2.1 (nI i + 5).toNatClampNeg)
      obtain ⟨G2, I3, hw, p1, p2, p3, p4⟩ := ih (i + 6) G1 I2 hr (by omega) (by omega)
      exact ⟨G2, I3, Lhead hi hm ej (XW.tabIn (off := 561) (tgt := 594) dL_law_33 (by decide) (by decide) (by decide) (by decide) (B_letters hi hm h.1 hx hy hr.1 n1 s1 p1 p2 (L999 hw))), by omega, by omega, by omega, by omega⟩
    · obtain ⟨v, G1, I1, I2, hx, hy, hr, n1, s1, m1, m2⟩ := EQ_clear (l := l) (C := C) h (C.2.2.2.1 (nI i + 1).toNatClampNeg)
      obtain ⟨G2, I3, hw, p1, p2, p3, p4⟩ := ih (i + 6) G1 I2 hr (by omega) (by omega)
      exact ⟨G2, I3, Lhead hi hm ej (XW.tabIn (off := 624) (tgt := 657) dL_law_33 (by decide) (by decide) (by decide) (by decide) (B_clear hi hm h.1 hx hy hr.1 n1 s1 p1 p2 (L999 hw))), by omega, by omega, by omega, by omega⟩
    · obtain ⟨v, G1, I1, I2, hx, hy, hr, n1, s1, m1, m2⟩ := EQ_letter (l := l) (C := C) h (C.2.2.2.1 (nI i + 1).toNatClampNeg) (C.2.2.2.1 (nI i + 2).toNatClampNeg) (C.2.2.2.1 (nI i + 3).toNatClampNeg)
      obtain ⟨G2, I3, hw, p1, p2, p3, p4⟩ := ih (i + 6) G1 I2 hr (by omega) (by omega)
      exact ⟨G2, I3, Lhead hi hm ej (XW.tabIn (off := 647) (tgt := 680) dL_law_33 (by decide) (by decide) (by decide) (by decide) (B_letter hi hm h.1 hx hy hr.1 n1 s1 p1 p2 (L999 hw))), by omega, by omega, by omega, by omega⟩
    · obtain ⟨v, G1, I1, I2, hx, hy, hr, n1, s1, m1, m2⟩ := EQ_run (l := l) (C := C) h (C.2.2.2.1 (nI i + 1).toNatClampNeg) (C.2.2.2.1 (nI i + 2).toNatClampNeg)
      obtain ⟨G2, I3, hw, p1, p2, p3, p4⟩ := ih (i + 6) G1 I2 hr (by omega) (by omega)
      exact ⟨G2, I3, Lhead hi hm ej (XW.tabIn (off := 690) (tgt := 723) dL_law_33 (by decide) (by decide) (by decide) (by decide) (B_run hi hm h.1 hx hy hr.1 n1 s1 p1 p2 (L999 hw))), by omega, by omega, by omega, by omega⟩
    · obtain ⟨v, G1, I1, I2, hx, hy, hr, n1, s1, m1, m2⟩ := EQ_fate (l := l) (C := C) h (C.2.2.2.1 (nI i + 1).toNatClampNeg) (C.2.2.2.1 (nI i + 2).toNatClampNeg)
      obtain ⟨G2, I3, hw, p1, p2, p3, p4⟩ := ih (i + 6) G1 I2 hr (by omega) (by omega)
      exact ⟨G2, I3, Lhead hi hm ej (XW.tabIn (off := 723) (tgt := 756) dL_law_33 (by decide) (by decide) (by decide) (by decide) (B_fate hi hm h.1 hx hy hr.1 n1 s1 p1 p2 (L999 hw))), by omega, by omega, by omega, by omega⟩
    · obtain ⟨v, G1, I1, I2, hx, hy, hr, n1, s1, m1, m2⟩ := EQ_sum (l := l) (C := C) h (C.2.2.2.1 (nI i + 1).toNatClampNeg) (C.2.2.2.1 (nI i + 2).toNatClampNeg)
      obtain ⟨G2, I3, hw, p1, p2, p3, p4⟩ := ih (i + 6) G1 I2 hr (by omega) (by omega)
      exact ⟨G2, I3, Lhead hi hm ej (XW.tabIn (off := 756) (tgt := 789) dL_law_33 (by decide) (by decide) (by decide) (by decide) (B_sum hi hm h.1 hx hy hr.1 n1 s1 p1 p2 (L999 hw))), by omega, by omega, by omega, by omega⟩
    · obtain ⟨v, G1, I1, I2, hx, hy, hr, n1, s1, m1, m2⟩ := EQ_length (l := l) (C := C) h (C.2.2.2.1 (nI i + 1).toNatClampNeg) (C.2.2.2.1 (nI i + 2).toNatClampNeg)
      obtain ⟨G2, I3, hw, p1, p2, p3, p4⟩ := ih (i + 6) G1 I2 hr (by omega) (by omega)
      exact ⟨G2, I3, Lhead hi hm ej (XW.tabIn (off := 789) (tgt := 822) dL_law_33 (by decide) (by decide) (by decide) (by decide) (B_length hi hm h.1 hx hy hr.1 n1 s1 p1 p2 (L999 hw))), by omega, by omega, by omega, by omega⟩
    · obtain ⟨v, G1, I1, I2, hx, hy, hr, n1, s1, m1, m2⟩ := EQ_ticks (l := l) (C := C) h 
      obtain ⟨G2, I3, hw, p1, p2, p3, p4⟩ := ih (i + 6) G1 I2 hr (by omega) (by omega)
      exact ⟨G2, I3, Lhead hi hm ej (XW.tabIn (off := 822) (tgt := 855) dL_law_33 (by decide) (by decide) (by decide) (by decide) (B_ticks hi hm h.1 hx hy hr.1 n1 s1 p1 p2 (L999 hw))), by omega, by omega, by omega, by omega⟩
    · obtain ⟨v, G1, I1, I2, hx, hy, hr, n1, s1, m1, m2⟩ := EQ_best (l := l) (C := C) h (C.2.2.2.1 (nI i + 1).toNatClampNeg)
      obtain ⟨G2, I3, hw, p1, p2, p3, p4⟩ := ih (i + 6) G1 I2 hr (by omega) (by omega)
      exact ⟨G2, I3, Lhead hi hm ej (XW.tabIn (off := 835) (tgt := 868) dL_law_33 (by decide) (by decide) (by decide) (by decide) (B_best hi hm h.1 hx hy hr.1 n1 s1 p1 p2 (L999 hw))), by omega, by omega, by omega, by omega⟩
    · obtain ⟨v, G1, I1, I2, hx, hy, hr, n1, s1, m1, m2⟩ := EQ_shortBy (l := l) (C := C) h (C.2.2.2.1 (nI i + 1).toNatClampNeg) (C.2.2.2.1 (nI i + 2).toNatClampNeg)
      obtain ⟨G2, I3, hw, p1, p2, p3, p4⟩ := ih (i + 6) G1 I2 hr (by omega) (by omega)
      exact ⟨G2, I3, Lhead hi hm ej (XW.tabIn (off := 858) (tgt := 891) dL_law_33 (by decide) (by decide) (by decide) (by decide) (B_shortBy hi hm h.1 hx hy hr.1 n1 s1 p1 p2 (L999 hw))), by omega, by omega, by omega, by omega⟩
    · obtain ⟨b, b0, b1, hb⟩ : ∃ b : Int32, ((C.2.2.2.1 (nI i + 2).toNatClampNeg) = 0 → b = 0) ∧ (¬ (C.2.2.2.1 (nI i + 2).toNatClampNeg) = 0 → b = 1) ∧ (b = 0 ∨ b = 1) := by
        by_cases c : (C.2.2.2.1 (nI i + 2).toNatClampNeg) = 0
        · exact ⟨0, fun _ => rfl, fun q => absurd c q, Or.inl rfl⟩
        · exact ⟨1, fun q => absurd q c, fun _ => rfl, Or.inr rfl⟩
      obtain ⟨v, G1, I1, I2, hx, hy, hr, n1, s1, m1, m2⟩ := EQ_pass (l := l) (C := C) h (C.2.2.2.1 (nI i + 1).toNatClampNeg) b hb
      obtain ⟨G2, I3, hw, p1, p2, p3, p4⟩ := ih (i + 6) G1 I2 hr (by omega) (by omega)
      exact ⟨G2, I3, Lhead hi hm ej (XW.tabIn (off := 891) (tgt := 924) dL_law_33 (by decide) (by decide) (by decide) (by decide) (B_pass b0 b1 hi hm h.1 hx hy hr.1 n1 s1 p1 p2 (L999 hw))), by omega, by omega, by omega, by omega⟩
    · obtain ⟨v, G1, I1, I2, hx, hy, hr, n1, s1, m1, m2⟩ := EQ_marks (l := l) (C := C) h 
      obtain ⟨G2, I3, hw, p1, p2, p3, p4⟩ := ih (i + 6) G1 I2 hr (by omega) (by omega)
      exact ⟨G2, I3, Lhead hi hm ej (XW.tabIn (off := 940) (tgt := 973) dL_law_33 (by decide) (by decide) (by decide) (by decide) (B_marks hi hm h.1 hx hy hr.1 n1 s1 p1 p2 (L999 hw))), by omega, by omega, by omega, by omega⟩
    · obtain ⟨v, G1, I1, I2, hx, hy, hr, n1, s1, m1, m2⟩ := EQ_witness (l := l) (C := C) h 
      obtain ⟨G2, I3, hw, p1, p2, p3, p4⟩ := ih (i + 6) G1 I2 hr (by omega) (by omega)
      exact ⟨G2, I3, Lhead hi hm ej (XW.tabIn (off := 953) (tgt := 986) dL_law_33 (by decide) (by decide) (by decide) (by decide) (B_witness hi hm h.1 hx hy hr.1 n1 s1 p1 p2 (L999 hw))), by omega, by omega, by omega, by omega⟩
    · obtain ⟨G2, I3, hw, p1, p2, p3, p4⟩ := ih (i + 6) G I h (by omega) (by omega)
      exact ⟨G2, I3, Lhead hi hm ej (XW.tabOut (tgt := 999) dL_law_33 (Or.inr (by rw [nI_toInt (by omega)]; omega)) (by decide) (L999 hw)), by omega, by omega, by omega, by omega⟩
theorem law_run (hm : C.2.2.1 ≤ 3072) : ∃ G1 I1, gN G1 ≤ 600002 ∧ gS G1 ≤ 7302250 ∧ XW l C mL_law 0 (xent mL_law [.ref 1]) [] xG0 xI0 (some (.int 1)) G1 I1 := by
  obtain ⟨G1, I1, hw, p1, p2, p3, p4⟩ := Lloop (l := l) (C := C) hm 512 0 K203 J117 REL_made (by omega) (by omega)
  rw [made_N] at p3
  rw [made_S] at p4
  exact ⟨G1, I1, by omega, by omega, W_law p1 p2 hw⟩
end LAW
