/-! sheet alike -/
section EQs2
variable {l : Launch} {C : xC} {G : xG} {I : xI}
theorem LbeginRow (hG : SH G) {u : Nat} (hu : TSh G u) (J : xI) (x1 x2 : Int32) : ∀ (k i : Nat), i ≤ 160 → 160 < i + k → XF fV l C mX7_beginRow 17 [some (.ref u), some (.int x1), some (.int x2), some (.int (nI i))] [] G (wA J (u + 1) (zr (J (u + 1)) 0 i)) (fun _ I' => I' = wA J (u + 1) (zr (J (u + 1)) 0 160)) := by
  intro k
  induction k with
  | zero => intro i h1 h2; exact absurd h2 (by omega)
  | succ k ih =>
    intro i h1 h2
    refine VX7_beginRow_17 hG hu _ x1 x2 (nI i) (pk_le 160 i (fun hle => ?_) (fun hlt => ?_) rfl rfl)
    · have : i = 160 := by omega
      subst this
      rfl
    · refine ⟨vp_in_nI (by omega) (by omega), ?_⟩
      refine XF.to (ih (i + 1) (by omega) (by omega)) (by rw [nI_1]) rfl ?_
      rw [nI_clamp (by omega), wI_wA, ← zr_succ, Nat.zero_add]
theorem ZbeginRow (hG : SH G) {u : Nat} (hu : TSh G u) (I : xI) (y1 y2 : Int32) : XF fV l C mX7_beginRow 0 (xent mX7_beginRow [.ref u, .int y1, .int y2]) [] G I (fun _ I' => I' = wA (wI (wI (wI I u 2 1) u 0 y1) u 3 y2) (u + 1) (zr (I (u + 1)) 0 160)) := by
  refine VX7_beginRow hG hu I y1 y2 ?_
  have e : (wI (wI (wI I u 2 1) u 0 y1) u 3 y2) (u + 1) = I (u + 1) := by rw [wI_ne _ _ _ (by omega), wI_ne _ _ _ (by omega), wI_ne _ _ _ (by omega)]
  have q := LbeginRow (l := l) (C := C) hG hu (wI (wI (wI I u 2 1) u 0 y1) u 3 y2) y1 y2 161 0 (by omega) (by omega)
  rw [e] at q
  exact XF.to q rfl rfl (by rw [zr_0, ← e, wA_self])
set_option maxHeartbeats 4000000 in
theorem EQ_sheet (h : REL G I) (y1 y2 y3 : Int32) : EQ l C mX9_sheet mX10_sheet [.int y1, .int y2, .int y3] G I := by
  have hrel := h
  obtain ⟨hG, D, hL, hR, hT, hN, hV, hQ⟩ := h
  refine EQ_of (P := fun _ => True) (s := fun _ => sX10_sheet y1 y2 y3) (t := fun I1 => tX10_sheet I1 y1 y2 y3) (fun I1 _ => YX10_sheet hG I1 y1 y2 y3) ?_
  refine VX9_sheet hG I y1 y2 y3 ⟨_, ZsheetNo hG I y1, ?_⟩
  rintro v I1 ⟨rfl, rfl⟩
  refine bI_split (fun a1 => ⟨trivial, by unfold sX10_sheet; rw [if_neg a1], by unfold tX10_sheet; rw [if_neg a1]; exact hrel⟩) (fun a1 => ⟨_, Zlane hG I1 y2, ?_⟩)
  rintro v I2 ⟨rfl, rfl⟩
  refine bI_split (fun a2 => ⟨trivial, by unfold sX10_sheet; rw [if_pos a1, if_neg a2], by unfold tX10_sheet; rw [if_pos a1, if_neg a2]; exact hrel⟩) (fun a2 => ⟨fun a3 => ⟨fun a4 => ⟨vin_3 a1, ?_⟩, fun a4 => ?_⟩, fun a3 => ?_⟩)
  · obtain ⟨s, hs, rfl⟩ := row_of a1.1 a1.2
    have ks : (nI s).toNatClampNeg = s := nI_clamp (by omega)
    obtain ⟨n, -, hn, rfl⟩ := in_of (lo := 0) (hi := 160) (by decide) (by exact ⟨a4, a3⟩) (by omega)
    rw [ks]
    refine ⟨_, ZbeginRow hG (TS61 hG hs) I2 y2 (nI n), ?_⟩
    rintro _ I3 rfl
    refine ⟨trivial, by unfold sX10_sheet; rw [if_pos a1, if_pos a2, if_pos a3, if_pos a4], ?_⟩
    unfold tX10_sheet
    rw [if_pos a1, if_pos a2, if_pos a3, if_pos a4]
    unfold uX10_sheet
    rw [ks]
    generalize hK : wA (wI (wI (wI I2 (61 + 2 * s) 2 1) (61 + 2 * s) 0 y2) (61 + 2 * s) 3 (nI n)) (61 + 2 * s + 1) (zr (I2 (61 + 2 * s + 1)) 0 160) = K
    have ek : ∀ a, a ≠ 61 + 2 * s → a ≠ 61 + 2 * s + 1 → K a = I2 a := fun a q1 q2 => by rw [← hK, wA_ne _ _ q2, wI_ne _ _ _ q1, wI_ne _ _ _ q1, wI_ne _ _ _ q1]
    have eu : K (61 + 2 * s) = upd (upd (upd (I2 (61 + 2 * s)) 2 1) 0 y2) 3 (nI n) := by rw [← hK, wA_ne _ _ (by omega), wI_same, wI_same, wI_same]
    have ev : K (61 + 2 * s + 1) = zr (I2 (61 + 2 * s + 1)) 0 160 := by rw [← hK, wA_same]
    refine REL_sheet hrel hs (fun a q1 q2 q3 => by rw [wA_ne _ _ (by omega), wI_ne _ _ _ (by omega), wI_ne _ _ _ (by omega), ek a q1 q2]) (fun t _ ht => by rw [wA_ne _ _ (by decide), wI_ne _ _ _ (by decide), wI_same, upd_ne _ _ ht, ek 77 (by omega) (by omega)]) (fun t _ ht => by rw [wA_ne _ _ (by decide), wI_same, upd_ne _ _ ht, wI_ne _ _ _ (by decide), ek 78 (by omega) (by omega)]) (fun t _ ht i hi => by rw [wA_same]; unfold zr; rw [if_neg (by omega), ek 79 (by omega) (by omega)]) ?_
    refine ⟨n, hn, by rw [wA_ne _ _ (by decide), wI_same, upd_same], Or.inr ⟨?_, ?_, ?_, ?_, fun i hi => ?_⟩⟩
    · rw [wA_ne _ _ (by omega), wI_ne _ _ _ (by omega), wI_ne _ _ _ (by omega), eu, upd_ne _ _ (by decide), upd_ne _ _ (by decide), upd_same]
    · rw [wA_ne _ _ (by omega), wI_ne _ _ _ (by omega), wI_ne _ _ _ (by omega), eu, upd_same]
    · rw [wA_ne _ _ (by omega), wI_ne _ _ _ (by omega), wI_ne _ _ _ (by omega), eu, upd_ne _ _ (by decide), upd_same, wA_ne _ _ (by decide), wI_ne _ _ _ (by decide), wI_same, upd_same]
    · rw [wA_ne _ _ (by decide), wI_ne _ _ _ (by decide), wI_same, upd_same]
      exact a2
    · rw [wA_ne _ _ (by omega), wI_ne _ _ _ (by omega), wI_ne _ _ _ (by omega), ev, wA_same]
      unfold zr
      rw [if_pos (by omega), if_pos (by omega)]
  · exact ⟨trivial, by unfold sX10_sheet; rw [if_pos a1, if_pos a2, if_pos a3, if_neg a4], by unfold tX10_sheet; rw [if_pos a1, if_pos a2, if_pos a3, if_neg a4]; exact hrel⟩
  · exact ⟨trivial, by unfold sX10_sheet; rw [if_pos a1, if_pos a2, if_neg a3], by unfold tX10_sheet; rw [if_pos a1, if_pos a2, if_neg a3]; exact hrel⟩
end EQs2
