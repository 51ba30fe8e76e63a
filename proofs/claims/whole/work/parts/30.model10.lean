/-! the reference: senders, sends, tells -/
def MG (I : xI) (n rw c τ : Nat) : Prop := I 61 1 = nI n ∧ 1 ≤ n ∧ n ≤ 4 ∧ mRw I n rw c ∧ mQ I ∧ (∀ j, j < 4 → ∃ p, p ≤ c ∧ I 80 j = nI p) ∧ I 61 22 = nI τ ∧ τ < 400 ∧ (∀ j, j < 4 → ∃ g, g ≤ 5 ∧ I 68 j = nI g) ∧ (∀ j, j < n → ∃ g, 1 ≤ g ∧ g ≤ 5 ∧ I 64 j = nI g)
theorem fnd_at (f : Nat → Int32) (b : Nat) (v : Int32) : ∀ m p, fnd f b v m p < p + m → f (b + fnd f b v m p) = v := by
  intro m
  induction m with
  | zero => intro p h; exact absurd h (Nat.lt_irrefl _)
  | succ m ih =>
    intro p h
    unfold fnd at h ⊢
    by_cases hc : f (b + p) = v
    · rw [if_pos hc]; exact hc
    · rw [if_neg hc] at h ⊢
      exact ih (p + 1) (by omega)
abbrev mHrd (I : xI) (j : Nat) : Int32 := I 61 22 - 1 - I 68 j
abbrev mNx (I : xI) (j : Nat) : Nat := (I 80 j).toNatClampNeg
def mSndW (I : xI) (n rw c j : Nat) : xI := if sX10_waiting I rw c j (mNx I j) < 0 then tX10_waiting I rw c j (mNx I j) else tX10_comes (wI (tX10_waiting I rw c j (mNx I j)) 80 j (nI (mPos I rw c j (mNx I j) + 1))) n (mPos I rw c j (mNx I j)) j
def mSnd1 (I : xI) (n rw c j : Nat) : xI := if mHeld I j then (if mHrd I j < 0 then mSndW I n rw c j else (if I 82 (400 * nI j + mHrd I j).toNatClampNeg = 0 then mSndW I n rw c j else I)) else I
def mSndN (I : xI) (n rw c : Nat) : Nat → xI
  | 0 => I
  | j + 1 => mSnd1 (mSndN I n rw c j) n rw c j
theorem wait_ne (I : xI) (rw c lx p : Nat) {b : Nat} (h : b ≠ 80) : tX10_waiting I rw c lx p b = I b := wI_ne _ _ _ h
theorem mQ_of {I J : xI} (h : mQ I) (h1 : J 77 = I 77) (h2 : J 78 = I 78) (h3 : J 79 = I 79) : mQ J := by
  obtain ⟨st, ln, h⟩ := h
  exact ⟨st, ln, fun j hj => by rw [h1, h2, h3]; exact h j hj⟩
theorem vin_hrd {τ g : Nat} (h : ¬ nI τ - 1 - nI g < 0) (hτ : τ < 400) (hg : g ≤ 5) : vp_in (nI τ - 1 - nI g) 400 := by
  have e : nI τ - 1 - nI g = nI τ - nI (g + 1) := by
    rw [← nI_1 g]
    have : ∀ x y : Int32, x - 1 - y = x - (y + 1) := by
      intro x y
      rw [Int32.sub_eq_add_neg, Int32.sub_eq_add_neg, Int32.sub_eq_add_neg, Int32.neg_add, Int32.add_assoc, Int32.add_comm (-1)]
      rw [Int32.sub_eq_add_neg]
    exact this _ _
  rw [e] at h ⊢
  by_cases hle : g + 1 ≤ τ
  · rw [pk_sub hle]
    exact vp_in_nI (by omega) (by decide)
  · exact absurd (pk_sneg (by omega) (by omega)) h

set_option maxRecDepth 100000 in
set_option maxHeartbeats 4000000 in
theorem LX10_senders {l : Launch} {C : xC} {G : xG} (hs : SH G) (I : xI) {n rw c τ : Nat} (hM : ∀ i, i < n → MG (mSndN I n rw c i) n rw c τ) (hN : ∀ i, i ≤ n → mSndN I n rw c i 61 1 = nI n) (hn4 : n ≤ 4) : ∀ (k i : Nat), i ≤ n → n < i + k → XW l C mX10_senders 2 [some (.ref 61), some (.int (nI i)), none, none, none] [] G (mSndN I n rw c i) none G (mSndN I n rw c n) := by
  intro k
  induction k with
  | zero =>
    intro i h1x h2
    exact absurd h2 (by omega)
  | succ k ih =>
    intro i h1x h2
    refine XW.iload_n eX10_senders_2 rfl ?_
    refine XW.aload_n eX10_senders_3 rfl ?_
    refine XW.getI eX10_senders_4 f10_13_10 rfl (so_61 hs) ?_
    refine XW.icmp_ge eX10_senders_7 (fun c_7 => ?_) (fun c_7 => ?_)
    ·
      rw [hN i h1x] at c_7
      have hi : ¬ i < n := fun h => nI_ge h (by omega) c_7
      have hi2 : i = n := by omega
      subst hi2
      exact XW.vret eX10_senders_107 rfl rfl rfl rfl
    ·
      obtain ⟨hn, h1, h4, hR, hq, hnxx, hτ, hτ4, hlg, -⟩ := hM i (Nat.lt_of_not_le (fun h => c_7 (by rw [hN i h1x]; exact nI_le h (by omega))))
      have hi : i < n := Nat.lt_of_not_le (fun h => c_7 (by rw [hn]; exact nI_le h (by omega)))
      have kcl : (nI i).toNatClampNeg = i := nI_clamp (by omega)
      generalize hJ : mSndN I n rw c i = J at *
      obtain ⟨hr4, hrw, hc, hc80, hrr⟩ := id hR
      obtain ⟨p, hp, hnx⟩ := hnxx i (by omega)
      obtain ⟨gg, hg5, hg⟩ := hlg i (by omega)
      have hpp : (J 80 i).toNatClampNeg = p := by rw [hnx]; exact nI_clamp (by omega)
      have hfl := fnd_le (J 75) (80 * rw) (nI i) (c - p) p
      refine XW.aload_n eX10_senders_10 rfl ?_
      refine XW.getI eX10_senders_11 f10_148_10 rfl (so_61 hs) ?_
      refine XW.iconst (v := 1) eX10_senders_14 (by decide) ?_
      refine XW.isub eX10_senders_15 ?_
      refine XW.aload_n eX10_senders_16 rfl ?_
      refine XW.getR (b := 68) eX10_senders_17 f10_35_10 rfl (so_61 hs) (sr_61_8 hs) ?_
      refine XW.iload_n eX10_senders_20 rfl ?_
      refine XW.iaload eX10_senders_21 (sa_68 hs) (vp_in_nI (by omega) (by decide)) ?_
      refine XW.isub eX10_senders_22 ?_
      refine XW.istore_n (ls' := [some (.ref 61), some (.int (nI i)), some (.int (((J 61 22) - 1) - (J 68 (nI i).toNatClampNeg))), none, none]) eX10_senders_23 (Nat.le_of_ble_eq_true rfl) rfl ?_
      refine XW.aload_n eX10_senders_24 rfl ?_
      refine XW.iload_n eX10_senders_25 rfl ?_
      refine XW.callV (As := [.int (nI i)]) (st := []) eX10_senders_26 okX10_isHeld cv10_177 rfl (so_61 hs) (YX10_isHeld hs J (nI i) (vp_in_nI (by omega) (by decide))) (xnum rfl rfl rfl rfl rfl) ?_
      refine XW.if_eqB eX10_senders_29 (fun c_29 => ?_) (fun c_29 => ?_)
      ·
        skip
        refine XW.iconst (v := 0) eX10_senders_55 (by decide) ?_
        refine XW.istore_n (ls' := [some (.ref 61), some (.int (nI i)), some (.int (((J 61 22) - 1) - (J 68 (nI i).toNatClampNeg))), some (.int 0), none]) eX10_senders_56 (Nat.le_of_ble_eq_true rfl) rfl ?_
        refine XW.aload_n eX10_senders_57 rfl ?_
        refine XW.iload_n eX10_senders_58 rfl ?_
        refine XW.callV (As := [.int (nI i)]) (st := []) eX10_senders_59 okX10_isHeld cv10_177 rfl (so_61 hs) (YX10_isHeld hs J (nI i) (vp_in_nI (by omega) (by decide))) (xnum rfl rfl rfl rfl rfl) ?_
        refine XW.if_eqB eX10_senders_62 (fun c_62 => ?_) (fun c_62 => ?_)
        ·
          skip
          refine XW.iconst (v := (-1)) eX10_senders_77 (by decide) ?_
          refine XW.istore (ls' := [some (.ref 61), some (.int (nI i)), some (.int (((J 61 22) - 1) - (J 68 (nI i).toNatClampNeg))), some (.int 0), some (.int (-1))]) eX10_senders_78 (Nat.le_of_ble_eq_true rfl) rfl ?_
          refine XW.iload eX10_senders_80 rfl ?_
          refine XW.if_lt eX10_senders_82 (fun _ => ?_) (fun h => absurd (by decide) h)
          refine XW.iinc (y := ((nI i) + 1)) (ls' := [some (.ref 61), some (.int ((nI i) + 1)), some (.int (((J 61 22) - 1) - (J 68 (nI i).toNatClampNeg))), some (.int 0), some (.int (-1))]) eX10_senders_101 rfl rfl rfl ?_
          refine XW.goto eX10_senders_104 ?_
          refine XW.forget 4 rfl ?_
          refine XW.forget 3 rfl ?_
          refine XW.forget 2 rfl ?_
          exact XW.to (ih (i + 1) (by omega) (by omega)) (by rw [nI_succ]; rfl) rfl (by show _ = mSnd1 (mSndN I n rw c i) n rw c i; rw [hJ]; (try simp only [kcl] at c_29); simp only [mSnd1, mSndW, mNx, mPos, mHrd, hpp, kcl, nI_1]; (try rw [if_neg c_29]); (try rfl))
        ·
          exact absurd c_62 c_29
      ·
        skip
        refine XW.iload_n eX10_senders_32 rfl ?_
        refine XW.if_lt eX10_senders_33 (fun c_33 => ?_) (fun c_33 => ?_)
        ·
          skip
          refine XW.iconst (v := 0) eX10_senders_55 (by decide) ?_
          refine XW.istore_n (ls' := [some (.ref 61), some (.int (nI i)), some (.int (((J 61 22) - 1) - (J 68 (nI i).toNatClampNeg))), some (.int 0), none]) eX10_senders_56 (Nat.le_of_ble_eq_true rfl) rfl ?_
          refine XW.aload_n eX10_senders_57 rfl ?_
          refine XW.iload_n eX10_senders_58 rfl ?_
          refine XW.callV (As := [.int (nI i)]) (st := []) eX10_senders_59 okX10_isHeld cv10_177 rfl (so_61 hs) (YX10_isHeld hs J (nI i) (vp_in_nI (by omega) (by decide))) (xnum rfl rfl rfl rfl rfl) ?_
          refine XW.if_eqB eX10_senders_62 (fun c_62 => ?_) (fun c_62 => ?_)
          ·
            exact absurd c_29 c_62
          ·
            skip
            refine XW.iload_n eX10_senders_65 rfl ?_
            refine XW.if_ne eX10_senders_66 (fun h => absurd (by decide) h) (fun _ => ?_)
            refine XW.aload_n eX10_senders_69 rfl ?_
            refine XW.iload_n eX10_senders_70 rfl ?_
            refine XW.callV (As := [.int (nI i)]) (st := []) eX10_senders_71 okX10_waiting cv10_180 rfl (so_61 hs) (YX10_waiting hs J hR (lx := i) (p := p) (by omega) hnx hp) (xnum rfl rfl rfl rfl rfl) ?_
            refine XW.goto eX10_senders_74 ?_
            refine XW.istore (ls' := [some (.ref 61), some (.int (nI i)), some (.int (((J 61 22) - 1) - (J 68 (nI i).toNatClampNeg))), some (.int 0), some (.int (sX10_waiting J rw c i p))]) eX10_senders_78 (Nat.le_of_ble_eq_true rfl) rfl ?_
            refine XW.iload eX10_senders_80 rfl ?_
            refine XW.if_lt eX10_senders_82 (fun c_82 => ?_) (fun c_82 => ?_)
            ·
              skip
              refine XW.iinc (y := ((nI i) + 1)) (ls' := [some (.ref 61), some (.int ((nI i) + 1)), some (.int (((J 61 22) - 1) - (J 68 (nI i).toNatClampNeg))), some (.int 0), some (.int (sX10_waiting J rw c i p))]) eX10_senders_101 rfl rfl rfl ?_
              refine XW.goto eX10_senders_104 ?_
              refine XW.forget 4 rfl ?_
              refine XW.forget 3 rfl ?_
              refine XW.forget 2 rfl ?_
              exact XW.to (ih (i + 1) (by omega) (by omega)) (by rw [nI_succ]; rfl) rfl (by show _ = mSnd1 (mSndN I n rw c i) n rw c i; rw [hJ]; (try simp only [kcl] at c_29); (try simp only [kcl] at c_33); simp only [mSnd1, mSndW, mNx, mPos, mHrd, hpp, kcl, nI_1]; (try rw [if_pos c_29]); (try rw [if_pos c_33]); (try rw [if_pos c_82]); (try rfl))
            ·
              skip
              have hle : fnd (J 75) (80 * rw) (nI i) (c - p) p < c := by
                by_cases hz : fnd (J 75) (80 * rw) (nI i) (c - p) p < c
                · exact hz
                · exact absurd (by unfold sX10_waiting; rw [if_neg hz]; decide) c_82
              have hsv : sX10_waiting J rw c i p = nI (fnd (J 75) (80 * rw) (nI i) (c - p) p) := by
                unfold sX10_waiting at c_82 ⊢
                rw [if_pos hle] at c_82 ⊢
                by_cases hz : J 61 22 < J 74 (80 * rw + mPos J rw c i p)
                · rw [if_pos hz] at c_82; exact absurd (by decide) c_82
                · rw [if_neg hz]
              have hfa : J 75 (80 * rw + fnd (J 75) (80 * rw) (nI i) (c - p) p) = nI i := fnd_at _ _ _ _ _ (by omega)
              refine XW.to (ls2 := [some (.ref 61), some (.int (nI i)), some (.int (((J 61 22) - 1) - (J 68 (nI i).toNatClampNeg))), some (.int 0), some (.int (nI (fnd (J 75) (80 * rw) (nI i) (c - p) p)))]) (st2 := []) (I2 := (tX10_waiting J rw c i p)) ?_ (by rw [hsv]) rfl rfl
              refine XW.aload_n eX10_senders_85 rfl ?_
              refine XW.getR (b := 80) eX10_senders_86 f10_75_10 rfl (so_61 hs) (sr_61_26 hs) ?_
              refine XW.iload_n eX10_senders_89 rfl ?_
              refine XW.iload eX10_senders_90 rfl ?_
              refine XW.iconst (v := 1) eX10_senders_92 (by decide) ?_
              refine XW.iadd eX10_senders_93 ?_
              refine XW.iastore eX10_senders_94 (sa_80 hs) (vp_in_nI (by omega) (by decide)) ?_
              refine XW.aload_n eX10_senders_95 rfl ?_
              refine XW.iload eX10_senders_96 rfl ?_
              refine XW.callV (As := [.int (nI (fnd (J 75) (80 * rw) (nI i) (c - p) p))]) (st := []) eX10_senders_98 okX10_comes cv10_184 rfl (so_61 hs) (YX10_comes hs (wI (tX10_waiting J rw c i p) 80 (nI i).toNatClampNeg ((nI (fnd (J 75) (80 * rw) (nI i) (c - p) p)) + 1)) (n := n) (rw := rw) (k := fnd (J 75) (80 * rw) (nI i) (c - p) p) (lx := i) (by rw [wI_ne _ _ _ (by decide), wait_ne _ _ _ _ _ (by decide)]; exact hn) h1 h4 (mQ_of hq (by rw [wI_ne _ _ _ (by decide), wait_ne _ _ _ _ _ (by decide)]) (by rw [wI_ne _ _ _ (by decide), wait_ne _ _ _ _ _ (by decide)]) (by rw [wI_ne _ _ _ (by decide), wait_ne _ _ _ _ _ (by decide)])) (by rw [wI_ne _ _ _ (by decide), wait_ne _ _ _ _ _ (by decide)]; exact hrw) hr4 (by omega) (by rw [wI_ne _ _ _ (by decide), wait_ne _ _ _ _ _ (by decide)]; exact hfa) (by omega)) (xnum rfl rfl rfl rfl rfl) ?_
              refine XW.iinc (y := ((nI i) + 1)) (ls' := [some (.ref 61), some (.int ((nI i) + 1)), some (.int (((J 61 22) - 1) - (J 68 (nI i).toNatClampNeg))), some (.int 0), some (.int (nI (fnd (J 75) (80 * rw) (nI i) (c - p) p)))]) eX10_senders_101 rfl rfl rfl ?_
              refine XW.goto eX10_senders_104 ?_
              refine XW.forget 4 rfl ?_
              refine XW.forget 3 rfl ?_
              refine XW.forget 2 rfl ?_
              exact XW.to (ih (i + 1) (by omega) (by omega)) (by rw [nI_succ]; rfl) rfl (by show _ = mSnd1 (mSndN I n rw c i) n rw c i; rw [hJ]; (try simp only [kcl] at c_29); (try simp only [kcl] at c_33); simp only [mSnd1, mSndW, mNx, mPos, mHrd, hpp, kcl, nI_1]; (try rw [if_pos c_29]); (try rw [if_pos c_33]); (try rw [if_neg c_82]); (try rfl))
        ·
          skip
          refine XW.aload_n eX10_senders_36 rfl ?_
          refine XW.getR (b := 82) eX10_senders_37 f10_81_10 rfl (so_61 hs) (sr_61_28 hs) ?_
          refine XW.sipush (v := 400) eX10_senders_40 (by decide) ?_
          refine XW.iload_n eX10_senders_43 rfl ?_
          refine XW.imul eX10_senders_44 ?_
          refine XW.iload_n eX10_senders_45 rfl ?_
          refine XW.iadd eX10_senders_46 ?_
          refine XW.baload eX10_senders_47 (sa_82 hs) (vin400 (vp_in_nI (by omega) (by decide)) (by rw [kcl, hτ, hg]; exact vin_hrd (by rw [kcl, hτ, hg] at c_33; exact c_33) hτ4 hg5)) ?_
          refine XW.if_eq eX10_senders_48 (fun c_48 => ?_) (fun c_48 => ?_)
          ·
            skip
            refine XW.iconst (v := 0) eX10_senders_55 (by decide) ?_
            refine XW.istore_n (ls' := [some (.ref 61), some (.int (nI i)), some (.int (((J 61 22) - 1) - (J 68 (nI i).toNatClampNeg))), some (.int 0), none]) eX10_senders_56 (Nat.le_of_ble_eq_true rfl) rfl ?_
            refine XW.aload_n eX10_senders_57 rfl ?_
            refine XW.iload_n eX10_senders_58 rfl ?_
            refine XW.callV (As := [.int (nI i)]) (st := []) eX10_senders_59 okX10_isHeld cv10_177 rfl (so_61 hs) (YX10_isHeld hs J (nI i) (vp_in_nI (by omega) (by decide))) (xnum rfl rfl rfl rfl rfl) ?_
            refine XW.if_eqB eX10_senders_62 (fun c_62 => ?_) (fun c_62 => ?_)
            ·
              exact absurd c_29 c_62
            ·
              skip
              refine XW.iload_n eX10_senders_65 rfl ?_
              refine XW.if_ne eX10_senders_66 (fun h => absurd (by decide) h) (fun _ => ?_)
              refine XW.aload_n eX10_senders_69 rfl ?_
              refine XW.iload_n eX10_senders_70 rfl ?_
              refine XW.callV (As := [.int (nI i)]) (st := []) eX10_senders_71 okX10_waiting cv10_180 rfl (so_61 hs) (YX10_waiting hs J hR (lx := i) (p := p) (by omega) hnx hp) (xnum rfl rfl rfl rfl rfl) ?_
              refine XW.goto eX10_senders_74 ?_
              refine XW.istore (ls' := [some (.ref 61), some (.int (nI i)), some (.int (((J 61 22) - 1) - (J 68 (nI i).toNatClampNeg))), some (.int 0), some (.int (sX10_waiting J rw c i p))]) eX10_senders_78 (Nat.le_of_ble_eq_true rfl) rfl ?_
              refine XW.iload eX10_senders_80 rfl ?_
              refine XW.if_lt eX10_senders_82 (fun c_82 => ?_) (fun c_82 => ?_)
              ·
                skip
                refine XW.iinc (y := ((nI i) + 1)) (ls' := [some (.ref 61), some (.int ((nI i) + 1)), some (.int (((J 61 22) - 1) - (J 68 (nI i).toNatClampNeg))), some (.int 0), some (.int (sX10_waiting J rw c i p))]) eX10_senders_101 rfl rfl rfl ?_
                refine XW.goto eX10_senders_104 ?_
                refine XW.forget 4 rfl ?_
                refine XW.forget 3 rfl ?_
                refine XW.forget 2 rfl ?_
                exact XW.to (ih (i + 1) (by omega) (by omega)) (by rw [nI_succ]; rfl) rfl (by show _ = mSnd1 (mSndN I n rw c i) n rw c i; rw [hJ]; (try simp only [kcl] at c_29); (try simp only [kcl] at c_33); (try simp only [kcl] at c_48); simp only [mSnd1, mSndW, mNx, mPos, mHrd, hpp, kcl, nI_1]; (try rw [if_pos c_29]); (try rw [if_neg c_33]); (try rw [if_pos c_48]); (try rw [if_pos c_82]); (try rfl))
              ·
                skip
                have hle : fnd (J 75) (80 * rw) (nI i) (c - p) p < c := by
                  by_cases hz : fnd (J 75) (80 * rw) (nI i) (c - p) p < c
                  · exact hz
                  · exact absurd (by unfold sX10_waiting; rw [if_neg hz]; decide) c_82
                have hsv : sX10_waiting J rw c i p = nI (fnd (J 75) (80 * rw) (nI i) (c - p) p) := by
                  unfold sX10_waiting at c_82 ⊢
                  rw [if_pos hle] at c_82 ⊢
                  by_cases hz : J 61 22 < J 74 (80 * rw + mPos J rw c i p)
                  · rw [if_pos hz] at c_82; exact absurd (by decide) c_82
                  · rw [if_neg hz]
                have hfa : J 75 (80 * rw + fnd (J 75) (80 * rw) (nI i) (c - p) p) = nI i := fnd_at _ _ _ _ _ (by omega)
                refine XW.to (ls2 := [some (.ref 61), some (.int (nI i)), some (.int (((J 61 22) - 1) - (J 68 (nI i).toNatClampNeg))), some (.int 0), some (.int (nI (fnd (J 75) (80 * rw) (nI i) (c - p) p)))]) (st2 := []) (I2 := (tX10_waiting J rw c i p)) ?_ (by rw [hsv]) rfl rfl
                refine XW.aload_n eX10_senders_85 rfl ?_
                refine XW.getR (b := 80) eX10_senders_86 f10_75_10 rfl (so_61 hs) (sr_61_26 hs) ?_
                refine XW.iload_n eX10_senders_89 rfl ?_
                refine XW.iload eX10_senders_90 rfl ?_
                refine XW.iconst (v := 1) eX10_senders_92 (by decide) ?_
                refine XW.iadd eX10_senders_93 ?_
                refine XW.iastore eX10_senders_94 (sa_80 hs) (vp_in_nI (by omega) (by decide)) ?_
                refine XW.aload_n eX10_senders_95 rfl ?_
                refine XW.iload eX10_senders_96 rfl ?_
                refine XW.callV (As := [.int (nI (fnd (J 75) (80 * rw) (nI i) (c - p) p))]) (st := []) eX10_senders_98 okX10_comes cv10_184 rfl (so_61 hs) (YX10_comes hs (wI (tX10_waiting J rw c i p) 80 (nI i).toNatClampNeg ((nI (fnd (J 75) (80 * rw) (nI i) (c - p) p)) + 1)) (n := n) (rw := rw) (k := fnd (J 75) (80 * rw) (nI i) (c - p) p) (lx := i) (by rw [wI_ne _ _ _ (by decide), wait_ne _ _ _ _ _ (by decide)]; exact hn) h1 h4 (mQ_of hq (by rw [wI_ne _ _ _ (by decide), wait_ne _ _ _ _ _ (by decide)]) (by rw [wI_ne _ _ _ (by decide), wait_ne _ _ _ _ _ (by decide)]) (by rw [wI_ne _ _ _ (by decide), wait_ne _ _ _ _ _ (by decide)])) (by rw [wI_ne _ _ _ (by decide), wait_ne _ _ _ _ _ (by decide)]; exact hrw) hr4 (by omega) (by rw [wI_ne _ _ _ (by decide), wait_ne _ _ _ _ _ (by decide)]; exact hfa) (by omega)) (xnum rfl rfl rfl rfl rfl) ?_
                refine XW.iinc (y := ((nI i) + 1)) (ls' := [some (.ref 61), some (.int ((nI i) + 1)), some (.int (((J 61 22) - 1) - (J 68 (nI i).toNatClampNeg))), some (.int 0), some (.int (nI (fnd (J 75) (80 * rw) (nI i) (c - p) p)))]) eX10_senders_101 rfl rfl rfl ?_
                refine XW.goto eX10_senders_104 ?_
                refine XW.forget 4 rfl ?_
                refine XW.forget 3 rfl ?_
                refine XW.forget 2 rfl ?_
                exact XW.to (ih (i + 1) (by omega) (by omega)) (by rw [nI_succ]; rfl) rfl (by show _ = mSnd1 (mSndN I n rw c i) n rw c i; rw [hJ]; (try simp only [kcl] at c_29); (try simp only [kcl] at c_33); (try simp only [kcl] at c_48); simp only [mSnd1, mSndW, mNx, mPos, mHrd, hpp, kcl, nI_1]; (try rw [if_pos c_29]); (try rw [if_neg c_33]); (try rw [if_pos c_48]); (try rw [if_neg c_82]); (try rfl))
          ·
            skip
            refine XW.iconst (v := 1) eX10_senders_51 (by decide) ?_
            refine XW.goto eX10_senders_52 ?_
            refine XW.istore_n (ls' := [some (.ref 61), some (.int (nI i)), some (.int (((J 61 22) - 1) - (J 68 (nI i).toNatClampNeg))), some (.int 1), none]) eX10_senders_56 (Nat.le_of_ble_eq_true rfl) rfl ?_
            refine XW.aload_n eX10_senders_57 rfl ?_
            refine XW.iload_n eX10_senders_58 rfl ?_
            refine XW.callV (As := [.int (nI i)]) (st := []) eX10_senders_59 okX10_isHeld cv10_177 rfl (so_61 hs) (YX10_isHeld hs J (nI i) (vp_in_nI (by omega) (by decide))) (xnum rfl rfl rfl rfl rfl) ?_
            refine XW.if_eqB eX10_senders_62 (fun c_62 => ?_) (fun c_62 => ?_)
            ·
              exact absurd c_29 c_62
            ·
              skip
              refine XW.iload_n eX10_senders_65 rfl ?_
              refine XW.if_ne eX10_senders_66 (fun _ => ?_) (fun h => absurd h (by decide))
              refine XW.iconst (v := (-1)) eX10_senders_77 (by decide) ?_
              refine XW.istore (ls' := [some (.ref 61), some (.int (nI i)), some (.int (((J 61 22) - 1) - (J 68 (nI i).toNatClampNeg))), some (.int 1), some (.int (-1))]) eX10_senders_78 (Nat.le_of_ble_eq_true rfl) rfl ?_
              refine XW.iload eX10_senders_80 rfl ?_
              refine XW.if_lt eX10_senders_82 (fun _ => ?_) (fun h => absurd (by decide) h)
              refine XW.iinc (y := ((nI i) + 1)) (ls' := [some (.ref 61), some (.int ((nI i) + 1)), some (.int (((J 61 22) - 1) - (J 68 (nI i).toNatClampNeg))), some (.int 1), some (.int (-1))]) eX10_senders_101 rfl rfl rfl ?_
              refine XW.goto eX10_senders_104 ?_
              refine XW.forget 4 rfl ?_
              refine XW.forget 3 rfl ?_
              refine XW.forget 2 rfl ?_
              exact XW.to (ih (i + 1) (by omega) (by omega)) (by rw [nI_succ]; rfl) rfl (by show _ = mSnd1 (mSndN I n rw c i) n rw c i; rw [hJ]; (try simp only [kcl] at c_29); (try simp only [kcl] at c_33); (try simp only [kcl] at c_48); simp only [mSnd1, mSndW, mNx, mPos, mHrd, hpp, kcl, nI_1]; (try rw [if_pos c_29]); (try rw [if_neg c_33]); (try rw [if_neg c_48]); (try rfl))
set_option maxRecDepth 100000 in
set_option maxHeartbeats 4000000 in
theorem YX10_senders {l : Launch} {C : xC} {G : xG} (hs : SH G) (I : xI) {n rw c τ : Nat} (hM : ∀ i, i < n → MG (mSndN I n rw c i) n rw c τ) (hN : ∀ i, i ≤ n → mSndN I n rw c i 61 1 = nI n) (hn4 : n ≤ 4) : XW l C mX10_senders 0 (xent mX10_senders [.ref 61]) [] G I none G (mSndN I n rw c n) := by
  show XW l C mX10_senders 0 [some (.ref 61), none, none, none, none] [] G I _ G _
  refine XW.iconst (v := 0) eX10_senders_0 (by decide) ?_
  refine XW.istore_n (ls' := [some (.ref 61), some (.int 0), none, none, none]) eX10_senders_1 (Nat.le_of_ble_eq_true rfl) rfl ?_
  exact XW.to (LX10_senders hs I hM hN hn4 (n + 1) 0 (by omega) (by omega)) rfl rfl rfl
