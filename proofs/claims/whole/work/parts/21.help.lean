/-! small helps: arrays as functions, indices -/
theorem wI_as (I : xI) (a k : Nat) (v : Int32) : wI I a k v = wA I a (upd (I a) k v) := rfl
theorem wA_wA (I : xI) (a : Nat) (f g : Nat → Int32) : wA (wA I a f) a g = wA I a g := by
  funext b
  unfold wA
  split <;> rfl
theorem wI_wA (I : xI) (a k : Nat) (f : Nat → Int32) (v : Int32) : wI (wA I a f) a k v = wA I a (upd f k v) := by
  rw [wI_as, wA_wA, wA_same]
theorem wA_self (I : xI) (a : Nat) : wA I a (I a) = I := by
  funext b
  unfold wA
  split
  · next h => rw [h]
  · rfl
theorem wA_comm (I : xI) {a b : Nat} (h : a ≠ b) (f g : Nat → Int32) : wA (wA I a f) b g = wA (wA I b g) a f := by
  funext c
  unfold wA
  by_cases h1 : c = b
  · subst h1
    simp [Ne.symm h]
  · simp [h1]
theorem upd_same (f : Nat → Int32) (k : Nat) (v : Int32) : upd f k v k = v := by simp [upd]
theorem upd_ne (f : Nat → Int32) {k j : Nat} (v : Int32) (h : j ≠ k) : upd f k v j = f j := by simp [upd, h]
theorem vin160 {x i : Int32} (hx : vp_in x 4) (hi : vp_in i 160) : vp_in (160 * x + i) 640 := by
  obtain ⟨a, ha, rfl⟩ := vp_in_of hx (by decide)
  obtain ⟨b, hb, rfl⟩ := vp_in_of hi (by decide)
  rw [show (160 : Int32) = nI 160 from rfl, pk_mul, nI_add]
  exact vp_in_nI (by omega) (by decide)
theorem vin80 {x i : Int32} (hx : vp_in x 4) (hi : vp_in i 80) : vp_in (80 * x + i) 320 := by
  obtain ⟨a, ha, rfl⟩ := vp_in_of hx (by decide)
  obtain ⟨b, hb, rfl⟩ := vp_in_of hi (by decide)
  rw [show (80 : Int32) = nI 80 from rfl, pk_mul, nI_add]
  exact vp_in_nI (by omega) (by decide)
theorem vin400 {x i : Int32} (hx : vp_in x 4) (hi : vp_in i 400) : vp_in (400 * x + i) 1600 := by
  obtain ⟨a, ha, rfl⟩ := vp_in_of hx (by decide)
  obtain ⟨b, hb, rfl⟩ := vp_in_of hi (by decide)
  rw [show (400 : Int32) = nI 400 from rfl, pk_mul, nI_add]
  exact vp_in_nI (by omega) (by decide)
theorem vin_mono {x : Int32} {a b : Nat} (h : vp_in x a) (hab : a ≤ b) : vp_in x b := by
  obtain ⟨h1, h2⟩ := vp_in_iff.mp h
  exact vp_in_iff.mpr ⟨h1, by omega⟩
theorem lcmp_pos (a b c : Int32) : 0 < lg_cmp (a.toInt64 + b.toInt64) c.toInt64 ↔ c.toInt < a.toInt + b.toInt := by
  have ha := a.toInt_lt; have ha2 := a.le_toInt
  have hb := b.toInt_lt; have hb2 := b.le_toInt
  have hc := c.toInt_lt; have hc2 := c.le_toInt
  have e1 : (a.toInt64 + b.toInt64).toInt = a.toInt + b.toInt := by
    rw [Int64.toInt_add, Int32.toInt_toInt64, Int32.toInt_toInt64]
    exact Int.bmod_eq_of_le (by omega) (by omega)
  have e2 : c.toInt64.toInt = c.toInt := Int32.toInt_toInt64 c
  unfold lg_cmp
  by_cases h : c.toInt64 < a.toInt64 + b.toInt64
  · have := Int64.lt_iff_toInt_lt.mp h
    rw [e1, e2] at this
    rw [if_pos h]
    exact ⟨fun _ => this, fun _ => by decide⟩
  · have h' : ¬ c.toInt < a.toInt + b.toInt := fun z => h (Int64.lt_iff_toInt_lt.mpr (by rw [e1, e2]; exact z))
    rw [if_neg h]
    constructor
    · intro z
      split at z <;> exact absurd z (by decide)
    · intro z; exact absurd z h'
/-- a zeroed stretch -/
def zr (f : Nat → Int32) (b n : Nat) : Nat → Int32 := fun q => if b ≤ q ∧ q < b + n then 0 else f q
theorem zr_0 (f : Nat → Int32) (b : Nat) : zr f b 0 = f := by
  funext q
  unfold zr
  rw [if_neg (by omega)]
theorem zr_succ (f : Nat → Int32) (b n : Nat) : upd (zr f b n) (b + n) 0 = zr f b (n + 1) := by
  funext q
  unfold upd zr
  by_cases h : q = b + n
  · rw [if_pos h, if_pos (by omega)]
  · rw [if_neg h]
    by_cases h2 : b ≤ q ∧ q < b + n
    · rw [if_pos h2, if_pos (by omega)]
    · rw [if_neg h2, if_neg (by omega)]
/-- a copied stretch -/
def cpy (f g : Nat → Int32) (sp dp n : Nat) : Nat → Int32 := fun q => if dp ≤ q ∧ q < dp + n then f (sp + (q - dp)) else g q
theorem cpy_0 (f g : Nat → Int32) (sp dp : Nat) : cpy f g sp dp 0 = g := by
  funext q
  unfold cpy
  rw [if_neg (by omega)]
theorem cpy_succ (f g : Nat → Int32) (sp dp n : Nat) : upd (cpy f g sp dp n) (dp + n) (f (sp + n)) = cpy f g sp dp (n + 1) := by
  funext q
  unfold upd cpy
  by_cases h : q = dp + n
  · rw [if_pos h, if_pos (by omega)]
    congr 1
    omega
  · rw [if_neg h]
    by_cases h2 : dp ≤ q ∧ q < dp + n
    · rw [if_pos h2, if_pos (by omega)]
    · rw [if_neg h2, if_neg (by omega)]
/-- every second of a stretch -/
def cp2 (f g : Nat → Int32) (sp dp n : Nat) : Nat → Int32 := fun q => if dp ≤ q ∧ q < dp + n then f (sp + 2 * (q - dp)) else g q
theorem cp2_0 (f g : Nat → Int32) (sp dp : Nat) : cp2 f g sp dp 0 = g := by
  funext q
  unfold cp2
  rw [if_neg (by omega)]
theorem cp2_succ (f g : Nat → Int32) (sp dp n : Nat) : upd (cp2 f g sp dp n) (dp + n) (f (sp + 2 * n)) = cp2 f g sp dp (n + 1) := by
  funext q
  unfold upd cp2
  by_cases h : q = dp + n
  · rw [if_pos h, if_pos (by omega)]
    congr 1
    omega
  · rw [if_neg h]
    by_cases h2 : dp ≤ q ∧ q < dp + n
    · rw [if_pos h2, if_pos (by omega)]
    · rw [if_neg h2, if_neg (by omega)]
