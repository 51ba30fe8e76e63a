/-! helps -/
theorem vin_hrd {τ g : Nat} (h : ¬ nI τ - 1 - nI g < 0) (hτ : τ < 400) (hg : g ≤ 5) : vp_in (nI τ - 1 - nI g) 400 := by
  have e : nI τ - 1 - nI g = nI τ - nI (g + 1) := by
    rw [← nI_1 g]
    have : ∀ x y : Int32, x - 1 - y = x - (y + 1) := by
      intro x y
      rw [Int32.sub_eq_add_neg, Int32.sub_eq_add_neg, Int32.sub_eq_add_neg, Int32.neg_add, Int32.add_assoc, Int32.add_comm (-1)]
      rw [Int32.sub_eq_add_neg]
    exact this _ _
  rw [e] at h ⊢
  by_cases hle : g + 1 ≤ τ
  · rw [pk_sub hle]
    exact vp_in_nI (by omega) (by decide)
  · exact absurd (pk_sneg (by omega) (by omega)) h
