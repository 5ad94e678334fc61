/-- what the pure functions give: the law's loop answers 1 -/
theorem law_pure (ξ : xX) (hL : ξ.1 ≤ 3584) : ∃ M' : xM, f_L_law_18 ξ xFU (mOf cL_92) 0 = some (1, M') := by
  sorry
