/-- what the pure functions give: the law's loop answers 1 -/
theorem law_pure (ξ : xX) (hL : ξ.1 ≤ 260) : ∃ M' : xM, f_L_law ξ (mOf cL_80) = some (1, M') := by
  exact law_ok ξ hL
