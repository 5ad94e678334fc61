theorem slot_e {s : Nat} (hs : s < 2) (M : xM) : f_X8_slotOf M (nI s) = some (some (105 + 18 * s)) ∧ xSloB (105 + 18 * s) = true := by
  rcases (show s = 0 ∨ s = 1 by omega) with rfl | rfl
  · exact ⟨by unfold f_X8_slotOf; rw [if_pos (show nI 0 = (0 : Int32) from rfl)], by decide⟩
  · exact ⟨by unfold f_X8_slotOf; rw [if_neg (by decide), if_pos (show nI 1 = (1 : Int32) from rfl)], by decide⟩
theorem slot_no {a : Int32} (h : ¬ (0 ≤ a ∧ a ≤ 1)) (M : xM) : f_X8_slotOf M a = some none := by
  unfold f_X8_slotOf
  rw [if_neg (fun w => h (by rw [w]; decide)), if_neg (fun w => h (by rw [w]; decide))]
