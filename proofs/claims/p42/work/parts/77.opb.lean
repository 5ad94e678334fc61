theorem Ok_rq {V V2 : Nat → Int32} (h : Ok V) {r : Nat} (e : ∀ j, j ≠ 7 → (j < 8 ∨ 24 ≤ j) → (j < 756 + 10 * r ∨ 756 + 10 * r + 10 ≤ j) → V2 j = V j) (hr : r < nN V 6) (hq : OkQ V2 r) : Ok V2 := by
  have c5 := ok_c5 h
  have c6 := ok_c6 h
  have n5 : nN V2 5 = nN V 5 := by unfold nN; rw [e 5 (by decide) (by decide) (by omega)]
  have n6 : nN V2 6 = nN V 6 := by unfold nN; rw [e 6 (by decide) (by decide) (by omega)]
  refine Ok_hi h (fun j g1 _ _ g2 g3 => e j g2 g3 (by omega)) (by rw [n5, e 5 (by decide) (by decide) (by omega)]; exact ok_n5 h) (by rw [n5]; exact c5) (by rw [n6, e 6 (by decide) (by decide) (by omega)]; exact ok_n6 h) (by rw [n6]; exact c6) (fun q hq2 => ?_) (fun q hq2 hq3 => ?_) (fun q hq2 => ?_) (fun q hq2 hq3 => ?_)
  · rw [n5] at hq2; rw [e _ (by omega) (by omega) (by omega)]; exact h.2.2.2.2.2.2.2.1 q hq2
  · rw [n5] at hq2; rw [e _ (by omega) (by omega) (by omega)]; exact h.2.2.2.2.2.2.2.2.1 q hq2 hq3
  · rw [n6] at hq2
    by_cases hqr : q = r
    · rw [hqr]; exact hq
    · exact OkQ_c (h.2.2.2.2.2.2.2.2.2.1 q hq2) (by unfold nN; rw [e 3 (by decide) (by decide) (by omega)]; exact Nat.le_refl _) (fun c hc => e _ (by omega) (by omega) (by omega))
  · rw [n6] at hq2; rw [e _ (by omega) (by omega) (by omega)]; exact h.2.2.2.2.2.2.2.2.2.2 q hq2 hq3
theorem per_e (a : Int32) : f_X8_isPerson a = some (bI (0 ≤ a ∧ a ≤ 7)) := by
  unfold f_X8_isPerson
  rw [wi_e, xb_e, xgd_t _ (bI_z _)]
theorem use_e (a : Int32) : f_X8_isUse a = some (bI (0 ≤ a ∧ a ≤ 2)) := by
  unfold f_X8_isUse
  rw [wi_e, xb_e, xgd_t _ (bI_z _)]
theorem sid_e (a : Int32) : f_X8_isSide a = some (bI (0 ≤ a ∧ a ≤ 1)) := by
  unfold f_X8_isSide
  rw [wi_e, xb_e, xgd_t _ (bI_z _)]
theorem s_today {V : Nat → Int32} {M Mk : xM} (h : St V M Mk) : M 1 8 = V 0 := h.1.2.2.2.2.2.2.2.2.2.2.2.1
