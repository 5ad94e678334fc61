theorem look_no {t ct n rows : Nat} {M : xM} (h2 : M t 2 = nI rows) (hrows : rows < 100000) {a : Int32} (hx : ¬ xin a rows = true) (b c : Int32) : f_X8_look t ct n M a b c = some (-1) := by
  unfold f_X8_look
  rw [T_has h2 hrows, xb_n, ifb0, if_neg hx]
theorem look_bad {t ct n rows : Nat} {M : xM} (h2 : M t 2 = nI rows) (hrows : rows < 100000) {a : Int32} (hx : xin a rows = true) {b c : Int32} (hb : ¬ (0 ≤ b ∧ b ≤ c - 1)) : f_X8_look t ct n M a b c = some (-2) := by
  unfold f_X8_look
  rw [T_has h2 hrows, xb_n, ifb0, if_pos hx, wi_e, xb_n, ifb0, if_neg hb]
theorem look_ok {t ct n rows : Nat} {M : xM} (h2 : M t 2 = nI rows) (hrows : rows < 100000) {a : Int32} (hx : xin a rows = true) {b c v : Int32} (hb : 0 ≤ b ∧ b ≤ c - 1) (hg : f_X6_get t ct n M a b = some v) : f_X8_look t ct n M a b c = some v := by
  unfold f_X8_look
  rw [T_has h2 hrows, xb_n, ifb0, if_pos hx, wi_e, xb_n, ifb0, if_pos hb, hg, xb_n]
theorem sub1 {n : Nat} (hn : n < 100000) (a : Int32) : (0 ≤ a ∧ a ≤ nI n - 1) = (xin a n = true) := by
  refine propext ⟨fun q => ?_, fun q => ?_⟩
  · obtain ⟨q1, q2⟩ := q
    obtain ⟨j, hj, rfl⟩ := nI_of (Int32.not_lt.mpr q1)
    have hj : j < 2147483648 := by simpa using hj
    have h1 : j < n := by
      rcases Nat.eq_zero_or_pos n with h0 | h0
      · rw [h0] at q2
        have := Int32.le_iff_toInt_le.mp q2
        rw [nI_toInt (by simpa using hj)] at this
        have h9 : (nI 0 - 1 : Int32).toInt = -1 := rfl
        omega
      · obtain ⟨m, hm⟩ : ∃ m, n = m + 1 := ⟨n - 1, by omega⟩
        rw [hm, nI_pred, le_n hj (by omega)] at q2
        omega
    exact xin_n h1 hj
  · obtain ⟨r, hr, rfl⟩ := xin_ex q (by omega)
    obtain ⟨m, hm⟩ : ∃ m, n = m + 1 := ⟨n - 1, by omega⟩
    rw [hm, nI_pred]
    exact ⟨nI_pos' (by omega), by rw [le_n (by omega) (by omega)]; omega⟩
