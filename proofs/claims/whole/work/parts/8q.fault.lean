/-! the text from a place on: good, or faulty where -/
def gdN (L : Nat) (T : Nat → Int32) : Nat → Nat → Bool × Nat
  | 0, p => (true, p)
  | n + 1, p => if p < L then (if (txO L T p).1 = true then gdN L T n (txO L T p).2 else txO L T p) else (true, p)
theorem ff8 {L : Nat} {T : Nat → Int32} (hL : L ≤ 80) : ∀ (n p fu : Nat) (M : xM), p ≤ L → L < p + n → n ≤ fu → TxM L T M → ∃ M1, f_X7_findFault_2 fu M (nI p) = some (if (gdN L T n p).1 = true then -6 else nI (gdN L T n p).2, M1) ∧ f8 M M1 := by
  intro n
  induction n with
  | zero => intro p fu M h1 h2; omega
  | succ n ih =>
    intro p fu M h1 h2 h3 h
    obtain ⟨f, rfl⟩ : ∃ f, fu = f + 1 := ⟨fu - 1, by omega⟩
    unfold gdN
    rw [f_X7_findFault_2, h.1]
    by_cases q : p < L
    · obtain ⟨M1, a1, a2, _⟩ := ra8 hL h q
      have l := txO_le (T := T) (Nat.le_of_lt q)
      rw [if_neg (by rw [le_n (by omega) (by omega)]; omega), if_pos q, a1, xb2_n, xl_n]
      by_cases g : (txO L T p).1 = true
      · have gt := txO_gt g
        have e : enP (txO L T p) = nI (txO L T p).2 := by unfold enP; rw [if_pos g]
        rw [e, if_pos (by rw [lt_n (by omega) (by omega)]; exact gt), xl_n, if_pos g]
        obtain ⟨M2, b1, b2⟩ := ih (txO L T p).2 f M1 l (by omega) (by omega) (TxM_f h a2)
        exact ⟨M2, b1, fun k hk => (b2 k hk).trans (a2 k hk)⟩
      · have e : enP (txO L T p) = -1 - nI (txO L T p).2 := by unfold enP; rw [if_neg g]
        have ef := en_fin ⟨(txO L T p).2, by omega⟩
        rw [e, if_neg (ef.2.2 ⟨p, by omega⟩), ef.2.1, if_neg g, if_neg g]
        exact ⟨M1, rfl, a2⟩
    · rw [if_pos (by rw [le_n (by omega) (by omega)]; omega), if_neg q]
      exact ⟨M, rfl, fun _ _ => rfl⟩
theorem ff9 {L : Nat} {T : Nat → Int32} (hL : L ≤ 80) : ∀ (n p fu : Nat) (M : xM), p ≤ L → L < p + n → n < fu → TxR L T M → M 149 10 = nI p → ∃ M1, f_X9_isGood_7 fu M 1 = some (bI ((gdN L T n p).1 = true), M1) ∧ g9 M M1 ∧ (¬ (gdN L T n p).1 = true → M1 149 10 = nI (gdN L T n p).2) := by
  intro n
  induction n with
  | zero => intro p fu M h1 h2; omega
  | succ n ih =>
    intro p fu M h1 h2 h3 h hpl
    obtain ⟨f, rfl⟩ : ∃ f, fu = f + 1 := ⟨fu - 1, by omega⟩
    unfold gdN
    rw [f_X9_isGood_7, h.1, hpl, if_neg (by decide)]
    by_cases q : p < L
    · obtain ⟨M1, a1, a2, a3, _⟩ := ra9 hL h q hpl
      have l := txO_le (T := T) (Nat.le_of_lt q)
      rw [if_neg (by rw [le_n (by omega) (by omega)]; omega), if_pos q, a1, xb2_n, xl_n]
      by_cases g : (txO L T p).1 = true
      · have gt := txO_gt g
        rw [if_pos g, show bI ((txO L T p).1 = true) = 1 from if_pos g]
        obtain ⟨M2, b1, b2, b3⟩ := ih (txO L T p).2 f M1 l (by omega) (by omega) (TxR_f h a2) a3
        exact ⟨M2, b1, g9_t a2 b2, b3⟩
      · obtain ⟨f, rfl⟩ : ∃ g, f = g + 1 := ⟨f - 1, by omega⟩
        rw [if_neg g, show bI ((txO L T p).1 = true) = 0 from if_neg g, f_X9_isGood_7, if_pos rfl, show xz 0 = true from by decide, xgd_n]
        exact ⟨M1, rfl, a2, fun _ => a3⟩
    · rw [if_pos (by rw [le_n (by omega) (by omega)]; omega), if_neg q, show xz 1 = true from by decide, xgd_n]
      exact ⟨M, rfl, ⟨fun _ _ _ => rfl, fun _ _ _ => rfl⟩, fun w => absurd rfl w⟩
/-- the whole text -/
def gdT (L : Nat) (T : Nat → Int32) : Bool × Nat := gdN L T 81 0
theorem fau8 {L : Nat} {T : Nat → Int32} {M : xM} (hL : L ≤ 80) (h : TxM L T M) : ∃ M1, f_X7_findFault M = some (if (gdT L T).1 = true then -6 else nI (gdT L T).2, M1) ∧ f8 M M1 := by
  unfold f_X7_findFault
  rw [xl_n]
  exact ff8 hL 81 0 xFU M (by omega) (by omega) (by unfold xFU; omega) h
theorem goo9 {L : Nat} {T : Nat → Int32} {M : xM} (hL : L ≤ 80) (h : TxR L T M) : ∃ M1, f_X9_isGood M = some (bI ((gdT L T).1 = true), M1) ∧ g9 M M1 ∧ (¬ (gdT L T).1 = true → M1 149 10 = nI (gdT L T).2) := by
  unfold f_X9_isGood
  rw [xl_n, xl_n]
  have g0 : g9 M (xw M 149 10 0) := ⟨fun k a _ => xw_ne a, fun j a _ => xw_o (by omega)⟩
  obtain ⟨M1, b1, b2, b3⟩ := ff9 hL 81 0 xFU (xw M 149 10 0) (by omega) (by omega) (by unfold xFU; omega) (TxR_f h g0) xw_same
  exact ⟨M1, b1, g9_t g0 b2, b3⟩
/-- what the text's reading changes, says nothing -/
theorem Rl_8 {M M1 : xM} (hR : Rl M) (f : f8 M M1) : Rl M1 := Rl_of hR (fun k hk => f k (by unfold fr at hk; omega)) (by rw [f 141 (by decide)]) (by rw [f 149 (by decide)]) (by rw [f 149 (by decide)]) (by rw [f 150 (by decide)]; exact Enc_of hR.1 (Lk_same (fun k _ _ => f k (by omega)))) (by rw [f 150 (by decide)]; exact hR.2.1) (Col_same (fun k _ _ => f k (by omega)) hR.2.2.1)
theorem Rl_9 {M M1 : xM} (hR : Rl M) (f : g9 M M1) : Rl M1 := Rl_of hR (fun k hk => f.1 k (by unfold fr at hk; omega) (by unfold fr at hk; omega)) (by rw [f.1 141 (by decide) (by decide)]) (f.2 2 (by decide) (by decide)) (f.2 6 (by decide) (by decide)) (by rw [f.1 150 (by decide) (by decide)]; exact Enc_of hR.1 (Lk_same (fun k _ _ => f.1 k (by omega) (by omega)))) (by rw [f.1 150 (by decide) (by decide)]; exact hR.2.1) (Col_same (fun k _ _ => f.1 k (by omega) (by omega)) hR.2.2.1)
theorem op_faultPosition {M : xM} (hR : Rl M) : Op2 f_X8_faultPosition f_X9_faultPosition M := by
  obtain ⟨L, l1, l2, l3, l4⟩ := hR.2.2.2.2.2.2
  have hx : TxM L (M 142) M := ⟨l2, fun _ _ => rfl⟩
  obtain ⟨M1, a1, a2⟩ := fau8 l1 hx
  have hR1 := Rl_8 hR a2
  have hy : TxR L (M 142) M1 := ⟨by rw [a2 149 (by decide)]; exact l3, fun j hj => by rw [a2 154 (by decide)]; exact (l4 j hj).1⟩
  obtain ⟨M2, b1, b2, b3⟩ := goo9 l1 hy
  unfold Op2 f_X8_faultPosition f_X9_faultPosition
  refine ⟨if (gdT L (M 142)).1 = true then -6 else nI (gdT L (M 142)).2, M1, M2, by rw [a1, xb2_n], ?_, Rl_9 hR1 b2⟩
  rw [b1, xb2_n, ifb0]
  by_cases g : (gdT L (M 142)).1 = true
  · rw [if_pos g, if_pos g]
  · rw [if_neg g, if_neg g, b3 g]
