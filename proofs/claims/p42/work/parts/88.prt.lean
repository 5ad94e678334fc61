theorem Ok_prt {V V2 : Nat → Int32} (h : Ok V) {r k : Nat} (hr : r < nN V 3) (hk : V (84 + 5 * r + 4) = nI k) (hk4 : k < 4) (e : ∀ j, j ≠ 84 + 5 * r + 4 → (j < 164 + 4 * (4 * r + k) ∨ 164 + 4 * (4 * r + k) + 4 ≤ j) → V2 j = V j) (h1 : V2 (84 + 5 * r + 4) = nI (k + 1)) (hT : OkT V2 (4 * r + k)) : Ok V2 := by
  obtain ⟨⟨a1, a2, a3, a4, a5, a6, a7, a8, a9, a10, a11, a12, a13⟩, b1, b2, b3, b4, b5, b6, b7, b8, b9, b10⟩ := h
  have x : ∀ j, j < 8 → V2 j = V j := fun j hj => e j (by omega) (by omega)
  have y : ∀ j, j < 8 → nN V2 j = nN V j := fun j hj => by unfold nN; rw [x j hj]
  have y1 := y 1 (by decide)
  have y2 := y 2 (by decide)
  have y3 := y 3 (by decide)
  have y4 := y 4 (by decide)
  have y5 := y 5 (by decide)
  have y6 := y 6 (by decide)
  have z1 : nN V2 (84 + 5 * r + 4) = k + 1 := nN_of h1 (by omega)
  have z0 : nN V (84 + 5 * r + 4) = k := nN_of hk (by omega)
  refine ⟨⟨by rw [y1, x 1 (by decide)]; exact a1, by omega, by rw [y2, x 2 (by decide)]; exact a3, by omega, by rw [y3, x 3 (by decide)]; exact a5, by omega, by rw [y4, x 4 (by decide)]; exact a7, by omega, by rw [y5, x 5 (by decide)]; exact a9, by omega, by rw [y6, x 6 (by decide)]; exact a11, by omega, by rw [x 0 (by decide)]; exact a13⟩, fun q hq => OkC_c (b1 q (by omega)) (fun c hc => e _ (by omega) (by omega)), fun q hq => OkM_c (b2 q (by omega)) (fun c hc => e _ (by omega) (by omega)), fun q hq => ?_, fun q h1 h2 => by rw [e _ (by omega) (by omega)]; exact b4 q (by omega) h2, fun q j hq hj => ?_, fun p hp => OkP_c (b6 p (by omega)) (by omega) (by omega) (fun c hc => e _ (by omega) (by omega)), fun q hq => by rw [e _ (by omega) (by omega)]; exact b7 q (by omega), fun q h1 h2 => by rw [e _ (by omega) (by omega)]; exact b8 q (by omega) h2, fun q hq => OkQ_c (b9 q (by omega)) (by omega) (fun c hc => e _ (by omega) (by omega)), fun q h1 h2 => by rw [e _ (by omega) (by omega)]; exact b10 q (by omega) h2⟩
  · by_cases hqr : q = r
    · subst hqr
      have old := b3 q (by omega)
      have w : nN V2 (84 + 5 * q) = nN V (84 + 5 * q) := by unfold nN; rw [e _ (by omega) (by omega)]
      unfold OkR at *
      rw [w, z1, h1, y1, e (84 + 5 * q) (by omega) (by omega), e (84 + 5 * q + 1) (by omega) (by omega), e (84 + 5 * q + 2) (by omega) (by omega), e (84 + 5 * q + 3) (by omega) (by omega)]
      exact ⟨old.1, old.2.1, old.2.2.1, old.2.2.2.1, old.2.2.2.2.1, rfl, by omega⟩
    · exact OkR_c (b3 q (by omega)) (by omega) (fun c hc => e _ (by omega) (by omega))
  · by_cases hqr : q = r
    · subst hqr
      by_cases hjk : j = k
      · rw [hjk]; exact hT
      · exact OkT_c (b5 q j (by omega) (by omega)) (fun c hc => e _ (by omega) (by omega))
    · have w : nN V2 (84 + 5 * q + 4) = nN V (84 + 5 * q + 4) := by unfold nN; rw [e _ (by omega) (by omega)]
      have l4 := (b3 q (by omega)).2.2.2.2.2.2
      exact OkT_c (b5 q j (by omega) (by omega)) (fun c hc => e _ (by omega) (by omega))
theorem sx_prt {V : Nat → Int32} {M Mk : xM} (h : St V M Mk) {j : Nat} {c : Int32} (k : Nat) (v : Int32) (hj : j < 64) (hk : c = nI k) (hk2 : k < 4) : ∃ M1, f_X6_set 8 9 256 M (nI j) c v = some M1 ∧ St (upd V (164 + 4 * j + k) v) M1 Mk := ⟨_, s_setk_prt h k v hj hk hk2, w_prt h hj hk2 v⟩
