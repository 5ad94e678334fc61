theorem xw_xw {M : xM} {k j : Nat} {a b : Int32} : xw (xw M k j a) k j b = xw M k j b := by
  funext x y
  unfold xw
  by_cases h : x = k ∧ y = j
  · rw [if_pos h, if_pos h]
  · rw [if_neg h, if_neg h, if_neg h]
theorem xw_id {M : xM} {k j : Nat} {a : Int32} (h : M k j = a) : xw M k j a = M := by
  funext x y
  unfold xw
  by_cases q : x = k ∧ y = j
  · rw [if_pos q, q.1, q.2, h]
  · rw [if_neg q]
def TxR (L : Nat) (T : Nat → Int32) (M : xM) : Prop := M 149 6 = nI L ∧ ∀ j, j < L → M 154 j = T j
def pM (M : xM) (q : Nat) : xM := xw M 149 10 (nI q)
theorem pM_pl {M : xM} {q : Nat} : pM M q 149 10 = nI q := xw_same
theorem pM_tx {L : Nat} {T : Nat → Int32} {M : xM} (h : TxR L T M) {q : Nat} : TxR L T (pM M q) := ⟨(xw_o (by decide)).trans h.1, fun j hj => by unfold pM; rw [xw_ne (by decide)]; exact h.2 j hj⟩
theorem nu9 {L : Nat} {T : Nat → Int32} {M : xM} (hL : L ≤ 80) (h : TxR L T M) {p : Nat} (hp : p ≤ L) (hpl : M 149 10 = nI p) (sl lo hi : Int32) : f_X9_number M sl lo hi = f_X9_number_104 (pM M (p + ndT L T p)) sl lo hi (nI p) (vlT T p (ndT L T p)) := by
  have stop : ∀ (k g : Nat), k ≤ 3 → (dgB L T (p + k) = true → k = 3 ∨ (0 < k ∧ T p = 48)) → f_X9_number_9 (g + 1) (pM M (p + k)) sl lo hi (nI p) (vlT T p k) = f_X9_number_104 (pM M (p + k)) sl lo hi (nI p) (vlT T p k) := fun k g hk hq => by
    have hx := pM_tx h (q := p + k)
    rw [f_X9_number_9, hx.1, pM_pl]
    by_cases q : p + k < L
    · rw [if_neg (by rw [le_n (by omega) (by omega)]; omega), xin_n (by omega) (by omega), xgd_n, cl_n (by omega), hx.2 _ q, in_e, wi_e, xb_n, ifb0]
      by_cases d : 48 ≤ T (p + k) ∧ T (p + k) ≤ 57
      · rw [if_pos d]
        rcases hq (decide_eq_true ⟨q, d⟩) with w | ⟨w1, w2⟩
        · rw [if_pos (by rw [ir_3, le_n (by omega) (by omega)]; omega)]
        · by_cases k3 : k = 3
          · rw [if_pos (by rw [ir_3, le_n (by omega) (by omega)]; omega)]
          · rw [if_neg (by rw [ir_3, le_n (by omega) (by omega)]; omega), if_neg (by rw [eq_n (by omega) (by omega)]; omega), xin_n (by omega) (by omega), xgd_n, cl_n (by omega), hx.2 p (by omega), if_pos w2]
      · rw [if_neg d]
    · rw [if_pos (by rw [le_n (by omega) (by omega)]; omega)]
  have go : ∀ (k g : Nat), k < 3 → dgB L T (p + k) = true → (k = 0 ∨ ¬ T p = 48) → f_X9_number_9 (g + 1) (pM M (p + k)) sl lo hi (nI p) (vlT T p k) = f_X9_number_9 g (pM M (p + k + 1)) sl lo hi (nI p) (vlT T p (k + 1)) := fun k g hk hd hz => by
    have hx := pM_tx h (q := p + k)
    obtain ⟨q, d⟩ := of_decide_eq_true hd
    have e71 : f_X9_number_71 (f_X9_number_9 g) (pM M (p + k)) sl lo hi (nI p) (vlT T p k) = f_X9_number_9 g (pM M (p + k + 1)) sl lo hi (nI p) (vlT T p (k + 1)) := by
      unfold f_X9_number_71
      rw [pM_pl, xin_n (by omega) (by omega), xgd_n, cl_n (by omega), hx.2 _ q, xl_n, xl_n, ir_1, Int32.mul_comm]
      unfold pM
      rw [xw_xw]
      rfl
    rw [f_X9_number_9, hx.1, pM_pl, if_neg (by rw [le_n (by omega) (by omega)]; omega), xin_n (by omega) (by omega), xgd_n, cl_n (by omega), hx.2 _ q, in_e, wi_e, xb_n, ifb0, if_pos d, if_neg (by rw [ir_3, le_n (by omega) (by omega)]; omega)]
    by_cases k0 : k = 0
    · rw [if_pos (by rw [k0]; rfl)]; exact e71
    · rw [if_neg (by rw [eq_n (by omega) (by omega)]; omega), xin_n (by omega) (by omega), xgd_n, cl_n (by omega), hx.2 p (by omega), if_neg (by rcases hz with w | w; exact absurd w k0; exact w)]
      exact e71
  obtain ⟨g, hg⟩ : ∃ g, xFU = g + 1 + 1 + 1 + 1 := ⟨999996, rfl⟩
  have m0 : pM M (p + 0) = M := xw_id hpl
  unfold f_X9_number
  rw [hpl, xl_n, xl_n, hg]
  have start : f_X9_number_9 (g + 1 + 1 + 1 + 1) M sl lo hi (nI p) 0 = f_X9_number_9 (g + 1 + 1 + 1 + 1) (pM M (p + 0)) sl lo hi (nI p) (vlT T p 0) := by rw [m0]; rfl
  rw [start]
  unfold ndT
  by_cases q0 : p < L ∧ T p = 48
  · rw [if_pos q0, go 0 (g + 1 + 1 + 1) (by decide) (decide_eq_true ⟨q0.1, by rw [Nat.add_zero, q0.2]; decide⟩) (Or.inl rfl)]
    exact stop 1 (g + 1 + 1) (by decide) (fun _ => Or.inr ⟨by decide, q0.2⟩)
  · rw [if_neg q0]
    by_cases d0 : dgB L T p = true
    · have nz : ¬ T p = 48 := fun w => q0 ⟨(of_decide_eq_true d0).1, w⟩
      rw [if_pos d0, go 0 (g + 1 + 1 + 1) (by decide) d0 (Or.inl rfl)]
      by_cases d1 : dgB L T (p + 1) = true
      · rw [if_pos d1]
        have := go 1 (g + 1 + 1) (by decide) d1 (Or.inr nz)
        refine Eq.trans this ?_
        by_cases d2 : dgB L T (p + 2) = true
        · rw [if_pos d2]
          have := go 2 (g + 1) (by decide) d2 (Or.inr nz)
          refine Eq.trans this ?_
          exact stop 3 g (by decide) (fun _ => Or.inl rfl)
        · rw [if_neg d2]
          exact stop 2 (g + 1) (by decide) (fun w => absurd w d2)
      · rw [if_neg d1]
        exact stop 1 (g + 1 + 1) (by decide) (fun w => absurd w d1)
    · rw [if_neg d0]
      exact stop 0 (g + 1 + 1 + 1) (by decide) (fun w => absurd w d0)
