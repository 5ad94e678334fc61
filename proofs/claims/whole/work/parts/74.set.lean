theorem ite2 {c1 c2 : Prop} [Decidable c1] [Decidable c2] {x a b : Int32} (h : c1 ↔ c2) (e : a = b) : (if c1 then x else a) = if c2 then x else b := by
  by_cases q : c1
  · rw [if_pos q, if_pos (h.mp q)]
  · rw [if_neg q, if_neg (fun z => q (h.mpr z)), e]
theorem upd_ne {V : Nat → Int32} {k j : Nat} {x : Int32} (h : j ≠ k) : upd V k x j = V j := by simp [upd, h]
theorem upd_eq {V : Nat → Int32} {k : Nat} {x : Int32} : upd V k x k = x := by simp [upd]
theorem xw_same {M : xM} {k j : Nat} {v : Int32} : xw M k j v k j = v := by simp [xw]
theorem xw_o {M : xM} {k j a b : Nat} {v : Int32} (h : ¬ (a = k ∧ b = j)) : xw M k j v a b = M a b := by simp [xw, h]

theorem rs_car {V : Nat → Int32} {M : xM} (h : EncRaw V M 1) {r c : Nat} (hr : r < 8) (hc : c < 5) (x : Int32) : EncRaw (upd V (24 + 5 * r + c) x) (xw M 3 (r * 7 + c) x) 1 := by
  obtain ⟨q0, q1, q2, q3, q4, q5, q6, q7, q8, q9, q10, q11, q12, q13, q14, q15, q16, q17, q18⟩ := h
  exact ⟨fun r2 c2 g0 g1 => ite2 (by omega) (q0 r2 c2 g0 g1), fun r2 c2 g0 g1 => ite2 (by omega) (q1 r2 c2 g0 g1), fun r2 c2 g0 g1 => ite2 (by omega) (q2 r2 c2 g0 g1), fun r2 g0 => ite2 (by omega) (q3 r2 g0), fun r2 c2 g0 g1 => ite2 (by omega) (q4 r2 c2 g0 g1), fun r2 c2 g0 g1 => ite2 (by omega) (q5 r2 c2 g0 g1), fun r2 c2 g0 g1 => ite2 (by omega) (q6 r2 c2 g0 g1), fun r2 c2 g0 g1 => ite2 (by omega) (q7 r2 c2 g0 g1), fun r2 c2 g0 g1 => ite2 (by omega) (q8 r2 c2 g0 g1), fun r2 g0 => ite2 (by omega) (q9 r2 g0), fun r2 g0 => ite2 (by omega) (q10 r2 g0), ite2 (by omega) (q11), ite2 (by omega) (q12), ite2 (by omega) (q13), ite2 (by omega) (q14), ite2 (by omega) (q15), ite2 (by omega) (q16), ite2 (by omega) (q17), ite2 (by omega) (q18)⟩
theorem rs_mac {V : Nat → Int32} {M : xM} (h : EncRaw V M 1) {r c : Nat} (hr : r < 4) (hc : c < 5) (x : Int32) : EncRaw (upd V (64 + 5 * r + c) x) (xw M 5 (r * 6 + c) x) 1 := by
  obtain ⟨q0, q1, q2, q3, q4, q5, q6, q7, q8, q9, q10, q11, q12, q13, q14, q15, q16, q17, q18⟩ := h
  exact ⟨fun r2 c2 g0 g1 => ite2 (by omega) (q0 r2 c2 g0 g1), fun r2 c2 g0 g1 => ite2 (by omega) (q1 r2 c2 g0 g1), fun r2 c2 g0 g1 => ite2 (by omega) (q2 r2 c2 g0 g1), fun r2 g0 => ite2 (by omega) (q3 r2 g0), fun r2 c2 g0 g1 => ite2 (by omega) (q4 r2 c2 g0 g1), fun r2 c2 g0 g1 => ite2 (by omega) (q5 r2 c2 g0 g1), fun r2 c2 g0 g1 => ite2 (by omega) (q6 r2 c2 g0 g1), fun r2 c2 g0 g1 => ite2 (by omega) (q7 r2 c2 g0 g1), fun r2 c2 g0 g1 => ite2 (by omega) (q8 r2 c2 g0 g1), fun r2 g0 => ite2 (by omega) (q9 r2 g0), fun r2 g0 => ite2 (by omega) (q10 r2 g0), ite2 (by omega) (q11), ite2 (by omega) (q12), ite2 (by omega) (q13), ite2 (by omega) (q14), ite2 (by omega) (q15), ite2 (by omega) (q16), ite2 (by omega) (q17), ite2 (by omega) (q18)⟩
theorem rs_rec {V : Nat → Int32} {M : xM} (h : EncRaw V M 1) {r c : Nat} (hr : r < 16) (hc : c < 4) (x : Int32) : EncRaw (upd V (84 + 5 * r + c) x) (xw M 7 (r * 6 + c) x) 1 := by
  obtain ⟨q0, q1, q2, q3, q4, q5, q6, q7, q8, q9, q10, q11, q12, q13, q14, q15, q16, q17, q18⟩ := h
  exact ⟨fun r2 c2 g0 g1 => ite2 (by omega) (q0 r2 c2 g0 g1), fun r2 c2 g0 g1 => ite2 (by omega) (q1 r2 c2 g0 g1), fun r2 c2 g0 g1 => ite2 (by omega) (q2 r2 c2 g0 g1), fun r2 g0 => ite2 (by omega) (q3 r2 g0), fun r2 c2 g0 g1 => ite2 (by omega) (q4 r2 c2 g0 g1), fun r2 c2 g0 g1 => ite2 (by omega) (q5 r2 c2 g0 g1), fun r2 c2 g0 g1 => ite2 (by omega) (q6 r2 c2 g0 g1), fun r2 c2 g0 g1 => ite2 (by omega) (q7 r2 c2 g0 g1), fun r2 c2 g0 g1 => ite2 (by omega) (q8 r2 c2 g0 g1), fun r2 g0 => ite2 (by omega) (q9 r2 g0), fun r2 g0 => ite2 (by omega) (q10 r2 g0), ite2 (by omega) (q11), ite2 (by omega) (q12), ite2 (by omega) (q13), ite2 (by omega) (q14), ite2 (by omega) (q15), ite2 (by omega) (q16), ite2 (by omega) (q17), ite2 (by omega) (q18)⟩
theorem rs_rec5 {V : Nat → Int32} {M : xM} (h : EncRaw V M 1) {r : Nat} (hr : r < 16) (x : Int32) : EncRaw (upd V (84 + 5 * r + 4) x) (xw M 7 (r * 6 + 5) x) 1 := by
  obtain ⟨q0, q1, q2, q3, q4, q5, q6, q7, q8, q9, q10, q11, q12, q13, q14, q15, q16, q17, q18⟩ := h
  exact ⟨fun r2 c2 g0 g1 => ite2 (by omega) (q0 r2 c2 g0 g1), fun r2 c2 g0 g1 => ite2 (by omega) (q1 r2 c2 g0 g1), fun r2 c2 g0 g1 => ite2 (by omega) (q2 r2 c2 g0 g1), fun r2 g0 => ite2 (by omega) (q3 r2 g0), fun r2 c2 g0 g1 => ite2 (by omega) (q4 r2 c2 g0 g1), fun r2 c2 g0 g1 => ite2 (by omega) (q5 r2 c2 g0 g1), fun r2 c2 g0 g1 => ite2 (by omega) (q6 r2 c2 g0 g1), fun r2 c2 g0 g1 => ite2 (by omega) (q7 r2 c2 g0 g1), fun r2 c2 g0 g1 => ite2 (by omega) (q8 r2 c2 g0 g1), fun r2 g0 => ite2 (by omega) (q9 r2 g0), fun r2 g0 => ite2 (by omega) (q10 r2 g0), ite2 (by omega) (q11), ite2 (by omega) (q12), ite2 (by omega) (q13), ite2 (by omega) (q14), ite2 (by omega) (q15), ite2 (by omega) (q16), ite2 (by omega) (q17), ite2 (by omega) (q18)⟩
theorem rs_prt {V : Nat → Int32} {M : xM} (h : EncRaw V M 1) {r c : Nat} (hr : r < 64) (hc : c < 4) (x : Int32) : EncRaw (upd V (164 + 4 * r + c) x) (xw M 9 (r * 4 + c) x) 1 := by
  obtain ⟨q0, q1, q2, q3, q4, q5, q6, q7, q8, q9, q10, q11, q12, q13, q14, q15, q16, q17, q18⟩ := h
  exact ⟨fun r2 c2 g0 g1 => ite2 (by omega) (q0 r2 c2 g0 g1), fun r2 c2 g0 g1 => ite2 (by omega) (q1 r2 c2 g0 g1), fun r2 c2 g0 g1 => ite2 (by omega) (q2 r2 c2 g0 g1), fun r2 g0 => ite2 (by omega) (q3 r2 g0), fun r2 c2 g0 g1 => ite2 (by omega) (q4 r2 c2 g0 g1), fun r2 c2 g0 g1 => ite2 (by omega) (q5 r2 c2 g0 g1), fun r2 c2 g0 g1 => ite2 (by omega) (q6 r2 c2 g0 g1), fun r2 c2 g0 g1 => ite2 (by omega) (q7 r2 c2 g0 g1), fun r2 c2 g0 g1 => ite2 (by omega) (q8 r2 c2 g0 g1), fun r2 g0 => ite2 (by omega) (q9 r2 g0), fun r2 g0 => ite2 (by omega) (q10 r2 g0), ite2 (by omega) (q11), ite2 (by omega) (q12), ite2 (by omega) (q13), ite2 (by omega) (q14), ite2 (by omega) (q15), ite2 (by omega) (q16), ite2 (by omega) (q17), ite2 (by omega) (q18)⟩
theorem rs_pas {V : Nat → Int32} {M : xM} (h : EncRaw V M 1) {r c : Nat} (hr : r < 24) (hc : c < 5) (x : Int32) : EncRaw (upd V (420 + 9 * r + c) x) (xw M 11 (r * 11 + c) x) 1 := by
  obtain ⟨q0, q1, q2, q3, q4, q5, q6, q7, q8, q9, q10, q11, q12, q13, q14, q15, q16, q17, q18⟩ := h
  exact ⟨fun r2 c2 g0 g1 => ite2 (by omega) (q0 r2 c2 g0 g1), fun r2 c2 g0 g1 => ite2 (by omega) (q1 r2 c2 g0 g1), fun r2 c2 g0 g1 => ite2 (by omega) (q2 r2 c2 g0 g1), fun r2 g0 => ite2 (by omega) (q3 r2 g0), fun r2 c2 g0 g1 => ite2 (by omega) (q4 r2 c2 g0 g1), fun r2 c2 g0 g1 => ite2 (by omega) (q5 r2 c2 g0 g1), fun r2 c2 g0 g1 => ite2 (by omega) (q6 r2 c2 g0 g1), fun r2 c2 g0 g1 => ite2 (by omega) (q7 r2 c2 g0 g1), fun r2 c2 g0 g1 => ite2 (by omega) (q8 r2 c2 g0 g1), fun r2 g0 => ite2 (by omega) (q9 r2 g0), fun r2 g0 => ite2 (by omega) (q10 r2 g0), ite2 (by omega) (q11), ite2 (by omega) (q12), ite2 (by omega) (q13), ite2 (by omega) (q14), ite2 (by omega) (q15), ite2 (by omega) (q16), ite2 (by omega) (q17), ite2 (by omega) (q18)⟩
theorem rs_pas7 {V : Nat → Int32} {M : xM} (h : EncRaw V M 1) {r c : Nat} (hr : r < 24) (hc : c < 4) (x : Int32) : EncRaw (upd V (420 + 9 * r + 5 + c) x) (xw M 11 (r * 11 + (7 + c)) x) 1 := by
  obtain ⟨q0, q1, q2, q3, q4, q5, q6, q7, q8, q9, q10, q11, q12, q13, q14, q15, q16, q17, q18⟩ := h
  exact ⟨fun r2 c2 g0 g1 => ite2 (by omega) (q0 r2 c2 g0 g1), fun r2 c2 g0 g1 => ite2 (by omega) (q1 r2 c2 g0 g1), fun r2 c2 g0 g1 => ite2 (by omega) (q2 r2 c2 g0 g1), fun r2 g0 => ite2 (by omega) (q3 r2 g0), fun r2 c2 g0 g1 => ite2 (by omega) (q4 r2 c2 g0 g1), fun r2 c2 g0 g1 => ite2 (by omega) (q5 r2 c2 g0 g1), fun r2 c2 g0 g1 => ite2 (by omega) (q6 r2 c2 g0 g1), fun r2 c2 g0 g1 => ite2 (by omega) (q7 r2 c2 g0 g1), fun r2 c2 g0 g1 => ite2 (by omega) (q8 r2 c2 g0 g1), fun r2 g0 => ite2 (by omega) (q9 r2 g0), fun r2 g0 => ite2 (by omega) (q10 r2 g0), ite2 (by omega) (q11), ite2 (by omega) (q12), ite2 (by omega) (q13), ite2 (by omega) (q14), ite2 (by omega) (q15), ite2 (by omega) (q16), ite2 (by omega) (q17), ite2 (by omega) (q18)⟩
theorem rs_per {V : Nat → Int32} {M : xM} (h : EncRaw V M 1) {r c : Nat} (hr : r < 24) (hc : c < 5) (x : Int32) : EncRaw (upd V (636 + 5 * r + c) x) (xw M 13 (r * 5 + c) x) 1 := by
  obtain ⟨q0, q1, q2, q3, q4, q5, q6, q7, q8, q9, q10, q11, q12, q13, q14, q15, q16, q17, q18⟩ := h
  exact ⟨fun r2 c2 g0 g1 => ite2 (by omega) (q0 r2 c2 g0 g1), fun r2 c2 g0 g1 => ite2 (by omega) (q1 r2 c2 g0 g1), fun r2 c2 g0 g1 => ite2 (by omega) (q2 r2 c2 g0 g1), fun r2 g0 => ite2 (by omega) (q3 r2 g0), fun r2 c2 g0 g1 => ite2 (by omega) (q4 r2 c2 g0 g1), fun r2 c2 g0 g1 => ite2 (by omega) (q5 r2 c2 g0 g1), fun r2 c2 g0 g1 => ite2 (by omega) (q6 r2 c2 g0 g1), fun r2 c2 g0 g1 => ite2 (by omega) (q7 r2 c2 g0 g1), fun r2 c2 g0 g1 => ite2 (by omega) (q8 r2 c2 g0 g1), fun r2 g0 => ite2 (by omega) (q9 r2 g0), fun r2 g0 => ite2 (by omega) (q10 r2 g0), ite2 (by omega) (q11), ite2 (by omega) (q12), ite2 (by omega) (q13), ite2 (by omega) (q14), ite2 (by omega) (q15), ite2 (by omega) (q16), ite2 (by omega) (q17), ite2 (by omega) (q18)⟩
theorem rs_req {V : Nat → Int32} {M : xM} (h : EncRaw V M 1) {r c : Nat} (hr : r < 16) (hc : c < 10) (x : Int32) : EncRaw (upd V (756 + 10 * r + c) x) (xw M 15 (r * 10 + c) x) 1 := by
  obtain ⟨q0, q1, q2, q3, q4, q5, q6, q7, q8, q9, q10, q11, q12, q13, q14, q15, q16, q17, q18⟩ := h
  exact ⟨fun r2 c2 g0 g1 => ite2 (by omega) (q0 r2 c2 g0 g1), fun r2 c2 g0 g1 => ite2 (by omega) (q1 r2 c2 g0 g1), fun r2 c2 g0 g1 => ite2 (by omega) (q2 r2 c2 g0 g1), fun r2 g0 => ite2 (by omega) (q3 r2 g0), fun r2 c2 g0 g1 => ite2 (by omega) (q4 r2 c2 g0 g1), fun r2 c2 g0 g1 => ite2 (by omega) (q5 r2 c2 g0 g1), fun r2 c2 g0 g1 => ite2 (by omega) (q6 r2 c2 g0 g1), fun r2 c2 g0 g1 => ite2 (by omega) (q7 r2 c2 g0 g1), fun r2 c2 g0 g1 => ite2 (by omega) (q8 r2 c2 g0 g1), fun r2 g0 => ite2 (by omega) (q9 r2 g0), fun r2 g0 => ite2 (by omega) (q10 r2 g0), ite2 (by omega) (q11), ite2 (by omega) (q12), ite2 (by omega) (q13), ite2 (by omega) (q14), ite2 (by omega) (q15), ite2 (by omega) (q16), ite2 (by omega) (q17), ite2 (by omega) (q18)⟩
theorem rs_prs0 {V : Nat → Int32} {M : xM} (h : EncRaw V M 1) {r : Nat} (hr : r < 8) (x : Int32) : EncRaw (upd V (8 + r) x) (xw M 17 (r * 2 + 0) x) 1 := by
  obtain ⟨q0, q1, q2, q3, q4, q5, q6, q7, q8, q9, q10, q11, q12, q13, q14, q15, q16, q17, q18⟩ := h
  exact ⟨fun r2 c2 g0 g1 => ite2 (by omega) (q0 r2 c2 g0 g1), fun r2 c2 g0 g1 => ite2 (by omega) (q1 r2 c2 g0 g1), fun r2 c2 g0 g1 => ite2 (by omega) (q2 r2 c2 g0 g1), fun r2 g0 => ite2 (by omega) (q3 r2 g0), fun r2 c2 g0 g1 => ite2 (by omega) (q4 r2 c2 g0 g1), fun r2 c2 g0 g1 => ite2 (by omega) (q5 r2 c2 g0 g1), fun r2 c2 g0 g1 => ite2 (by omega) (q6 r2 c2 g0 g1), fun r2 c2 g0 g1 => ite2 (by omega) (q7 r2 c2 g0 g1), fun r2 c2 g0 g1 => ite2 (by omega) (q8 r2 c2 g0 g1), fun r2 g0 => ite2 (by omega) (q9 r2 g0), fun r2 g0 => ite2 (by omega) (q10 r2 g0), ite2 (by omega) (q11), ite2 (by omega) (q12), ite2 (by omega) (q13), ite2 (by omega) (q14), ite2 (by omega) (q15), ite2 (by omega) (q16), ite2 (by omega) (q17), ite2 (by omega) (q18)⟩
theorem rs_prs1 {V : Nat → Int32} {M : xM} (h : EncRaw V M 1) {r : Nat} (hr : r < 8) (x : Int32) : EncRaw (upd V (16 + r) x) (xw M 17 (r * 2 + 1) x) 1 := by
  obtain ⟨q0, q1, q2, q3, q4, q5, q6, q7, q8, q9, q10, q11, q12, q13, q14, q15, q16, q17, q18⟩ := h
  exact ⟨fun r2 c2 g0 g1 => ite2 (by omega) (q0 r2 c2 g0 g1), fun r2 c2 g0 g1 => ite2 (by omega) (q1 r2 c2 g0 g1), fun r2 c2 g0 g1 => ite2 (by omega) (q2 r2 c2 g0 g1), fun r2 g0 => ite2 (by omega) (q3 r2 g0), fun r2 c2 g0 g1 => ite2 (by omega) (q4 r2 c2 g0 g1), fun r2 c2 g0 g1 => ite2 (by omega) (q5 r2 c2 g0 g1), fun r2 c2 g0 g1 => ite2 (by omega) (q6 r2 c2 g0 g1), fun r2 c2 g0 g1 => ite2 (by omega) (q7 r2 c2 g0 g1), fun r2 c2 g0 g1 => ite2 (by omega) (q8 r2 c2 g0 g1), fun r2 g0 => ite2 (by omega) (q9 r2 g0), fun r2 g0 => ite2 (by omega) (q10 r2 g0), ite2 (by omega) (q11), ite2 (by omega) (q12), ite2 (by omega) (q13), ite2 (by omega) (q14), ite2 (by omega) (q15), ite2 (by omega) (q16), ite2 (by omega) (q17), ite2 (by omega) (q18)⟩
theorem rs_day {V : Nat → Int32} {M : xM} (h : EncRaw V M 1)  (x : Int32) : EncRaw (upd V (0) x) (xw M 1 (8) x) 1 := by
  obtain ⟨q0, q1, q2, q3, q4, q5, q6, q7, q8, q9, q10, q11, q12, q13, q14, q15, q16, q17, q18⟩ := h
  exact ⟨fun r2 c2 g0 g1 => ite2 (by omega) (q0 r2 c2 g0 g1), fun r2 c2 g0 g1 => ite2 (by omega) (q1 r2 c2 g0 g1), fun r2 c2 g0 g1 => ite2 (by omega) (q2 r2 c2 g0 g1), fun r2 g0 => ite2 (by omega) (q3 r2 g0), fun r2 c2 g0 g1 => ite2 (by omega) (q4 r2 c2 g0 g1), fun r2 c2 g0 g1 => ite2 (by omega) (q5 r2 c2 g0 g1), fun r2 c2 g0 g1 => ite2 (by omega) (q6 r2 c2 g0 g1), fun r2 c2 g0 g1 => ite2 (by omega) (q7 r2 c2 g0 g1), fun r2 c2 g0 g1 => ite2 (by omega) (q8 r2 c2 g0 g1), fun r2 g0 => ite2 (by omega) (q9 r2 g0), fun r2 g0 => ite2 (by omega) (q10 r2 g0), ite2 (by omega) (q11), ite2 (by omega) (q12), ite2 (by omega) (q13), ite2 (by omega) (q14), ite2 (by omega) (q15), ite2 (by omega) (q16), ite2 (by omega) (q17), ite2 (by omega) (q18)⟩
theorem rs_rsn {V : Nat → Int32} {M : xM} (h : EncRaw V M 1)  (x : Int32) : EncRaw (upd V (7) x) (xw M 1 (9) x) 1 := by
  obtain ⟨q0, q1, q2, q3, q4, q5, q6, q7, q8, q9, q10, q11, q12, q13, q14, q15, q16, q17, q18⟩ := h
  exact ⟨fun r2 c2 g0 g1 => ite2 (by omega) (q0 r2 c2 g0 g1), fun r2 c2 g0 g1 => ite2 (by omega) (q1 r2 c2 g0 g1), fun r2 c2 g0 g1 => ite2 (by omega) (q2 r2 c2 g0 g1), fun r2 g0 => ite2 (by omega) (q3 r2 g0), fun r2 c2 g0 g1 => ite2 (by omega) (q4 r2 c2 g0 g1), fun r2 c2 g0 g1 => ite2 (by omega) (q5 r2 c2 g0 g1), fun r2 c2 g0 g1 => ite2 (by omega) (q6 r2 c2 g0 g1), fun r2 c2 g0 g1 => ite2 (by omega) (q7 r2 c2 g0 g1), fun r2 c2 g0 g1 => ite2 (by omega) (q8 r2 c2 g0 g1), fun r2 g0 => ite2 (by omega) (q9 r2 g0), fun r2 g0 => ite2 (by omega) (q10 r2 g0), ite2 (by omega) (q11), ite2 (by omega) (q12), ite2 (by omega) (q13), ite2 (by omega) (q14), ite2 (by omega) (q15), ite2 (by omega) (q16), ite2 (by omega) (q17), ite2 (by omega) (q18)⟩
theorem rs_n1 {V : Nat → Int32} {M : xM} (h : EncRaw V M 1)  (x : Int32) : EncRaw (upd V (1) x) (xw M 2 (2) x) 1 := by
  obtain ⟨q0, q1, q2, q3, q4, q5, q6, q7, q8, q9, q10, q11, q12, q13, q14, q15, q16, q17, q18⟩ := h
  exact ⟨fun r2 c2 g0 g1 => ite2 (by omega) (q0 r2 c2 g0 g1), fun r2 c2 g0 g1 => ite2 (by omega) (q1 r2 c2 g0 g1), fun r2 c2 g0 g1 => ite2 (by omega) (q2 r2 c2 g0 g1), fun r2 g0 => ite2 (by omega) (q3 r2 g0), fun r2 c2 g0 g1 => ite2 (by omega) (q4 r2 c2 g0 g1), fun r2 c2 g0 g1 => ite2 (by omega) (q5 r2 c2 g0 g1), fun r2 c2 g0 g1 => ite2 (by omega) (q6 r2 c2 g0 g1), fun r2 c2 g0 g1 => ite2 (by omega) (q7 r2 c2 g0 g1), fun r2 c2 g0 g1 => ite2 (by omega) (q8 r2 c2 g0 g1), fun r2 g0 => ite2 (by omega) (q9 r2 g0), fun r2 g0 => ite2 (by omega) (q10 r2 g0), ite2 (by omega) (q11), ite2 (by omega) (q12), ite2 (by omega) (q13), ite2 (by omega) (q14), ite2 (by omega) (q15), ite2 (by omega) (q16), ite2 (by omega) (q17), ite2 (by omega) (q18)⟩
theorem rs_n2 {V : Nat → Int32} {M : xM} (h : EncRaw V M 1)  (x : Int32) : EncRaw (upd V (2) x) (xw M 4 (2) x) 1 := by
  obtain ⟨q0, q1, q2, q3, q4, q5, q6, q7, q8, q9, q10, q11, q12, q13, q14, q15, q16, q17, q18⟩ := h
  exact ⟨fun r2 c2 g0 g1 => ite2 (by omega) (q0 r2 c2 g0 g1), fun r2 c2 g0 g1 => ite2 (by omega) (q1 r2 c2 g0 g1), fun r2 c2 g0 g1 => ite2 (by omega) (q2 r2 c2 g0 g1), fun r2 g0 => ite2 (by omega) (q3 r2 g0), fun r2 c2 g0 g1 => ite2 (by omega) (q4 r2 c2 g0 g1), fun r2 c2 g0 g1 => ite2 (by omega) (q5 r2 c2 g0 g1), fun r2 c2 g0 g1 => ite2 (by omega) (q6 r2 c2 g0 g1), fun r2 c2 g0 g1 => ite2 (by omega) (q7 r2 c2 g0 g1), fun r2 c2 g0 g1 => ite2 (by omega) (q8 r2 c2 g0 g1), fun r2 g0 => ite2 (by omega) (q9 r2 g0), fun r2 g0 => ite2 (by omega) (q10 r2 g0), ite2 (by omega) (q11), ite2 (by omega) (q12), ite2 (by omega) (q13), ite2 (by omega) (q14), ite2 (by omega) (q15), ite2 (by omega) (q16), ite2 (by omega) (q17), ite2 (by omega) (q18)⟩
theorem rs_n3 {V : Nat → Int32} {M : xM} (h : EncRaw V M 1)  (x : Int32) : EncRaw (upd V (3) x) (xw M 6 (2) x) 1 := by
  obtain ⟨q0, q1, q2, q3, q4, q5, q6, q7, q8, q9, q10, q11, q12, q13, q14, q15, q16, q17, q18⟩ := h
  exact ⟨fun r2 c2 g0 g1 => ite2 (by omega) (q0 r2 c2 g0 g1), fun r2 c2 g0 g1 => ite2 (by omega) (q1 r2 c2 g0 g1), fun r2 c2 g0 g1 => ite2 (by omega) (q2 r2 c2 g0 g1), fun r2 g0 => ite2 (by omega) (q3 r2 g0), fun r2 c2 g0 g1 => ite2 (by omega) (q4 r2 c2 g0 g1), fun r2 c2 g0 g1 => ite2 (by omega) (q5 r2 c2 g0 g1), fun r2 c2 g0 g1 => ite2 (by omega) (q6 r2 c2 g0 g1), fun r2 c2 g0 g1 => ite2 (by omega) (q7 r2 c2 g0 g1), fun r2 c2 g0 g1 => ite2 (by omega) (q8 r2 c2 g0 g1), fun r2 g0 => ite2 (by omega) (q9 r2 g0), fun r2 g0 => ite2 (by omega) (q10 r2 g0), ite2 (by omega) (q11), ite2 (by omega) (q12), ite2 (by omega) (q13), ite2 (by omega) (q14), ite2 (by omega) (q15), ite2 (by omega) (q16), ite2 (by omega) (q17), ite2 (by omega) (q18)⟩
theorem rs_n4 {V : Nat → Int32} {M : xM} (h : EncRaw V M 1)  (x : Int32) : EncRaw (upd V (4) x) (xw M 10 (2) x) 1 := by
  obtain ⟨q0, q1, q2, q3, q4, q5, q6, q7, q8, q9, q10, q11, q12, q13, q14, q15, q16, q17, q18⟩ := h
  exact ⟨fun r2 c2 g0 g1 => ite2 (by omega) (q0 r2 c2 g0 g1), fun r2 c2 g0 g1 => ite2 (by omega) (q1 r2 c2 g0 g1), fun r2 c2 g0 g1 => ite2 (by omega) (q2 r2 c2 g0 g1), fun r2 g0 => ite2 (by omega) (q3 r2 g0), fun r2 c2 g0 g1 => ite2 (by omega) (q4 r2 c2 g0 g1), fun r2 c2 g0 g1 => ite2 (by omega) (q5 r2 c2 g0 g1), fun r2 c2 g0 g1 => ite2 (by omega) (q6 r2 c2 g0 g1), fun r2 c2 g0 g1 => ite2 (by omega) (q7 r2 c2 g0 g1), fun r2 c2 g0 g1 => ite2 (by omega) (q8 r2 c2 g0 g1), fun r2 g0 => ite2 (by omega) (q9 r2 g0), fun r2 g0 => ite2 (by omega) (q10 r2 g0), ite2 (by omega) (q11), ite2 (by omega) (q12), ite2 (by omega) (q13), ite2 (by omega) (q14), ite2 (by omega) (q15), ite2 (by omega) (q16), ite2 (by omega) (q17), ite2 (by omega) (q18)⟩
theorem rs_n5 {V : Nat → Int32} {M : xM} (h : EncRaw V M 1)  (x : Int32) : EncRaw (upd V (5) x) (xw M 12 (2) x) 1 := by
  obtain ⟨q0, q1, q2, q3, q4, q5, q6, q7, q8, q9, q10, q11, q12, q13, q14, q15, q16, q17, q18⟩ := h
  exact ⟨fun r2 c2 g0 g1 => ite2 (by omega) (q0 r2 c2 g0 g1), fun r2 c2 g0 g1 => ite2 (by omega) (q1 r2 c2 g0 g1), fun r2 c2 g0 g1 => ite2 (by omega) (q2 r2 c2 g0 g1), fun r2 g0 => ite2 (by omega) (q3 r2 g0), fun r2 c2 g0 g1 => ite2 (by omega) (q4 r2 c2 g0 g1), fun r2 c2 g0 g1 => ite2 (by omega) (q5 r2 c2 g0 g1), fun r2 c2 g0 g1 => ite2 (by omega) (q6 r2 c2 g0 g1), fun r2 c2 g0 g1 => ite2 (by omega) (q7 r2 c2 g0 g1), fun r2 c2 g0 g1 => ite2 (by omega) (q8 r2 c2 g0 g1), fun r2 g0 => ite2 (by omega) (q9 r2 g0), fun r2 g0 => ite2 (by omega) (q10 r2 g0), ite2 (by omega) (q11), ite2 (by omega) (q12), ite2 (by omega) (q13), ite2 (by omega) (q14), ite2 (by omega) (q15), ite2 (by omega) (q16), ite2 (by omega) (q17), ite2 (by omega) (q18)⟩
theorem rs_n6 {V : Nat → Int32} {M : xM} (h : EncRaw V M 1)  (x : Int32) : EncRaw (upd V (6) x) (xw M 14 (2) x) 1 := by
  obtain ⟨q0, q1, q2, q3, q4, q5, q6, q7, q8, q9, q10, q11, q12, q13, q14, q15, q16, q17, q18⟩ := h
  exact ⟨fun r2 c2 g0 g1 => ite2 (by omega) (q0 r2 c2 g0 g1), fun r2 c2 g0 g1 => ite2 (by omega) (q1 r2 c2 g0 g1), fun r2 c2 g0 g1 => ite2 (by omega) (q2 r2 c2 g0 g1), fun r2 g0 => ite2 (by omega) (q3 r2 g0), fun r2 c2 g0 g1 => ite2 (by omega) (q4 r2 c2 g0 g1), fun r2 c2 g0 g1 => ite2 (by omega) (q5 r2 c2 g0 g1), fun r2 c2 g0 g1 => ite2 (by omega) (q6 r2 c2 g0 g1), fun r2 c2 g0 g1 => ite2 (by omega) (q7 r2 c2 g0 g1), fun r2 c2 g0 g1 => ite2 (by omega) (q8 r2 c2 g0 g1), fun r2 g0 => ite2 (by omega) (q9 r2 g0), fun r2 g0 => ite2 (by omega) (q10 r2 g0), ite2 (by omega) (q11), ite2 (by omega) (q12), ite2 (by omega) (q13), ite2 (by omega) (q14), ite2 (by omega) (q15), ite2 (by omega) (q16), ite2 (by omega) (q17), ite2 (by omega) (q18)⟩
theorem rd_car {V : Nat → Int32} {M : xM} (h : EncRaw V M 1) {r c : Nat} (hr : r < 8) (hc : 5 ≤ c ∧ c < 7) (x : Int32) : EncRaw (V) (xw M 3 (r * 7 + c) x) 1 := by
  obtain ⟨q0, q1, q2, q3, q4, q5, q6, q7, q8, q9, q10, q11, q12, q13, q14, q15, q16, q17, q18⟩ := h
  exact ⟨fun r2 c2 g0 g1 => (if_neg (by omega)).trans (q0 r2 c2 g0 g1), fun r2 c2 g0 g1 => (if_neg (by omega)).trans (q1 r2 c2 g0 g1), fun r2 c2 g0 g1 => (if_neg (by omega)).trans (q2 r2 c2 g0 g1), fun r2 g0 => (if_neg (by omega)).trans (q3 r2 g0), fun r2 c2 g0 g1 => (if_neg (by omega)).trans (q4 r2 c2 g0 g1), fun r2 c2 g0 g1 => (if_neg (by omega)).trans (q5 r2 c2 g0 g1), fun r2 c2 g0 g1 => (if_neg (by omega)).trans (q6 r2 c2 g0 g1), fun r2 c2 g0 g1 => (if_neg (by omega)).trans (q7 r2 c2 g0 g1), fun r2 c2 g0 g1 => (if_neg (by omega)).trans (q8 r2 c2 g0 g1), fun r2 g0 => (if_neg (by omega)).trans (q9 r2 g0), fun r2 g0 => (if_neg (by omega)).trans (q10 r2 g0), (if_neg (by omega)).trans (q11), (if_neg (by omega)).trans (q12), (if_neg (by omega)).trans (q13), (if_neg (by omega)).trans (q14), (if_neg (by omega)).trans (q15), (if_neg (by omega)).trans (q16), (if_neg (by omega)).trans (q17), (if_neg (by omega)).trans (q18)⟩
theorem rd_mac {V : Nat → Int32} {M : xM} (h : EncRaw V M 1) {r : Nat} (hr : r < 4) (x : Int32) : EncRaw (V) (xw M 5 (r * 6 + 5) x) 1 := by
  obtain ⟨q0, q1, q2, q3, q4, q5, q6, q7, q8, q9, q10, q11, q12, q13, q14, q15, q16, q17, q18⟩ := h
  exact ⟨fun r2 c2 g0 g1 => (if_neg (by omega)).trans (q0 r2 c2 g0 g1), fun r2 c2 g0 g1 => (if_neg (by omega)).trans (q1 r2 c2 g0 g1), fun r2 c2 g0 g1 => (if_neg (by omega)).trans (q2 r2 c2 g0 g1), fun r2 g0 => (if_neg (by omega)).trans (q3 r2 g0), fun r2 c2 g0 g1 => (if_neg (by omega)).trans (q4 r2 c2 g0 g1), fun r2 c2 g0 g1 => (if_neg (by omega)).trans (q5 r2 c2 g0 g1), fun r2 c2 g0 g1 => (if_neg (by omega)).trans (q6 r2 c2 g0 g1), fun r2 c2 g0 g1 => (if_neg (by omega)).trans (q7 r2 c2 g0 g1), fun r2 c2 g0 g1 => (if_neg (by omega)).trans (q8 r2 c2 g0 g1), fun r2 g0 => (if_neg (by omega)).trans (q9 r2 g0), fun r2 g0 => (if_neg (by omega)).trans (q10 r2 g0), (if_neg (by omega)).trans (q11), (if_neg (by omega)).trans (q12), (if_neg (by omega)).trans (q13), (if_neg (by omega)).trans (q14), (if_neg (by omega)).trans (q15), (if_neg (by omega)).trans (q16), (if_neg (by omega)).trans (q17), (if_neg (by omega)).trans (q18)⟩
theorem rd_rec {V : Nat → Int32} {M : xM} (h : EncRaw V M 1) {r : Nat} (hr : r < 16) (x : Int32) : EncRaw (V) (xw M 7 (r * 6 + 4) x) 1 := by
  obtain ⟨q0, q1, q2, q3, q4, q5, q6, q7, q8, q9, q10, q11, q12, q13, q14, q15, q16, q17, q18⟩ := h
  exact ⟨fun r2 c2 g0 g1 => (if_neg (by omega)).trans (q0 r2 c2 g0 g1), fun r2 c2 g0 g1 => (if_neg (by omega)).trans (q1 r2 c2 g0 g1), fun r2 c2 g0 g1 => (if_neg (by omega)).trans (q2 r2 c2 g0 g1), fun r2 g0 => (if_neg (by omega)).trans (q3 r2 g0), fun r2 c2 g0 g1 => (if_neg (by omega)).trans (q4 r2 c2 g0 g1), fun r2 c2 g0 g1 => (if_neg (by omega)).trans (q5 r2 c2 g0 g1), fun r2 c2 g0 g1 => (if_neg (by omega)).trans (q6 r2 c2 g0 g1), fun r2 c2 g0 g1 => (if_neg (by omega)).trans (q7 r2 c2 g0 g1), fun r2 c2 g0 g1 => (if_neg (by omega)).trans (q8 r2 c2 g0 g1), fun r2 g0 => (if_neg (by omega)).trans (q9 r2 g0), fun r2 g0 => (if_neg (by omega)).trans (q10 r2 g0), (if_neg (by omega)).trans (q11), (if_neg (by omega)).trans (q12), (if_neg (by omega)).trans (q13), (if_neg (by omega)).trans (q14), (if_neg (by omega)).trans (q15), (if_neg (by omega)).trans (q16), (if_neg (by omega)).trans (q17), (if_neg (by omega)).trans (q18)⟩
theorem rd_pas {V : Nat → Int32} {M : xM} (h : EncRaw V M 1) {r c : Nat} (hr : r < 24) (hc : 5 ≤ c ∧ c < 7) (x : Int32) : EncRaw (V) (xw M 11 (r * 11 + c) x) 1 := by
  obtain ⟨q0, q1, q2, q3, q4, q5, q6, q7, q8, q9, q10, q11, q12, q13, q14, q15, q16, q17, q18⟩ := h
  exact ⟨fun r2 c2 g0 g1 => (if_neg (by omega)).trans (q0 r2 c2 g0 g1), fun r2 c2 g0 g1 => (if_neg (by omega)).trans (q1 r2 c2 g0 g1), fun r2 c2 g0 g1 => (if_neg (by omega)).trans (q2 r2 c2 g0 g1), fun r2 g0 => (if_neg (by omega)).trans (q3 r2 g0), fun r2 c2 g0 g1 => (if_neg (by omega)).trans (q4 r2 c2 g0 g1), fun r2 c2 g0 g1 => (if_neg (by omega)).trans (q5 r2 c2 g0 g1), fun r2 c2 g0 g1 => (if_neg (by omega)).trans (q6 r2 c2 g0 g1), fun r2 c2 g0 g1 => (if_neg (by omega)).trans (q7 r2 c2 g0 g1), fun r2 c2 g0 g1 => (if_neg (by omega)).trans (q8 r2 c2 g0 g1), fun r2 g0 => (if_neg (by omega)).trans (q9 r2 g0), fun r2 g0 => (if_neg (by omega)).trans (q10 r2 g0), (if_neg (by omega)).trans (q11), (if_neg (by omega)).trans (q12), (if_neg (by omega)).trans (q13), (if_neg (by omega)).trans (q14), (if_neg (by omega)).trans (q15), (if_neg (by omega)).trans (q16), (if_neg (by omega)).trans (q17), (if_neg (by omega)).trans (q18)⟩
theorem ec_set {M : xM} {k j : Nat} {v : Int32} (h : EncCol M 1) (hk : k % 2 = 1 ∨ (j = 2 ∧ k ≠ 8 ∧ k ≠ 16)) : EncCol (xw M k j v) 1 := by
  obtain ⟨a0, a1, a2, a3, a4, a5, a6, a7, a8, a9⟩ := h
  exact ⟨(xw_o (by omega)).trans a0, (xw_o (by omega)).trans a1, (xw_o (by omega)).trans a2, (xw_o (by omega)).trans a3, (xw_o (by omega)).trans a4, (xw_o (by omega)).trans a5, (xw_o (by omega)).trans a6, (xw_o (by omega)).trans a7, (xw_o (by omega)).trans a8, (xw_o (by omega)).trans a9⟩
theorem z_upd {V : Nat → Int32} {k : Nat} {x : Int32} (h : Z916 V) (hk : k < 916) : Z916 (upd V k x) := fun j hj => by rw [upd_ne (by omega)]; exact h j hj
/-- EncDer where nothing that it reads has changed -/
theorem Der_c {V V2 : Nat → Int32} {M M2 : xM} (hok : Ok V) (h : EncDer V M 1) (e3 : V2 3 = V 3) (e4 : V2 4 = V 4) (ep : ∀ j, 420 ≤ j → j < 636 → V2 j = V j) (er : ∀ r, r < 16 → V2 (84 + 5 * r) = V (84 + 5 * r) ∧ V2 (84 + 5 * r + 1) = V (84 + 5 * r + 1)) (el : ∀ r, r < nN V 1 → V2 (24 + 5 * r + 2) = V (24 + 5 * r + 2))
    (m1 : ∀ r c, r < 8 → 5 ≤ c → c < 7 → M2 3 (r * 7 + c) = M 3 (r * 7 + c)) (m2 : ∀ r, r < 4 → M2 5 (r * 6 + 5) = M 5 (r * 6 + 5)) (m3 : ∀ r, r < 16 → M2 7 (r * 6 + 4) = M 7 (r * 6 + 4)) (m4 : ∀ r c, r < 24 → 5 ≤ c → c < 7 → M2 11 (r * 11 + c) = M 11 (r * 11 + c)) : EncDer V2 M2 1 := by
  obtain ⟨d1, d2, d3, d4, d5, d6⟩ := h
  have n3 := ok_c3 hok
  have n4 := ok_c4 hok
  have n1 := ok_c1 hok
  have x3 : nN V2 3 = nN V 3 := by unfold nN; rw [e3]
  have x4 : nN V2 4 = nN V 4 := by unfold nN; rw [e4]
  have ly : ∀ p, p < nN V 4 → lyP V2 p = lyP V p := fun p hp => by
    have h1 := (hok.2.2.2.2.2.2.1 p hp).2.1
    unfold lyP
    have : nN V2 (420 + 9 * p) = nN V (420 + 9 * p) := by unfold nN; rw [ep _ (by omega) (by omega)]
    rw [this, el _ (by omega)]
  have lr : ∀ r, r < nN V 3 → lyR V2 r = lyR V r := fun r hr => by
    have h1 := (hok.2.2.2.1 r hr).2.1
    unfold lyR
    have : nN V2 (84 + 5 * r) = nN V (84 + 5 * r) := by unfold nN; rw [(er r (by omega)).1]
    rw [this, el _ (by omega)]
  refine ⟨fun r hr => ?_, fun r hr => ?_, fun r hr => ?_, fun r hr => ?_, fun p hp => ?_, fun p hp => ?_⟩
  · rw [m1 r 5 hr (by decide) (by decide), d1 r hr]
    unfold psO
    rw [x4]
    exact congrArg nI (cN_congr (fun p hp => by rw [ep _ (by omega) (by omega)]))
  · rw [m1 r 6 hr (by decide) (by decide), d2 r hr]
    unfold rcO
    rw [x3]
    exact congrArg nI (cN_congr (fun p hp => by rw [(er p (by omega)).1]))
  · rw [m2 r hr, d3 r hr]
    unfold pmO
    rw [x4]
    exact congrArg nI (cN_congr (fun p hp => by rw [ep _ (by omega) (by omega)]))
  · rw [x3] at hr
    rw [m3 r (by omega), lr r hr, (er r (by omega)).2]
    exact d4 r hr
  · rw [x4] at hp
    rw [m4 p 5 (by omega) (by decide) (by decide), d5 p hp]
    unfold tkO
    rw [ep (420 + 9 * p + 5 + 0) (by omega) (by omega), ep (420 + 9 * p + 5 + 1) (by omega) (by omega), ep (420 + 9 * p + 5 + 2) (by omega) (by omega), ep (420 + 9 * p + 5 + 3) (by omega) (by omega)]
  · rw [x4] at hp
    rw [m4 p 6 (by omega) (by decide) (by decide), d6 p hp]
    unfold bkO
    rw [ly p hp, ep (420 + 9 * p + 3) (by omega) (by omega), ep (420 + 9 * p + 5 + 0) (by omega) (by omega), ep (420 + 9 * p + 5 + 1) (by omega) (by omega), ep (420 + 9 * p + 5 + 2) (by omega) (by omega), ep (420 + 9 * p + 5 + 3) (by omega) (by omega)]
/-- the cells that no op but save and the text's own change, and that say something -/
def fr (k : Nat) : Prop := 18 ≤ k ∧ k ≠ 141 ∧ ¬ (143 ≤ k ∧ k ≤ 150) ∧ k ≠ 157 ∧ k ≠ 158
/-- keep, then what comes of it -/
theorem do_keep {M : xM} (hR : Rl M) : ∃ Mk, f_X1_keep M = some Mk ∧ Vw (M 150) Mk ∧ (∀ k, k < 18 ∨ 105 ≤ k → Mk k = M k) ∧ ∀ M1 : xM, (∀ k, fr k → M1 k = Mk k) → M1 150 = Mk 150 → M1 141 2 = Mk 141 2 → M1 149 2 = Mk 149 2 → M1 149 6 = Mk 149 6 → ∃ Mr, f_X9_record M1 = some Mr ∧ (∀ k, k ≠ 149 → k ≠ 151 → Mr k = M1 k) ∧ (∀ j, j ≠ 2 → Mr 149 j = M1 149 j) ∧ ∀ M2 : xM, (∀ k, fr k → M2 k = Mr k) → M2 141 2 = Mr 141 2 → M2 149 2 = Mr 149 2 → M2 149 6 = Mr 149 6 → Enc (M2 150) M2 1 → Z916 (M2 150) → EncCol M2 1 → Rl M2 := by
  obtain ⟨hE, hz, hc, hk, hH, hS, hT⟩ := hR
  obtain ⟨hc5, h, e, hh, he, a3, a4, a5, a6⟩ := hH
  obtain ⟨Mk, k1, k2⟩ := keep_e hc5 hc hh he a5 a4
  have same : ∀ k, k < 18 ∨ 105 ≤ k → Mk k = M k := fun k hk => k2.1 k (by omega)
  refine ⟨Mk, k1, ⟨trivial, Enc_of hE (Lk_same (fun k _ _ => same k (by omega))), Col_same (fun k _ _ => same k (by omega)) hc, trivial⟩, same, fun M1 h1 h150 h141 h149 h1496 => ?_⟩
  have g : ∀ k, 105 ≤ k → fr k → M1 k = M k := fun k b1 b2 => (h1 k b2).trans (same k (by omega))
  obtain ⟨r1, r2⟩ := keep_rec hE hz hh he a3 a6 k2 (h149.trans (by rw [same 149 (by decide)])) (h150.trans (same 150 (by decide))) (g 151 (by decide) (by unfold fr; omega))
  have m : ∀ k, k ≠ 149 → k ≠ 151 → recM h M1 k = M1 k := fun k b1 b2 => by
    funext j
    unfold recM
    simp [b1, b2]
  have m9 : ∀ j, j ≠ 2 → recM h M1 149 j = M1 149 j := fun j b1 => by
    unfold recM
    simp [b1]
  refine ⟨recM h M1, r1, m, m9, fun M2 f1 f141 f149 f1496 g1 g2 g3 => ?_⟩
  have f : ∀ k, 105 ≤ k → k ≠ 151 → fr k → M2 k = M k := fun k b1 b2 b3 => by
    have b4 : k ≠ 149 := by unfold fr at b3; omega
    rw [f1 k b3, m k b4 b2, g k b1 b3]
  refine ⟨g1, g2, g3, RefK_fr hk (f 155 (by omega) (by omega) (by unfold fr; omega)) (f 156 (by omega) (by omega) (by unfold fr; omega)), r2 M2 (fun k b1 b2 => ?_) f149 (f1 151 (by unfold fr; omega)), Slots_fr hS (fun k b1 b2 => f k (by omega) (by omega) (by unfold fr; omega)) (f 152 (by omega) (by omega) (by unfold fr; omega)) (f 153 (by omega) (by omega) (by unfold fr; omega)), Txt_fr hT ?_ (f 142 (by omega) (by omega) (by unfold fr; omega)) ?_ (f 154 (by omega) (by omega) (by unfold fr; omega))⟩
  · rw [f1 k (by unfold fr; omega), m k (by omega) (by omega), h1 k (by unfold fr; omega)]
  · rw [f141, m 141 (by decide) (by decide), h141, same 141 (by decide)]
  · rw [f1496, m9 6 (by decide), h1496, same 149 (by decide)]

