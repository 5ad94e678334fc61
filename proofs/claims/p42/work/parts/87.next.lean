def cbB (V : Nat → Int32) (a b : Nat) : Bool := decide (if V (756 + 10 * a + 7) = V (756 + 10 * b + 7) then (if V (756 + 10 * a + 5) = V (756 + 10 * b + 5) then (if V (756 + 10 * a + 6) = V (756 + 10 * b + 6) then a < b else ¬ V (756 + 10 * a + 6) ≤ V (756 + 10 * b + 6)) else ¬ V (756 + 10 * a + 5) ≤ V (756 + 10 * b + 5)) else ¬ V (756 + 10 * b + 7) ≤ V (756 + 10 * a + 7))
theorem cb_self (V : Nat → Int32) (a : Nat) : cbB V a a = false := by unfold cbB; simp
theorem sub0 {x y : Int32} (h1 : rg x 0 10000) (h2 : rg y 0 10000) : ((x - y = 0) = (x = y)) ∧ ((x - y ≤ 0) = (x ≤ y)) ∧ ((0 ≤ x - y) = (y ≤ x)) := by
  have e := sub_rg h1 h2 (by decide) (by decide)
  have z : (0 : Int32).toInt = 0 := rfl
  refine ⟨propext ⟨fun w => ?_, fun w => ?_⟩, propext ⟨fun w => ?_, fun w => ?_⟩, propext ⟨fun w => ?_, fun w => ?_⟩⟩
  · have := congrArg Int32.toInt w; exact Int32.toInt_inj.mp (by omega)
  · have := congrArg Int32.toInt w; exact Int32.toInt_inj.mp (by omega)
  · have := Int32.le_iff_toInt_le.mp w; exact Int32.le_iff_toInt_le.mpr (by omega)
  · have := Int32.le_iff_toInt_le.mp w; exact Int32.le_iff_toInt_le.mpr (by omega)
  · have := Int32.le_iff_toInt_le.mp w; exact Int32.le_iff_toInt_le.mpr (by omega)
  · have := Int32.le_iff_toInt_le.mp w; exact Int32.le_iff_toInt_le.mpr (by omega)
theorem rg_up {x : Int32} {a b c d : Int} (h : rg x a b) (h1 : c ≤ a) (h2 : b ≤ d) : rg x c d := ⟨Int.le_trans h1 h.1, Int.le_trans h.2 h2⟩
theorem cb8 {V : Nat → Int32} {M : xM} (h : Vw V M) {a b : Nat} (ha : a < nN V 6) (hb : b < nN V 6) : f_X8_comesBefore M (nI a) (nI b) = some (bI (cbB V a b = true)) := by
  have ho := v_ok h
  have c6 := ok_c6 ho
  have A := ho.2.2.2.2.2.2.2.2.2.1 a ha
  have B := ho.2.2.2.2.2.2.2.2.2.1 b hb
  have s7 := sub0 (rg_up A.2.2.2.2.2.2.2.2.1 (Int.le_refl _) (by decide)) (rg_up B.2.2.2.2.2.2.2.2.1 (Int.le_refl _) (by decide))
  have s5 := sub0 (rg_up A.2.2.2.2.2.2.1 (Int.le_refl _) (by decide)) (rg_up B.2.2.2.2.2.2.1 (Int.le_refl _) (by decide))
  have s6 := sub0 (rg_up A.2.2.2.2.2.2.2.1 (by decide) (by decide)) (rg_up B.2.2.2.2.2.2.2.1 (by decide) (by decide))
  unfold f_X8_comesBefore bI cbB
  rw [g_req_7 h ha, xb_n, g_req_7 h hb, xb_n, xl_n, g_req_5 h ha, xb_n, g_req_5 h hb, xb_n, xl_n, g_req_6 h ha, xb_n, g_req_6 h hb, xb_n, xl_n]
  simp only [s7.1, s7.2.2, s5.1, s5.2.1, s6.1, s6.2.1, le_n (show b < 2147483648 by omega) (show a < 2147483648 by omega), decide_eq_true_eq]
  by_cases q7 : V (756 + 10 * a + 7) = V (756 + 10 * b + 7)
  · simp only [if_pos q7]
    by_cases q5 : V (756 + 10 * a + 5) = V (756 + 10 * b + 5)
    · simp only [if_pos q5]
      by_cases q6 : V (756 + 10 * a + 6) = V (756 + 10 * b + 6)
      · simp only [if_pos q6]
        by_cases w : b ≤ a
        · rw [if_pos w, if_neg (by omega)]
        · rw [if_neg w, if_pos (by omega)]
      · simp only [if_neg q6]
        by_cases w : V (756 + 10 * a + 6) ≤ V (756 + 10 * b + 6)
        · rw [if_pos w, if_neg (fun z => z w)]
        · rw [if_neg w, if_pos w]
    · simp only [if_neg q5]
      by_cases w : V (756 + 10 * a + 5) ≤ V (756 + 10 * b + 5)
      · rw [if_pos w, if_neg (fun z => z w)]
      · rw [if_neg w, if_pos w]
  · simp only [if_neg q7]
    by_cases w : V (756 + 10 * b + 7) ≤ V (756 + 10 * a + 7)
    · rw [if_pos w, if_neg (fun z => z w)]
    · rw [if_neg w, if_pos w]
def ahP (V : Nat → Int32) (b i : Nat) : Bool := decide (V (756 + 10 * i) = 0) && cbB V i b
theorem ah8 {V : Nat → Int32} {M : xM} (h : Vw V M) {b : Nat} (hb : b < nN V 6) : f_X8_openAheadOf M (nI b) = some (nI (cN (ahP V b) (nN V 6))) := by
  have c6 := ok_c6 (v_ok h)
  have key : ∀ (d i fu : Nat), i + d = nN V 6 → d < fu → f_X8_openAheadOf_4 M fu (nI b) (nI (cN (ahP V b) i)) (nI i) = some (nI (cN (ahP V b) (nN V 6))) := by
    intro d
    induction d with
    | zero =>
      intro i fu e1 e2
      obtain ⟨g, rfl⟩ : ∃ g, fu = g + 1 := ⟨fu - 1, by omega⟩
      have : i = nN V 6 := by omega
      subst this
      rw [f_X8_openAheadOf_4, v_rows_req h, if_pos (by rw [le_n (by omega) (by omega)]; exact Nat.le_refl _)]
    | succ d ih =>
      intro i fu e1 e2
      obtain ⟨g, rfl⟩ : ∃ g, fu = g + 1 := ⟨fu - 1, by omega⟩
      have p1 := ih (i + 1) g (by omega) (by omega)
      have hs : cN (ahP V b) (i + 1) = cN (ahP V b) i + (if (decide (V (756 + 10 * i) = 0) && cbB V i b) = true then 1 else 0) := rfl
      rw [hs] at p1
      rw [f_X8_openAheadOf_4, v_rows_req h, if_neg (by rw [le_n (by omega) (by omega)]; omega), isOpen8 h (by omega), xb_n, cb8 h (by omega) hb]
      unfold f_X8_openAheadOf_38
      simp only [xb_n, xl_n, ir_1, ifb0]
      by_cases q1 : V (756 + 10 * i) = 0
      · rw [if_pos q1]
        by_cases q2 : cbB V i b = true
        · rw [if_pos q2]; simpa [q1, q2] using p1
        · rw [if_neg q2]; simpa [q1, q2] using p1
      · rw [if_neg q1]; simpa [q1] using p1
  unfold f_X8_openAheadOf
  rw [xl_n, xl_n]
  exact key (nN V 6) 0 xFU (by omega) (by unfold xFU; omega)
