/-! next -/
def cbB (V : Nat → Int32) (a b : Nat) : Bool := decide (if V (756 + 10 * a + 7) = V (756 + 10 * b + 7) then (if V (756 + 10 * a + 5) = V (756 + 10 * b + 5) then (if V (756 + 10 * a + 6) = V (756 + 10 * b + 6) then a < b else ¬ V (756 + 10 * a + 6) ≤ V (756 + 10 * b + 6)) else ¬ V (756 + 10 * a + 5) ≤ V (756 + 10 * b + 5)) else ¬ V (756 + 10 * b + 7) ≤ V (756 + 10 * a + 7))
theorem cb_self (V : Nat → Int32) (a : Nat) : cbB V a a = false := by unfold cbB; simp
theorem sub0 {x y : Int32} (h1 : rg x 0 10000) (h2 : rg y 0 10000) : ((x - y = 0) = (x = y)) ∧ ((x - y ≤ 0) = (x ≤ y)) ∧ ((0 ≤ x - y) = (y ≤ x)) := by
  have e := sub_rg h1 h2 (by decide) (by decide)
  have z : (0 : Int32).toInt = 0 := rfl
  refine ⟨propext ⟨fun w => ?_, fun w => ?_⟩, propext ⟨fun w => ?_, fun w => ?_⟩, propext ⟨fun w => ?_, fun w => ?_⟩⟩
  · have := congrArg Int32.toInt w; exact Int32.toInt_inj.mp (by omega)
  · have := congrArg Int32.toInt w; exact Int32.toInt_inj.mp (by omega)
  · have := Int32.le_iff_toInt_le.mp w; exact Int32.le_iff_toInt_le.mpr (by omega)
  · have := Int32.le_iff_toInt_le.mp w; exact Int32.le_iff_toInt_le.mpr (by omega)
  · have := Int32.le_iff_toInt_le.mp w; exact Int32.le_iff_toInt_le.mpr (by omega)
  · have := Int32.le_iff_toInt_le.mp w; exact Int32.le_iff_toInt_le.mpr (by omega)
theorem rg_up {x : Int32} {a b c d : Int} (h : rg x a b) (h1 : c ≤ a) (h2 : b ≤ d) : rg x c d := ⟨Int.le_trans h1 h.1, Int.le_trans h.2 h2⟩
theorem cb8 {V : Nat → Int32} {M : xM} (h : Vw V M) {a b : Nat} (ha : a < nN V 6) (hb : b < nN V 6) : f_X8_comesBefore M (nI a) (nI b) = some (bI (cbB V a b = true)) := by
  have ho := v_ok h
  have c6 := ok_c6 ho
  have A := ho.2.2.2.2.2.2.2.2.2.1 a ha
  have B := ho.2.2.2.2.2.2.2.2.2.1 b hb
  have s7 := sub0 (rg_up A.2.2.2.2.2.2.2.2.1 (Int.le_refl _) (by decide)) (rg_up B.2.2.2.2.2.2.2.2.1 (Int.le_refl _) (by decide))
  have s5 := sub0 (rg_up A.2.2.2.2.2.2.1 (Int.le_refl _) (by decide)) (rg_up B.2.2.2.2.2.2.1 (Int.le_refl _) (by decide))
  have s6 := sub0 (rg_up A.2.2.2.2.2.2.2.1 (by decide) (by decide)) (rg_up B.2.2.2.2.2.2.2.1 (by decide) (by decide))
  unfold f_X8_comesBefore bI cbB
  rw [g_req_7 h ha, xb_n, g_req_7 h hb, xb_n, xl_n, g_req_5 h ha, xb_n, g_req_5 h hb, xb_n, xl_n, g_req_6 h ha, xb_n, g_req_6 h hb, xb_n, xl_n]
  simp only [s7.1, s7.2.2, s5.1, s5.2.1, s6.1, s6.2.1, le_n (show b < 2147483648 by omega) (show a < 2147483648 by omega), decide_eq_true_eq]
  by_cases q7 : V (756 + 10 * a + 7) = V (756 + 10 * b + 7)
  · simp only [if_pos q7]
    by_cases q5 : V (756 + 10 * a + 5) = V (756 + 10 * b + 5)
    · simp only [if_pos q5]
      by_cases q6 : V (756 + 10 * a + 6) = V (756 + 10 * b + 6)
      · simp only [if_pos q6]
        by_cases w : b ≤ a
        · rw [if_pos w, if_neg (by omega)]
        · rw [if_neg w, if_pos (by omega)]
      · simp only [if_neg q6]
        by_cases w : V (756 + 10 * a + 6) ≤ V (756 + 10 * b + 6)
        · rw [if_pos w, if_neg (fun z => z w)]
        · rw [if_neg w, if_pos w]
    · simp only [if_neg q5]
      by_cases w : V (756 + 10 * a + 5) ≤ V (756 + 10 * b + 5)
      · rw [if_pos w, if_neg (fun z => z w)]
      · rw [if_neg w, if_pos w]
  · simp only [if_neg q7]
    by_cases w : V (756 + 10 * b + 7) ≤ V (756 + 10 * a + 7)
    · rw [if_pos w, if_neg (fun z => z w)]
    · rw [if_neg w, if_pos w]
theorem cb9 {V : Nat → Int32} {M : xM} (h : M 150 = V) {a b : Nat} (ha : a < 16) (hb : b < 16) : f_X9_isAhead M (nI a) (nI b) = some (bI (cbB V a b = true)) := by
  unfold f_X9_isAhead bI cbB
  simp (disch := omega) only [ite_true, IM, IA, IR, IC, IN, nI_add, pk_mul, xin_n, cl_n, xgd_n, ↓xl_n, xb_n, xb2_n, xw_wV, wV_150, h, le_n, decide_eq_true_eq]
  by_cases q7 : V (756 + 10 * a + 7) = V (756 + 10 * b + 7)
  · simp only [if_pos q7]
    by_cases q5 : V (756 + 10 * a + 5) = V (756 + 10 * b + 5)
    · simp only [if_pos q5]
      by_cases q6 : V (756 + 10 * a + 6) = V (756 + 10 * b + 6)
      · simp only [if_pos q6]
        by_cases w : b ≤ a
        · rw [if_pos w, if_neg (by omega)]
        · rw [if_neg w, if_pos (by omega)]
      · simp only [if_neg q6]
        by_cases w : V (756 + 10 * a + 6) ≤ V (756 + 10 * b + 6)
        · rw [if_pos w, if_neg (fun z => z w)]
        · rw [if_neg w, if_pos w]
    · simp only [if_neg q5]
      by_cases w : V (756 + 10 * a + 5) ≤ V (756 + 10 * b + 5)
      · rw [if_pos w, if_neg (fun z => z w)]
      · rw [if_neg w, if_pos w]
  · simp only [if_neg q7]
    by_cases w : V (756 + 10 * b + 7) ≤ V (756 + 10 * a + 7)
    · rw [if_pos w, if_neg (fun z => z w)]
    · rw [if_neg w, if_pos w]
def ahP (V : Nat → Int32) (b i : Nat) : Bool := decide (V (756 + 10 * i) = 0) && cbB V i b
theorem ah8 {V : Nat → Int32} {M : xM} (h : Vw V M) {b : Nat} (hb : b < nN V 6) : f_X8_openAheadOf M (nI b) = some (nI (cN (ahP V b) (nN V 6))) := by
  have c6 := ok_c6 (v_ok h)
  have key : ∀ (d i fu : Nat), i + d = nN V 6 → d < fu → f_X8_openAheadOf_4 M fu (nI b) (nI (cN (ahP V b) i)) (nI i) = some (nI (cN (ahP V b) (nN V 6))) := by
    intro d
    induction d with
    | zero =>
      intro i fu e1 e2
      obtain ⟨g, rfl⟩ : ∃ g, fu = g + 1 := ⟨fu - 1, by omega⟩
      have : i = nN V 6 := by omega
      subst this
      rw [f_X8_openAheadOf_4, v_rows_req h, if_pos (by rw [le_n (by omega) (by omega)]; exact Nat.le_refl _)]
    | succ d ih =>
      intro i fu e1 e2
      obtain ⟨g, rfl⟩ : ∃ g, fu = g + 1 := ⟨fu - 1, by omega⟩
      have p1 := ih (i + 1) g (by omega) (by omega)
      have hs : cN (ahP V b) (i + 1) = cN (ahP V b) i + (if (decide (V (756 + 10 * i) = 0) && cbB V i b) = true then 1 else 0) := rfl
      rw [hs] at p1
      rw [f_X8_openAheadOf_4, v_rows_req h, if_neg (by rw [le_n (by omega) (by omega)]; omega), isOpen8 h (by omega), xb_n, cb8 h (by omega) hb]
      unfold f_X8_openAheadOf_38
      simp only [xb_n, xl_n, ir_1, ifb0]
      by_cases q1 : V (756 + 10 * i) = 0
      · rw [if_pos q1]
        by_cases q2 : cbB V i b = true
        · rw [if_pos q2]; simpa [q1, q2] using p1
        · rw [if_neg q2]; simpa [q1, q2] using p1
      · rw [if_neg q1]; simpa [q1] using p1
  unfold f_X8_openAheadOf
  rw [xl_n, xl_n]
  exact key (nN V 6) 0 xFU (by omega) (by unfold xFU; omega)
theorem ah9 {V : Nat → Int32} {M : xM} (h : M 150 = V) (ho : Ok V) (k : Int32 → Int32 → Option Int32) (a : Int32) {b : Nat} (hb : b < nN V 6) : ∀ (d i fu : Nat), i + d = nN V 6 → d < fu → f_X9_next_25 M k fu a (nI b) (nI (cN (ahP V b) i)) (nI i) = if V (756 + 10 * b) = 0 then (if nI (cN (ahP V b) (nN V 6)) = a then some (nI b) else k a (nI (b + 1))) else k a (nI (b + 1)) := by
  have c6 := ok_c6 ho
  have n6 := ok_n6 ho
  intro d
  induction d with
  | zero =>
    intro i fu e1 e2
    obtain ⟨g, rfl⟩ : ∃ g, fu = g + 1 := ⟨fu - 1, by omega⟩
    have : i = nN V 6 := by omega
    subst this
    rw [f_X9_next_25]
    unfold f_X9_next_91
    simp (disch := omega) only [ite_true, IM, IA, IR, IC, IN, nI_add, pk_mul, xin_n, cl_n, xgd_n, ↓xl_n, xb_n, xb2_n, xw_wV, wV_150, h, n6, isOpen9 h (show b < 16 by omega), ifb0]
    rw [if_pos (by rw [le_n (by omega) (by omega)]; exact Nat.le_refl _)]
  | succ d ih =>
    intro i fu e1 e2
    obtain ⟨g, rfl⟩ : ∃ g, fu = g + 1 := ⟨fu - 1, by omega⟩
    have p1 := ih (i + 1) g (by omega) (by omega)
    have hs : cN (ahP V b) (i + 1) = cN (ahP V b) i + (if (decide (V (756 + 10 * i) = 0) && cbB V i b) = true then 1 else 0) := rfl
    rw [hs] at p1
    rw [f_X9_next_25]
    unfold f_X9_next_67 f_X9_next_68
    simp (disch := omega) only [ite_true, IM, IA, IR, IC, IN, nI_add, pk_mul, xin_n, cl_n, xgd_n, ↓xl_n, xb_n, xb2_n, xw_wV, wV_150, h, n6, isOpen9 h (show i < 16 by omega), cb9 h (show i < 16 by omega) (show b < 16 by omega), ifb0]
    rw [if_neg (by rw [le_n (by omega) (by omega)]; omega)]
    by_cases q0 : i = b
    · have hz : cbB V i b = false := by rw [q0]; exact cb_self V b
      rw [if_pos (by rw [q0])]
      simpa [hz] using p1
    · rw [if_neg (by rw [eq_n (by omega) (by omega)]; exact q0)]
      by_cases q1 : V (756 + 10 * i) = 0
      · rw [if_pos q1]
        by_cases q2 : cbB V i b = true
        · rw [if_pos q2]; simpa [q1, q2] using p1
        · rw [if_neg q2]; simpa [q1, q2] using p1
      · rw [if_neg q1]; simpa [q1] using p1
theorem op_next {M : xM} (hR : Rl M) (a : Int32) : Op1 (fun m => f_X8_next m a) (fun m => f_X9_next m a) M := by
  have hv := Rl_vw hR
  have ho := v_ok hv
  have c6 := ok_c6 ho
  have n6 := ok_n6 ho
  unfold Op1 f_X8_next f_X9_next
  by_cases h0 : 0 ≤ a
  case neg => exact ⟨-2, by simp only [if_neg h0], by simp only [if_neg h0]⟩
  simp only [if_pos h0, xl_n]
  have key : ∀ (d i fu : Nat), i + d = nN (M 150) 6 → d < fu → ∃ v, f_X8_next_9 M fu a (nI i) = some v ∧ f_X9_next_9 M fu a (nI i) = some v := by
    intro d
    induction d with
    | zero =>
      intro i fu e1 e2
      obtain ⟨g, rfl⟩ : ∃ g, fu = g + 1 := ⟨fu - 1, by omega⟩
      have : i = nN (M 150) 6 := by omega
      subst this
      refine ⟨-6, ?_, ?_⟩
      · rw [f_X8_next_9, v_rows_req hv, if_pos (by rw [le_n (by omega) (by omega)]; exact Nat.le_refl _)]
      · rw [f_X9_next_9]
        simp (disch := omega) only [ite_true, IM, IA, IR, IC, IN, nI_add, pk_mul, xin_n, cl_n, xgd_n, ↓xl_n, xb_n, xb2_n, xw_wV, wV_150, n6]
        rw [if_pos (by rw [le_n (by omega) (by omega)]; exact Nat.le_refl _)]
    | succ d ih =>
      intro i fu e1 e2
      obtain ⟨g, rfl⟩ : ∃ g, fu = g + 1 := ⟨fu - 1, by omega⟩
      obtain ⟨v, p1, p2⟩ := ih (i + 1) g (by omega) (by omega)
      have r8 : f_X8_next_9 M (g + 1) a (nI i) = if M 150 (756 + 10 * i) = 0 then (if nI (cN (ahP (M 150) i) (nN (M 150) 6)) = a then some (nI i) else some v) else some v := by
        rw [f_X8_next_9, v_rows_req hv, if_neg (by rw [le_n (by omega) (by omega)]; omega), isOpen8 hv (by omega), xb_n, ah8 hv (by omega)]
        unfold f_X8_next_42
        simp only [xb_n, xl_n, ir_1, ifb0, p1]
      have r9 : f_X9_next_9 M (g + 1) a (nI i) = if M 150 (756 + 10 * i) = 0 then (if nI (cN (ahP (M 150) i) (nN (M 150) 6)) = a then some (nI i) else some v) else some v := by
        rw [f_X9_next_9]
        simp (disch := omega) only [ite_true, IM, IA, IR, IC, IN, nI_add, pk_mul, xin_n, cl_n, xgd_n, ↓xl_n, xb_n, xb2_n, xw_wV, wV_150, n6]
        rw [if_neg (by rw [le_n (by omega) (by omega)]; omega)]
        have := ah9 (M := M) rfl ho (f_X9_next_9 M g) a (b := i) (by omega) (nN (M 150) 6) 0 xFU (by omega) (by unfold xFU; omega)
        rw [p2] at this
        exact this
      rw [r8, r9]
      by_cases q1 : M 150 (756 + 10 * i) = 0
      · rw [if_pos q1]
        by_cases q2 : nI (cN (ahP (M 150) i) (nN (M 150) 6)) = a
        · rw [if_pos q2]; exact ⟨_, rfl, rfl⟩
        · rw [if_neg q2]; exact ⟨_, rfl, rfl⟩
      · rw [if_neg q1]; exact ⟨_, rfl, rfl⟩
  exact key (nN (M 150) 6) 0 xFU (by omega) (by unfold xFU; omega)
theorem ps62 {V : Nat → Int32} {M : xM} (h : M 150 = V) {p : Nat} (hp : p < 24) (a b ly : Int32) {t : Nat} (ht : t < 4) {x : Int32} (hx : x = nI t) (g : Nat) (i5 i6 : Int32) : f_X9_pass_62 M (g + 1) a b (nI (420 + 9 * p)) ly i5 i6 x = f_X9_pass_62 M g a b (nI (420 + 9 * p)) ly (i5 ||| tB (0 < V (420 + 9 * p + 5 + t)) x) (i6 ||| tB (0 < V (420 + 9 * p + 5 + t) ∧ sdT ly x ≠ V (420 + 9 * p + 3)) x) (nI (t + 1)) := by
  subst hx
  rw [f_X9_pass_62, if_neg (by rw [li_4, le_n (by omega) (by omega)]; omega)]
  unfold f_X9_pass_92 f_X9_pass_136 f_X9_pass_137 tB
  simp (disch := omega) only [ite_true, IM, IA, IR, IC, IN, nI_add, pk_mul, xin_n, cl_n, xgd_n, ↓xl_n, xb_n, xb2_n, xw_wV, wV_150, h, so_e]
  by_cases q : V (420 + 9 * p + 5 + t) ≤ 0
  · have q2 : ¬ 0 < V (420 + 9 * p + 5 + t) := Int32.not_lt.mpr q
    rw [if_pos q, if_pos q, if_neg q2, if_neg (fun z => q2 z.1)]
  · have q2 : 0 < V (420 + 9 * p + 5 + t) := Int32.not_le.mp q
    rw [if_neg q, if_neg q, if_pos q2]
    by_cases w : sdT ly (nI t) = V (420 + 9 * p + 3)
    · rw [if_pos w, if_neg (fun z => z.2 w)]
    · rw [if_neg w, if_pos ⟨q2, w⟩]
theorem ps62_end {V : Nat → Int32} {M : xM} (h : M 150 = V) (ho : Ok V) {p : Nat} (hp : p < nN V 4) (a b : Int32) : f_X9_pass_62 M xFU a b (nI (420 + 9 * p)) (lyP V p) 0 0 0 = if 5 ≤ b then (if b = 5 then some (tkO V p) else some (bkO V p)) else (xgd (xin (nI (420 + 9 * p) + b) 916) <| some (V (nI (420 + 9 * p) + b).toNatClampNeg)) := by
  have c4 := ok_c4 ho
  obtain ⟨g, hg⟩ : ∃ g, xFU = g + 1 + 1 + 1 + 1 + 1 := ⟨999995, rfl⟩
  rw [hg, ps62 h (by omega) a b _ (t := 0) (by decide) (x := 0) rfl, show nI (0 + 1) = (1 : Int32) from rfl, ps62 h (by omega) a b _ (t := 1) (by decide) (x := 1) rfl, show nI (1 + 1) = (2 : Int32) from rfl, ps62 h (by omega) a b _ (t := 2) (by decide) (x := 2) rfl, show nI (2 + 1) = (3 : Int32) from rfl, ps62 h (by omega) a b _ (t := 3) (by decide) (x := 3) rfl, f_X9_pass_62, if_pos (by decide), h]
  rfl
theorem op_pass {M : xM} (hR : Rl M) (a b : Int32) : Op1 (fun m => f_X8_pass m a b) (fun m => f_X9_pass m a b) M := by
  have hv := Rl_vw hR
  have ho := v_ok hv
  have c := ok_c4 ho
  have c1 := ok_c1 ho
  unfold Op1 f_X8_pass
  by_cases hx : xin a (nN (M 150) 4) = true
  case neg => exact ⟨-1, by simp only [look_no (v_rows_pas hv) (by omega) hx, xb_n], by simp only [f_X9_pass, one9_4 rfl ho, xb_n, ifb0, if_neg hx]⟩
  by_cases hb : 0 ≤ b ∧ b ≤ 6
  case neg => exact ⟨-2, by simp only [look_bad (c := 7) (v_rows_pas hv) (by omega) hx hb, xb_n], by simp only [f_X9_pass, one9_4 rfl ho, xb_n, ifb0, if_pos hx, in_e, wi_e, if_neg hb]⟩
  obtain ⟨p, hp, rfl⟩ := xin_ex hx (by omega)
  have hP := ho.2.2.2.2.2.2.1 p hp
  have e0 : M 150 (420 + 9 * p) = nI (nN (M 150) (420 + 9 * p)) := hP.1
  have k0 := hP.2.1
  have r9 : f_X9_pass M (nI p) b = f_X9_pass_62 M xFU (nI p) b (nI (420 + 9 * p)) (lyP (M 150) p) 0 0 0 := by
    unfold f_X9_pass lyP
    rw [one9_4 rfl ho, xb_n, ifb0, if_pos hx, in_e, wi_e, xb_n, ifb0, if_pos hb, im_9, ia_420, xl_n, xin_n (by omega) (by omega), xgd_n, cl_n (by omega), e0, im_5, ia_24, ir_2, xin_n (by omega) (by omega), xgd_n, cl_n (by omega), xl_n, xl_n, xl_n, xl_n]
  rw [ps62_end rfl ho hp] at r9
  have go : ∀ v, f_X6_get 10 11 264 M (nI p) b = some v → f_X9_pass M (nI p) b = some v → ∃ v, (fun m => xb (f_X8_look 10 11 264 m (nI p) b 7) fun v1 => some v1) M = some v ∧ (fun m => f_X9_pass m (nI p) b) M = some v := fun v g1 g2 => ⟨v, by simp only [look_ok (c := 7) (v_rows_pas hv) (by omega) hx hb g1, xb_n], g2⟩
  obtain ⟨k, hk, rfl⟩ := nI_ex (n := 6) (by decide) hb
  by_cases k5 : k = 5
  · subst k5
    exact go (tkO (M 150) p) (g_pas_5 hv hp) (r9.trans (by rw [if_pos (by decide), if_pos (show nI 5 = (5 : Int32) from rfl)]))
  · by_cases k6 : k = 6
    · subst k6
      exact go (bkO (M 150) p) (g_pas_6 hv hp) (r9.trans (by rw [if_pos (by decide), if_neg (by decide)]))
    · exact go (M 150 (420 + 9 * p + k)) ((getk_pas hv k hp rfl (by omega)).trans (congrArg some (hv.2.1.1.2.2.2.2.2.1 p k (by omega) (by omega)))) (r9.trans (by rw [if_neg (by rw [li_5, le_n (by omega) (by omega)]; omega), nI_add, xin_n (by omega) (by omega), xgd_n, cl_n (by omega)]))
