/-! planned: the best of the passes that can be played -/
def okP (V : Nat → Int32) (c n : Nat) : Bool := spB V c n && decide (¬ V (24 + 5 * c + 4) < plV V c (spS V n))
def qP (V : Nat → Int32) (c r n : Nat) : Int32 := mnV 100 (cqF V c n) (nN V (84 + 5 * r + 1)) 4
def tP (V : Nat → Int32) (c n : Nat) : Int32 := tmV V c (spS V n)
def btP (V : Nat → Int32) (c r n b : Nat) : Bool := decide (okP V c n = true ∧ qP V c r n ≠ 0 ∧ (b = 0 ∨ qP V c r (b - 1) < qP V c r n ∨ (qP V c r n = qP V c r (b - 1) ∧ tP V c n < tP V c (b - 1))))
def plB (V : Nat → Int32) (c r : Nat) : Nat → Nat
  | 0 => 0
  | n + 1 => if btP V c r n (plB V c r n) = true then n + 1 else plB V c r n
theorem btP_i {V : Nat → Int32} {c r n b : Nat} (h1 : okP V c n = true) (h2 : qP V c r n ≠ 0) (h3 : b = 0 ∨ qP V c r (b - 1) < qP V c r n ∨ (qP V c r n = qP V c r (b - 1) ∧ tP V c n < tP V c (b - 1))) : btP V c r n b = true := decide_eq_true ⟨h1, h2, h3⟩
theorem lt_ln {a b : Int32} (h : ¬ b < a) (hne : b ≠ a) : a < b := by
  have h1 := Int32.le_iff_toInt_le.mp (Int32.not_lt.mp h)
  have h2 : b.toInt ≠ a.toInt := fun w => hne (Int32.toInt_inj.mp w)
  exact Int32.lt_iff_toInt_lt.mpr (by omega)
theorem plB_in {V : Nat → Int32} {c r : Nat} : ∀ n, plB V c r n = 0 ∨ (plB V c r n ≤ n ∧ okP V c (plB V c r n - 1) = true ∧ qP V c r (plB V c r n - 1) ≠ 0)
  | 0 => Or.inl rfl
  | n + 1 => by
    have hs : plB V c r (n + 1) = if btP V c r n (plB V c r n) = true then n + 1 else plB V c r n := rfl
    rw [hs]
    by_cases q : btP V c r n (plB V c r n) = true
    · have w := of_decide_eq_true q
      rw [if_pos q, Nat.add_sub_cancel]
      exact Or.inr ⟨Nat.le_refl _, w.1, w.2.1⟩
    · rw [if_neg q]
      rcases plB_in n with z | ⟨z1, z2⟩
      · exact Or.inl z
      · exact Or.inr ⟨by omega, z2⟩
theorem okP_sp {V : Nat → Int32} {c n : Nat} (h : okP V c n = true) : spB V c n = true ∧ n / 6 < nN V 2 ∧ V (64 + 5 * (n / 6)) = V (24 + 5 * c) ∧ csV V (n / 6) (n / 2 % 3) = true := by
  unfold okP at h
  rw [Bool.and_eq_true] at h
  have h1 := h.1
  unfold spB at h1
  rw [Bool.and_eq_true] at h1
  have h2 := of_decide_eq_true h1.1
  exact ⟨h.1, h2.1, h2.2, h1.2⟩
theorem plB_out {V : Nat → Int32} {c r k : Nat} (hk : 6 * nN V 2 ≤ k) : ∀ d, plB V c r (k + d) = plB V c r k
  | 0 => rfl
  | d + 1 => by
    have hs : plB V c r (k + d + 1) = if btP V c r (k + d) (plB V c r (k + d)) = true then k + d + 1 else plB V c r (k + d) := rfl
    have : ¬ btP V c r (k + d) (plB V c r (k + d)) = true := fun w => by
      have := (okP_sp (of_decide_eq_true w).1).2.1
      omega
    show plB V c r (k + d + 1) = _
    rw [hs, if_neg this]
    exact plB_out hk d
theorem mn_rg {f : Nat → Int32} {m : Nat} (hf : ∀ t, t < 4 → rg (f t) 0 100) : ∀ t, t ≤ 4 → rg (mnV 100 f m t) 0 100
  | 0, _ => show rg (100 : Int32) 0 100 from ⟨by decide, by decide⟩
  | t + 1, ht => by
    have e2 : mnV 100 f m (t + 1) = if m.testBit t = true then xmn (mnV 100 f m t) (f t) else mnV 100 f m t := rfl
    rw [e2]
    by_cases q : m.testBit t = true
    · rw [if_pos q]; exact xmn_rg (mn_rg hf t (by omega)) (hf t (by omega))
    · rw [if_neg q]; exact mn_rg hf t (by omega)
theorem qP_rg {V : Nat → Int32} (ho : Ok V) {c r n : Nat} (hc : c < nN V 1) (h : okP V c n = true) : rg (qP V c r n) 0 100 := by
  have g := okP_sp h
  exact mn_rg (fun t ht => cq_rg ho hc g.1 g.2.1 ht) 4 (Nat.le_refl _)
theorem qP_pos {V : Nat → Int32} (ho : Ok V) {c r n : Nat} (hc : c < nN V 1) (h : okP V c n = true) (h0 : qP V c r n ≠ 0) : 0 < qP V c r n := by
  have g := (qP_rg (r := r) ho hc h).1
  refine Int32.lt_iff_toInt_lt.mpr ?_
  have z : (0 : Int32).toInt = 0 := rfl
  have : (qP V c r n).toInt ≠ 0 := fun w => h0 (Int32.toInt_inj.mp (w.trans z.symm))
  omega
/-! the class's side -/
theorem qn8 {V : Nat → Int32} {M : xM} (hV : Vw V M) {c r n : Nat} (hr : r < nN V 3) (hc : c < nN V 1) (ec : V (84 + 5 * r) = nI c) (hm : n / 6 < nN V 2) (hs : csV V (n / 6) (n / 2 % 3) = true) : f_X8_qualityNow M (nI r) (nI (n / 6)) (spS V n) (nI (n % 2)) = some (qP V c r n) := by
  have ho := v_ok hV
  obtain ⟨t1, t2, t3⟩ := trk ho hr
  have key : ∀ (d i fu : Nat), i + d = 4 → d < fu → f_X8_qualityNow_35 M fu (nI r) (nI (n / 6)) (spS V n) (nI (n % 2)) (nI c) (nI (nN V (84 + 5 * r + 1))) (mnV 100 (cqF V c n) (nN V (84 + 5 * r + 1)) i) (nI i) = some (qP V c r n) := by
    intro d
    induction d with
    | zero =>
      intro i fu e1 e2
      obtain ⟨g, rfl⟩ : ∃ g, fu = g + 1 := ⟨fu - 1, by omega⟩
      have : i = 4 := by omega
      subst this
      rw [f_X8_qualityNow_35, if_pos (by rw [li_4, le_n (by omega) (by omega)]; exact Nat.le_refl _)]
      rfl
    | succ d ih =>
      intro i fu e1 e2
      obtain ⟨g, rfl⟩ : ∃ g, fu = g + 1 := ⟨fu - 1, by omega⟩
      have p1 := ih (i + 1) g (by omega) (by omega)
      have hs2 : mnV 100 (cqF V c n) (nN V (84 + 5 * r + 1)) (i + 1) = if (nN V (84 + 5 * r + 1)).testBit i = true then xmn (mnV 100 (cqF V c n) (nN V (84 + 5 * r + 1)) i) (cqF V c n i) else mnV 100 (cqF V c n) (nN V (84 + 5 * r + 1)) i := rfl
      rw [hs2] at p1
      have hbt := bt8 ⟨nN V (84 + 5 * r + 1), t2⟩ ⟨i, by omega⟩
      rw [f_X8_qualityNow_35, if_neg (by rw [li_4, le_n (by omega) (by omega)]; omega)]
      unfold f_X8_qualityNow_70
      simp only [hbt]
      by_cases q : (nN V (84 + 5 * r + 1)).testBit i = true
      · rw [if_pos q] at p1
        rw [if_neg (fun w => w q), cq8 hV hc hm hs (by omega), xb_n, xl_n, xl_n, ir_1]
        exact p1
      · rw [if_neg q] at p1
        rw [if_pos q, xl_n, ir_1]
        exact p1
  unfold f_X8_qualityNow
  rw [g_rec_0 hV hr, xb_n, xl_n, g_rec_1 hV hr, xb_n, xl_n, xl_n, xl_n, ec, t1]
  exact key 4 0 xFU (by omega) (by unfold xFU; omega)
theorem cn8 {V : Nat → Int32} {M : xM} (hV : Vw V M) {c r n : Nat} (hr : r < nN V 3) (hc : c < nN V 1) (ec : V (84 + 5 * r) = nI c) (hm : n / 6 < nN V 2) : f_X8_canPlan M (nI r) (nI (n / 6)) (spS V n) = some (bI (okP V c n = true)) := by
  have ho := v_ok hV
  have h1 : f_X8_canPlay M (nI (n / 6)) (spS V n) = some (bI (csV V (n / 6) (n / 2 % 3) = true)) := cp8 hV hm (Nat.mod_lt _ (by decide))
  unfold f_X8_canPlan
  rw [g_rec_0 hV hr, xb_n, xl_n, h1, xb_n, ifb0, ec, sk8 hV hc hm, xb_n, ifb0, g_car_4 hV hc, xb_n, pl8 (g_car_1 hV hc), xb_n]
  have e : okP V c n = (decide (n / 6 < nN V 2 ∧ V (64 + 5 * (n / 6)) = V (24 + 5 * c)) && csV V (n / 6) (n / 2 % 3) && decide (¬ V (24 + 5 * c + 4) < plV V c (spS V n))) := rfl
  have pe : (if spS V n ≤ V (24 + 5 * c + 1) then (1 : Int32) else 2) = plV V c (spS V n) := rfl
  rw [pe]
  by_cases q1 : csV V (n / 6) (n / 2 % 3) = true
  · rw [if_pos q1]
    by_cases q2 : V (24 + 5 * c) = V (64 + 5 * (n / 6))
    · rw [if_pos q2]
      by_cases q3 : V (24 + 5 * c + 4) < plV V c (spS V n)
      · have : ¬ okP V c n = true := fun w => by rw [e, Bool.and_eq_true] at w; exact of_decide_eq_true w.2 q3
        rw [if_pos q3, show bI (okP V c n = true) = 0 from if_neg this]
      · have : okP V c n = true := by rw [e, q1, Bool.and_true, Bool.and_eq_true]; exact ⟨decide_eq_true ⟨hm, q2.symm⟩, decide_eq_true q3⟩
        rw [if_neg q3, show bI (okP V c n = true) = 1 from if_pos this]
    · have : ¬ okP V c n = true := fun w => q2 (okP_sp w).2.2.1.symm
      rw [if_neg q2, show bI (okP V c n = true) = 0 from if_neg this]
  · have : ¬ okP V c n = true := fun w => q1 (okP_sp w).2.2.2
    rw [if_neg q1, show bI (okP V c n = true) = 0 from if_neg this]
def flB (b : Nat) : Int32 := if b = 0 then 0 else 1
def PlS (V : Nat → Int32) (c r : Nat) (M : xM) (b : Nat) : Prop := b ≠ 0 → M 148 0 = nI ((b - 1) / 6) ∧ M 148 1 = spS V (b - 1) ∧ M 148 2 = nI ((b - 1) % 2) ∧ M 148 3 = qP V c r (b - 1) ∧ M 148 4 = tP V c (b - 1)
def f48 (M M1 : xM) : Prop := ∀ k, k ≠ 148 → M1 k = M k
theorem Vw_f48 {V : Nat → Int32} {M M1 : xM} (h : Vw V M) (f : f48 M M1) : Vw V M1 := ⟨trivial, Enc_of h.2.1 (Lk_same (fun k _ _ => f k (by omega))), Col_same (fun k _ _ => f k (by omega)) h.2.2.1, trivial⟩
theorem im87 {V : Nat → Int32} {M : xM} {c r n : Nat} (a1 a2 : Int32) : ∃ M1, f_X8_improvePlan_87 M a1 a2 (nI (n / 6)) (spS V n) (nI (n % 2)) (qP V c r n) (tP V c n) = some (1, M1) ∧ f48 M M1 ∧ PlS V c r M1 (n + 1) := by
  unfold f_X8_improvePlan_87
  rw [show xin 0 5 = true from by decide, xgd_n, xl_n, show xin 1 5 = true from by decide, xgd_n, xl_n, show xin 2 5 = true from by decide, xgd_n, xl_n, show xin 3 5 = true from by decide, xgd_n, xl_n, show xin 4 5 = true from by decide, xgd_n, xl_n, ic_0, ic_1, ic_2, ic_3, ic_4]
  refine ⟨_, rfl, fun k hk => by rw [xw_ne hk, xw_ne hk, xw_ne hk, xw_ne hk, xw_ne hk], fun _ => ?_⟩
  rw [Nat.add_sub_cancel]
  refine ⟨?_, ?_, ?_, ?_, ?_⟩
  · rw [xw_o (by omega), xw_o (by omega), xw_o (by omega), xw_o (by omega), xw_same]
  · rw [xw_o (by omega), xw_o (by omega), xw_o (by omega), xw_same]
  · rw [xw_o (by omega), xw_o (by omega), xw_same]
  · rw [xw_o (by omega), xw_same]
  · rw [xw_same]
theorem pl_st {V : Nat → Int32} {M : xM} (hV : Vw V M) {c r n : Nat} (hr : r < nN V 3) (hc : c < nN V 1) (ec : V (84 + 5 * r) = nI c) (hm : n / 6 < nN V 2) (hP : PlS V c r M (plB V c r n)) : ∃ M1, f48 M M1 ∧ PlS V c r M1 (plB V c r (n + 1)) ∧ ∀ K : xM → Int32 → Option (Int32 × xM), (xb (f_X8_canPlan M (nI r) (nI (n / 6)) (spS V n)) fun v12 => if v12 = 0 then K M (flB (plB V c r n)) else xb2 (f_X8_improvePlan M (flB (plB V c r n)) (nI r) (nI (n / 6)) (spS V n) (nI (n % 2))) fun v13 M14 => if v13 = 0 then K M14 (flB (plB V c r n)) else xl (1 : Int32) fun v15 => K M14 v15) = K M1 (flB (plB V c r (n + 1))) := by
  have ho := v_ok hV
  have hs : plB V c r (n + 1) = if btP V c r n (plB V c r n) = true then n + 1 else plB V c r n := rfl
  have h1 := cn8 hV hr hc ec hm
  by_cases q1 : okP V c n = true
  case neg =>
    have nb : ¬ btP V c r n (plB V c r n) = true := fun w => q1 (of_decide_eq_true w).1
    rw [if_neg nb] at hs
    refine ⟨M, fun _ _ => rfl, by rw [hs]; exact hP, fun K => ?_⟩
    rw [h1, xb_n, ifb0, if_neg q1, hs]
  have g := okP_sp q1
  have e1 := qn8 hV hr hc ec hm g.2.2.2
  have r1 := spV_rg ho hm (Nat.mod_lt (n / 2) (y := 3) (by decide)) g.2.2.2
  have e2 : f_X8_secondsOfPass M (nI c) (spS V n) = some (tP V c n) := tm8 (g_car_1 hV hc) (g_car_3 hV hc) r1
  obtain ⟨M1, a1, a2, a3⟩ := im87 (V := V) (M := M) (c := c) (r := r) (n := n) (flB (plB V c r n)) (nI r)
  have ei : f_X8_improvePlan M (flB (plB V c r n)) (nI r) (nI (n / 6)) (spS V n) (nI (n % 2)) = if btP V c r n (plB V c r n) = true then some (1, M1) else some (0, M) := by
    unfold f_X8_improvePlan
    rw [e1, xb_n, xl_n, g_rec_0 hV hr, xb_n, ec, e2, xb_n, xl_n, a1, if_pos (show (5 : Int32) ≤ 5 by decide)]
    unfold flB
    by_cases q0 : qP V c r n = 0
    · rw [if_pos q0, if_neg (fun w => (of_decide_eq_true w).2.1 q0)]
    rw [if_neg q0]
    by_cases qb : plB V c r n = 0
    · rw [if_pos qb, if_pos rfl, if_pos (btP_i q1 q0 (Or.inl qb))]
    have hp := hP qb
    rw [if_neg qb, if_neg (by decide), show xin 3 5 = true from by decide, xgd_n, xgd_n, show xin 4 5 = true from by decide, xgd_n, ic_3, ic_4, hp.2.2.2.1, hp.2.2.2.2]
    by_cases w1 : qP V c r n < qP V c r (plB V c r n - 1)
    · rw [if_pos w1, if_neg (fun w => by
        rcases (of_decide_eq_true w).2.2 with z | z | z
        · exact qb z
        · exact Int32.lt_irrefl (Int32.lt_trans z w1)
        · rw [z.1] at w1; exact Int32.lt_irrefl w1)]
    rw [if_neg w1]
    by_cases w2 : qP V c r n = qP V c r (plB V c r n - 1)
    · rw [if_pos w2]
      by_cases w3 : tP V c n < tP V c (plB V c r n - 1)
      · rw [if_pos w3, if_pos (btP_i q1 q0 (Or.inr (Or.inr ⟨w2, w3⟩)))]
      · rw [if_neg w3, if_neg (fun w => by
          rcases (of_decide_eq_true w).2.2 with z | z | z
          · exact qb z
          · rw [w2] at z; exact Int32.lt_irrefl z
          · exact w3 z.2)]
    · rw [if_neg w2, if_pos (btP_i q1 q0 (Or.inr (Or.inl (lt_ln w1 w2))))]
  by_cases qb : btP V c r n (plB V c r n) = true
  · rw [if_pos qb] at hs ei
    refine ⟨M1, a2, by rw [hs]; exact a3, fun K => ?_⟩
    rw [h1, xb_n, ifb0, if_pos q1, ei, xb2_n, if_neg (by decide), xl_n, hs]
    rfl
  · rw [if_neg qb] at hs ei
    refine ⟨M, fun _ _ => rfl, by rw [hs]; exact hP, fun K => ?_⟩
    rw [h1, xb_n, ifb0, if_pos q1, ei, xb2_n, if_pos rfl, hs]
