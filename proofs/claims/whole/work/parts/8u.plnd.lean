/-! planned: the loops, the reference, the op -/
theorem f48_t {M M1 M2 : xM} (h : f48 M M1) (h2 : f48 M1 M2) : f48 M M2 := fun k hk => (h2 k hk).trans (h k hk)
theorem pl_st2 {V : Nat → Int32} {M : xM} (hV : Vw V M) {c r m k s : Nat} (hr : r < nN V 3) (hc : c < nN V 1) (ec : V (84 + 5 * r) = nI c) (hm : m < nN V 2) (hk : k < 3) (hs : s < 2) (hP : PlS V c r M (plB V c r (6 * m + 2 * k + s))) : ∃ M1, f48 M M1 ∧ PlS V c r M1 (plB V c r (6 * m + 2 * k + s + 1)) ∧ ∀ K : xM → Int32 → Option (Int32 × xM), (xb (f_X8_canPlan M (nI r) (nI m) (spV V m k)) fun v12 => if v12 = 0 then K M (flB (plB V c r (6 * m + 2 * k + s))) else xb2 (f_X8_improvePlan M (flB (plB V c r (6 * m + 2 * k + s))) (nI r) (nI m) (spV V m k) (nI s)) fun v13 M14 => if v13 = 0 then K M14 (flB (plB V c r (6 * m + 2 * k + s))) else xl (1 : Int32) fun v15 => K M14 v15) = K M1 (flB (plB V c r (6 * m + 2 * k + s + 1))) := by
  have e1 : (6 * m + 2 * k + s) / 6 = m := by omega
  have e2 : (6 * m + 2 * k + s) / 2 % 3 = k := by omega
  have e3 : (6 * m + 2 * k + s) % 2 = s := by omega
  have es : spS V (6 * m + 2 * k + s) = spV V m k := by unfold spS; rw [e1, e2]
  have := pl_st hV hr hc ec (n := 6 * m + 2 * k + s) (by rw [e1]; exact hm) hP
  rw [es, e1, e3] at this
  exact this
theorem mp_49 {V : Nat → Int32} {M : xM} (hV : Vw V M) {c r m k : Nat} (hr : r < nN V 3) (hc : c < nN V 1) (ec : V (84 + 5 * r) = nI c) (hm : m < nN V 2) (hk : k < 3) (hP : PlS V c r M (plB V c r (6 * m + 2 * k))) : ∃ M2, f48 M M2 ∧ PlS V c r M2 (plB V c r (6 * m + 2 * (k + 1))) ∧ ∀ k4 k21, f_X8_makePlan_49 k4 k21 xFU M (nI r) (flB (plB V c r (6 * m + 2 * k))) (nI m) (nI k) (spV V m k) 0 = k21 M2 (nI r) (flB (plB V c r (6 * m + 2 * (k + 1)))) (nI m) (nI (k + 1)) := by
  obtain ⟨M1, a1, a2, a3⟩ := pl_st2 hV hr hc ec hm hk (s := 0) (by decide) hP
  have hV1 := Vw_f48 hV a1
  obtain ⟨M2, b1, b2, b3⟩ := pl_st2 hV1 hr hc ec hm hk (s := 1) (by decide) a2
  refine ⟨M2, f48_t a1 b1, b2, fun k4 k21 => ?_⟩
  obtain ⟨g, hg⟩ : ∃ g, xFU = g + 1 + 1 + 1 := ⟨999997, rfl⟩
  rw [hg, f_X8_makePlan_49, if_neg (by decide)]
  refine Eq.trans (a3 (fun N fl => f_X8_makePlan_82 k4 k21 (f_X8_makePlan_49 k4 k21 (g + 1 + 1)) N (nI r) fl (nI m) (nI k) (spV V m k) 0)) ?_
  show f_X8_makePlan_82 k4 k21 (f_X8_makePlan_49 k4 k21 (g + 1 + 1)) M1 (nI r) (flB (plB V c r (6 * m + 2 * k + 0 + 1))) (nI m) (nI k) (spV V m k) 0 = _
  unfold f_X8_makePlan_82
  rw [xl_n, show (0 : Int32) + 1 = 1 from rfl, f_X8_makePlan_49, if_neg (by decide)]
  refine Eq.trans (b3 (fun N fl => f_X8_makePlan_82 k4 k21 (f_X8_makePlan_49 k4 k21 (g + 1)) N (nI r) fl (nI m) (nI k) (spV V m k) 1)) ?_
  show f_X8_makePlan_82 k4 k21 (f_X8_makePlan_49 k4 k21 (g + 1)) M2 (nI r) (flB (plB V c r (6 * m + 2 * k + 1 + 1))) (nI m) (nI k) (spV V m k) 1 = _
  unfold f_X8_makePlan_82
  rw [xl_n, show (1 : Int32) + 1 = 2 from rfl, f_X8_makePlan_49, if_pos (by decide), xl_n, ir_1]
  rfl
theorem mp_21 {V : Nat → Int32} {c r m : Nat} (hr : r < nN V 3) (hc : c < nN V 1) (ec : V (84 + 5 * r) = nI c) (hm : m < nN V 2) : ∀ (d k fu : Nat) (M : xM), k + d = 3 → d < fu → Vw V M → PlS V c r M (plB V c r (6 * m + 2 * k)) → ∃ M2, f48 M M2 ∧ PlS V c r M2 (plB V c r (6 * (m + 1))) ∧ ∀ k4, f_X8_makePlan_21 k4 fu M (nI r) (flB (plB V c r (6 * m + 2 * k))) (nI m) (nI k) = k4 M2 (nI r) (flB (plB V c r (6 * (m + 1)))) (nI (m + 1)) := by
  intro d
  induction d with
  | zero =>
    intro k fu M e1 e2 hV hP
    obtain ⟨g, rfl⟩ : ∃ g, fu = g + 1 := ⟨fu - 1, by omega⟩
    have e : 6 * m + 2 * k = 6 * (m + 1) := by omega
    rw [e] at hP ⊢
    refine ⟨M, fun _ _ => rfl, hP, fun k4 => ?_⟩
    rw [f_X8_makePlan_21, if_pos (by rw [li_3, le_n (by omega) (by omega)]; omega), xl_n, ir_1]
  | succ d ih =>
    intro k fu M e1 e2 hV hP
    obtain ⟨g, rfl⟩ : ∃ g, fu = g + 1 := ⟨fu - 1, by omega⟩
    obtain ⟨M1, a1, a2, a3⟩ := mp_49 hV hr hc ec hm (k := k) (by omega) hP
    obtain ⟨M2, b1, b2, b3⟩ := ih (k + 1) g M1 (by omega) (by omega) (Vw_f48 hV a1) a2
    refine ⟨M2, f48_t a1 b1, b2, fun k4 => ?_⟩
    obtain ⟨s1, s2⟩ := so8 hV hm (k := k) (by omega)
    rw [f_X8_makePlan_21, if_neg (by rw [li_3, le_n (by omega) (by omega)]; omega), s1, xb_n, s2, xb_n, xl_n, xl_n, a3]
    exact b3 k4
theorem mp_4 {V : Nat → Int32} {c r : Nat} (hr : r < nN V 3) (hc : c < nN V 1) (ec : V (84 + 5 * r) = nI c) (c2 : nN V 2 ≤ 4) : ∀ (d m fu : Nat) (M : xM), m + d = nN V 2 → d < fu → Vw V M → PlS V c r M (plB V c r (6 * m)) → ∃ M2, f48 M M2 ∧ PlS V c r M2 (plB V c r (6 * nN V 2)) ∧ f_X8_makePlan_4 fu M (nI r) (flB (plB V c r (6 * m))) (nI m) = some (flB (plB V c r (6 * nN V 2)), M2) := by
  intro d
  induction d with
  | zero =>
    intro m fu M e1 e2 hV hP
    obtain ⟨g, rfl⟩ : ∃ g, fu = g + 1 := ⟨fu - 1, by omega⟩
    have e : m = nN V 2 := by omega
    subst e
    refine ⟨M, fun _ _ => rfl, hP, ?_⟩
    have z : xz (flB (plB V c r (6 * nN V 2))) = true := by
      unfold flB
      by_cases q : plB V c r (6 * nN V 2) = 0
      · rw [if_pos q]; decide
      · rw [if_neg q]; decide
    rw [f_X8_makePlan_4, v_rows_mac hV, if_pos (by rw [le_n (by omega) (by omega)]; exact Nat.le_refl _), z, xgd_n]
  | succ d ih =>
    intro m fu M e1 e2 hV hP
    obtain ⟨g, rfl⟩ : ∃ g, fu = g + 1 := ⟨fu - 1, by omega⟩
    obtain ⟨M1, a1, a2, a3⟩ := mp_21 hr hc ec (m := m) (by omega) 3 0 xFU M (by omega) (by unfold xFU; omega) hV hP
    obtain ⟨M2, b1, b2, b3⟩ := ih (m + 1) g M1 (by omega) (by omega) (Vw_f48 hV a1) a2
    refine ⟨M2, f48_t a1 b1, b2, ?_⟩
    rw [f_X8_makePlan_4, v_rows_mac hV, if_neg (by rw [le_n (by omega) (by omega)]; omega), xl_n]
    exact (a3 _).trans b3
/-! the reference -/
def iB (b : Nat) : Int32 := if b = 0 then -1 else nI (b - 1)
def qlB (V : Nat → Int32) (c r b : Nat) : Int32 := if b = 0 then 0 else qP V c r (b - 1)
def tlB (V : Nat → Int32) (c b : Nat) : Int32 := if b = 0 then 0 else tP V c (b - 1)
theorem mn_congr {s : Int32} {f g : Nat → Int32} {m : Nat} : ∀ {t : Nat}, (∀ j, j < t → f j = g j) → mnV s f m t = mnV s g m t
  | 0, _ => rfl
  | t + 1, h => by
    have e1 : mnV s f m (t + 1) = if m.testBit t = true then xmn (mnV s f m t) (f t) else mnV s f m t := rfl
    have e2 : mnV s g m (t + 1) = if m.testBit t = true then xmn (mnV s g m t) (g t) else mnV s g m t := rfl
    rw [e1, e2, mn_congr (fun j hj => h j (by omega)), h t (by omega)]
def f57 (M M1 : xM) : Prop := ∀ k, k ≠ 157 → M1 k = M k
theorem pd9 {V : Nat → Int32} (ho : Ok V) {c r n : Nat} (hr : r < nN V 3) (hc : c < nN V 1) (ec : V (84 + 5 * r) = nI c) (hn : n < 24) (a2 : Int32) {M : xM} (e : M 150 = V) (hk : RefK M) (g : Nat) : ∃ M1, f57 M M1 ∧ f_X9_planned_47 (g + 1) M (nI r) a2 (nI c) (iB (plB V c r n)) (qlB V c r (plB V c r n)) (tlB V c (plB V c r n)) (nI n) = f_X9_planned_47 g M1 (nI r) a2 (nI c) (iB (plB V c r (n + 1))) (qlB V c r (plB V c r (n + 1))) (tlB V c (plB V c r (n + 1))) (nI (n + 1)) := by
  have hs : plB V c r (n + 1) = if btP V c r n (plB V c r n) = true then n + 1 else plB V c r n := rfl
  have c1 := ok_c1 ho
  have c3 := ok_c3 ho
  obtain ⟨x, x1, x2, x3⟩ := sp9 e ho hk hc hn
  have stay : ∀ (N : xM) (v : Int32), ¬ btP V c r n (plB V c r n) = true → f_X9_planned_178 (f_X9_planned_47 g) N (nI r) a2 (nI c) (iB (plB V c r n)) (qlB V c r (plB V c r n)) (tlB V c (plB V c r n)) (nI n) v = f_X9_planned_47 g N (nI r) a2 (nI c) (iB (plB V c r (n + 1))) (qlB V c r (plB V c r (n + 1))) (tlB V c (plB V c r (n + 1))) (nI (n + 1)) := fun N v q => by
    unfold f_X9_planned_178
    rw [xl_n, ir_1, hs, if_neg q]
  have take : ∀ (N : xM) (v : Int32), btP V c r n (plB V c r n) = true → f_X9_planned_166 (f_X9_planned_47 g) N (nI r) a2 (nI c) (iB (plB V c r n)) (qlB V c r (plB V c r n)) (tlB V c (plB V c r n)) (nI n) v (qP V c r n) (tP V c n) = f_X9_planned_47 g N (nI r) a2 (nI c) (iB (plB V c r (n + 1))) (qlB V c r (plB V c r (n + 1))) (tlB V c (plB V c r (n + 1))) (nI (n + 1)) := fun N v q => by
    unfold f_X9_planned_166 f_X9_planned_178 iB qlB tlB
    rw [xl_n, xl_n, xl_n, xl_n, ir_1, hs, if_pos q, if_neg (Nat.succ_ne_zero n), if_neg (Nat.succ_ne_zero n), if_neg (Nat.succ_ne_zero n), Nat.add_sub_cancel]
  rw [f_X9_planned_47, if_neg (by rw [li_24, le_n (by omega) (by omega)]; omega), x1, xb_n, xl_n]
  by_cases hsp : spB V c n = true
  case neg =>
    have nb : ¬ btP V c r n (plB V c r n) = true := fun w => hsp (okP_sp (of_decide_eq_true w).1).1
    exact ⟨M, fun _ _ => rfl, by rw [if_pos (x3 hsp)]; exact stay M x nb⟩
  obtain ⟨x4, x5⟩ := x2 hsp
  subst x4
  have np : ¬ spS V n ≤ 0 := fun w => by
    have := Int32.le_iff_toInt_le.mp w
    have z : (0 : Int32).toInt = 0 := rfl
    have := x5.1
    omega
  rw [if_neg np, im_5, ia_24, ir_4, xin_n (by omega) (by omega), xgd_n, cl_n (by omega), pl9 e (by omega), xb_n, e]
  by_cases hp : V (24 + 5 * c + 4) < plV V c (spS V n)
  case pos =>
    have nb : ¬ btP V c r n (plB V c r n) = true := fun w => by
      have h := (of_decide_eq_true w).1
      unfold okP at h
      rw [Bool.and_eq_true] at h
      exact of_decide_eq_true h.2 hp
    exact ⟨M, fun _ _ => rfl, by rw [if_pos (show V (24 + 5 * c + 4) < (if spS V n ≤ V (24 + 5 * c + 1) then 1 else 2) from hp)]; exact stay M _ nb⟩
  have q1 : okP V c n = true := by unfold okP; rw [hsp, Bool.true_and]; exact decide_eq_true hp
  have gq := okP_sp q1
  obtain ⟨b, M1, h1, h2, h3⟩ := hq9 e ho hc gq.2.1 gq.2.2.2
  have e1 : M1 150 = V := (h2 150 (by decide)).trans e
  obtain ⟨t1, t2, t3⟩ := trk ho hr
  have hl : f_X9_least 157 4 M1 0 (nI (nN V (84 + 5 * r + 1))) = some (qP V c r n) := by
    have := least_e (ct := 157) (n := 4) (M := M1) (b := 0) (m := nN V (84 + 5 * r + 1)) (by decide) (by decide) t2
    refine Eq.trans this ?_
    rw [mn_congr (g := cqF V c n) (fun j hj => by rw [Nat.zero_add]; exact h3 j hj), mn_eq (fun t ht => cq_rg ho hc hsp gq.2.1 ht) t2 t3]
    rfl
  have ht : f_X9_timeOf M1 (nI c) (spS V n) = some (tP V c n) := tm9 e1 (by omega) x5
  refine ⟨M1, h2, ?_⟩
  rw [if_neg (show ¬ V (24 + 5 * c + 4) < (if spS V n ≤ V (24 + 5 * c + 1) then 1 else 2) from hp), d6_n (by omega), m2_n (by omega), h1, xb2_n, im_5, ia_84, ir_1, xin_n (by omega) (by omega), xgd_n, cl_n (by omega), e1, t1, hl, xb_n, xl_n, ht, xb_n, xl_n]
  have tk := take M1 (spS V n)
  have sy := stay M1 (spS V n)
  have q0 : qP V c r n = 0 ∨ 0 < qP V c r n := by
    by_cases z : qP V c r n = 0
    · exact Or.inl z
    · exact Or.inr (qP_pos ho hc q1 z)
  by_cases qb : plB V c r n = 0
  · have eq : qlB V c r (plB V c r n) = 0 := by unfold qlB; rw [if_pos qb]
    rw [eq] at tk sy ⊢
    rcases q0 with z | z
    · rw [if_neg (by rw [z]; decide), if_pos z, if_pos (by rw [z]; decide)]
      exact sy (fun w => (of_decide_eq_true w).2.1 z)
    · rw [if_pos z]
      exact tk (btP_i q1 (fun w => by rw [w] at z; exact absurd z (by decide)) (Or.inl qb))
  · have eq : qlB V c r (plB V c r n) = qP V c r (plB V c r n - 1) := by unfold qlB; rw [if_neg qb]
    have et : tlB V c (plB V c r n) = tP V c (plB V c r n - 1) := by unfold tlB; rw [if_neg qb]
    have bp : 0 < qP V c r (plB V c r n - 1) := by
      rcases plB_in (V := V) (c := c) (r := r) n with z | z
      · exact absurd z qb
      · exact qP_pos ho hc z.2.1 z.2.2
    rw [eq, et] at tk sy ⊢
    by_cases w1 : qP V c r (plB V c r n - 1) < qP V c r n
    · rw [if_pos w1]
      exact tk (btP_i q1 (fun w => by rw [w] at w1; exact Int32.lt_irrefl (Int32.lt_trans w1 bp)) (Or.inr (Or.inl w1)))
    rw [if_neg w1]
    by_cases w2 : qP V c r n = qP V c r (plB V c r n - 1)
    · rw [if_pos w2, if_neg (by rw [w2]; exact Int32.not_le.mpr bp)]
      by_cases w3 : tP V c (plB V c r n - 1) ≤ tP V c n
      · rw [if_pos w3]
        refine sy (fun w => ?_)
        rcases (of_decide_eq_true w).2.2 with z | z | z
        · exact qb z
        · exact w1 z
        · exact Int32.not_lt.mpr w3 z.2
      · rw [if_neg w3]
        exact tk (btP_i q1 (fun w => by rw [← w2, w] at bp; exact absurd bp (by decide)) (Or.inr (Or.inr ⟨w2, Int32.not_le.mp w3⟩)))
    · rw [if_neg w2]
      refine sy (fun w => ?_)
      rcases (of_decide_eq_true w).2.2 with z | z | z
      · exact qb z
      · exact w1 z
      · exact w2 z.1
theorem pd9_loop {V : Nat → Int32} (ho : Ok V) {c r : Nat} (hr : r < nN V 3) (hc : c < nN V 1) (ec : V (84 + 5 * r) = nI c) (a2 : Int32) : ∀ (d n g : Nat) (M : xM), n + d = 24 → M 150 = V → RefK M → ∃ M1, f57 M M1 ∧ f_X9_planned_47 (g + d) M (nI r) a2 (nI c) (iB (plB V c r n)) (qlB V c r (plB V c r n)) (tlB V c (plB V c r n)) (nI n) = f_X9_planned_47 g M1 (nI r) a2 (nI c) (iB (plB V c r 24)) (qlB V c r (plB V c r 24)) (tlB V c (plB V c r 24)) (nI 24) := by
  intro d
  induction d with
  | zero =>
    intro n g M e1 e hk
    have : n = 24 := by omega
    subst this
    exact ⟨M, fun _ _ => rfl, rfl⟩
  | succ d ih =>
    intro n g M e1 e hk
    obtain ⟨M1, a1, a2'⟩ := pd9 ho hr hc ec (n := n) (by omega) a2 e hk (g + d)
    obtain ⟨M2, b1, b2⟩ := ih (n + 1) g M1 (by omega) ((a1 150 (by decide)).trans e) (RefK_fr hk (a1 155 (by decide)) (a1 156 (by decide)))
    exact ⟨M2, fun k hk => (b1 k hk).trans (a1 k hk), a2'.trans b2⟩
theorem op_planned {M : xM} (hR : Rl M) (a1 a2 : Int32) : Op2 (fun m => f_X8_planned m a1 a2) (fun m => f_X9_planned m a1 a2) M := by
  have hv := Rl_vw hR
  have ho := v_ok hv
  have c1 := ok_c1 ho
  have c2 := ok_c2 ho
  have c3 := ok_c3 ho
  unfold Op2 f_X8_planned f_X9_planned
  by_cases hx : xin a1 (nN (M 150) 3) = true
  case neg => exact ⟨-1, M, M, by simp only [has_rec hv, xb_n, ifb0, if_neg hx], by simp only [one9_3 rfl ho, xb_n, ifb0, if_neg hx], hR⟩
  obtain ⟨r, hr, rfl⟩ := xin_ex hx (by omega)
  by_cases hb : 0 ≤ a2 ∧ a2 ≤ 4
  case neg => exact ⟨-2, M, M, by simp only [has_rec hv, wi_e, xb_n, ifb0, if_pos hx, if_neg hb], by simp only [one9_3 rfl ho, in_e, wi_e, xb_n, ifb0, if_pos hx, if_neg hb], hR⟩
  obtain ⟨p, hp, rfl⟩ := nI_ex (n := 4) (by decide) hb
  have hQ := ho.2.2.2.1 r hr
  obtain ⟨c, hcc⟩ : ∃ c, c = nN (M 150) (84 + 5 * r) := ⟨_, rfl⟩
  have ec : M 150 (84 + 5 * r) = nI c := by rw [hcc]; exact hQ.1
  have hc : c < nN (M 150) 1 := by rw [hcc]; exact hQ.2.1
  obtain ⟨M1, m1, m2, m3⟩ := mp_4 hr hc ec c2 (nN (M 150) 2) 0 xFU M (by omega) (by unfold xFU; omega) hv (fun w => absurd rfl w)
  have hb24 : plB (M 150) c r 24 = plB (M 150) c r (6 * nN (M 150) 2) := by
    have := plB_out (V := M 150) (c := c) (r := r) (k := 6 * nN (M 150) 2) (Nat.le_refl _) (24 - 6 * nN (M 150) 2)
    rw [← this]
    congr 1
    omega
  rw [← hb24] at m2 m3
  have e150 : M1 150 = M 150 := m1 150 (by decide)
  have rk : RefK M1 := RefK_fr hR.2.2.2.1 (m1 155 (by decide)) (m1 156 (by decide))
  obtain ⟨M2, n1, n2⟩ := pd9_loop ho hr hc ec (nI p) 24 0 (999975 + 1) M1 rfl e150 rk
  have f8 : f_X8_makePlan M (nI r) = some (flB (plB (M 150) c r 24), M1) := by
    unfold f_X8_makePlan
    rw [xl_n, xl_n]
    exact m3
  have rl : Rl M2 := by
    have f : ∀ k, k ≠ 148 → k ≠ 157 → M2 k = M k := fun k x y => (n1 k y).trans (m1 k x)
    exact Rl_of hR (fun k hk => f k (by unfold fr at hk; omega) (by unfold fr at hk; omega)) (by rw [f 141 (by decide) (by decide)]) (by rw [f 149 (by decide) (by decide)]) (by rw [f 149 (by decide) (by decide)]) (by rw [f 150 (by decide) (by decide)]; exact Enc_of hR.1 (Lk_same (fun k _ _ => f k (by omega) (by omega)))) (by rw [f 150 (by decide) (by decide)]; exact hR.2.1) (Col_same (fun k _ _ => f k (by omega) (by omega)) hR.2.2.1)
  have s9 : ∀ v, f_X9_planned_47 (999975 + 1) M2 (nI r) (nI p) (nI c) (iB (plB (M 150) c r 24)) (qlB (M 150) c r (plB (M 150) c r 24)) (tlB (M 150) c (plB (M 150) c r 24)) (nI 24) = some (v, M2) → (xb (f_X9_isOne M1 3 (nI r)) fun v27 => if v27 = 0 then some (-1, M1) else xb (f_X9_in (nI p) 0 4) fun v28 => if v28 = 0 then some (-2, M1) else xgd (xin (84 + (5 * nI r)) 916) <| xl (M1 150 (84 + (5 * nI r)).toNatClampNeg) fun v29 => xl (-1 : Int32) fun v30 => xl (0 : Int32) fun v31 => xl (0 : Int32) fun v32 => xl (0 : Int32) fun v33 => f_X9_planned_47 xFU M1 (nI r) (nI p) v29 v30 v31 v32 v33) = some (v, M2) := fun v hv2 => by
    rw [one9_3 e150 ho, xb_n, ifb0, if_pos hx, in_e, wi_e, xb_n, ifb0, if_pos hb, im_5, ia_84, xin_n (by omega) (by omega), xgd_n, xl_n, xl_n, xl_n, xl_n, xl_n, cl_n (by omega), e150, ec]
    exact n2.trans hv2
  have lt5 : nI p < (5 : Int32) := by rw [li_5, lt_n (by omega) (by omega)]; omega
  by_cases qb : plB (M 150) c r 24 = 0
  · refine ⟨-6, M1, M2, ?_, ?_, rl⟩
    · show (xb (f_X6_has 6 7 96 M (nI r)) fun v1 => _) = _
      rw [has_rec hv, xb_n, ifb0, if_pos hx, wi_e, xb_n, ifb0, if_pos hb, if_pos lt5, f8, xb2_n]
      rw [if_pos (show flB (plB (M 150) c r 24) = 0 by unfold flB; rw [if_pos qb])]
    · refine s9 _ ?_
      rw [qb, f_X9_planned_47, if_pos (by decide)]
      rfl
  · have hs := m2 qb
    have hi := plB_in (V := M 150) (c := c) (r := r) 24
    have hi2 := hi.resolve_left qb
    obtain ⟨x, x1, x2, x3⟩ := sp9 (M := M2) ((n1 150 (by decide)).trans e150) ho (RefK_fr rk (n1 155 (by decide)) (n1 156 (by decide))) hc (n := plB (M 150) c r 24 - 1) (by omega)
    obtain ⟨x4, _⟩ := x2 (okP_sp hi2.2.1).1
    have i0 : iB (plB (M 150) c r 24) = nI (plB (M 150) c r 24 - 1) := by unfold iB; rw [if_neg qb]
    have i1 : qlB (M 150) c r (plB (M 150) c r 24) = qP (M 150) c r (plB (M 150) c r 24 - 1) := by unfold qlB; rw [if_neg qb]
    have i2 : tlB (M 150) c (plB (M 150) c r 24) = tP (M 150) c (plB (M 150) c r 24 - 1) := by unfold tlB; rw [if_neg qb]
    refine ⟨M1 148 p, M1, M2, ?_, ?_, rl⟩
    · show (xb (f_X6_has 6 7 96 M (nI r)) fun v1 => _) = _
      rw [has_rec hv, xb_n, ifb0, if_pos hx, wi_e, xb_n, ifb0, if_pos hb, if_pos lt5, f8, xb2_n]
      rw [if_neg (show ¬ flB (plB (M 150) c r 24) = 0 by unfold flB; rw [if_neg qb]; decide), xin_n (by omega) (by omega), xgd_n, cl_n (by omega)]
    · refine s9 _ ?_
      rw [f_X9_planned_47, if_pos (by decide), i0, i1, i2, if_pos (nI_pos' (by omega)), d6_n (by omega), x1, xb_n, m2_n (by omega), x4]
      have p5 : p = 0 ∨ p = 1 ∨ p = 2 ∨ p = 3 ∨ p = 4 := by omega
      rcases p5 with rfl | rfl | rfl | rfl | rfl
      · rw [if_pos (by decide), hs.1]
      · rw [if_neg (by decide), if_pos (by decide), hs.2.1]
      · rw [if_neg (by decide), if_neg (by decide), if_pos (by decide), hs.2.2.1]
      · rw [if_neg (by decide), if_neg (by decide), if_neg (by decide), if_pos (by decide), hs.2.2.2.1]
      · rw [if_neg (by decide), if_neg (by decide), if_neg (by decide), if_neg (by decide), hs.2.2.2.2]
