/-! passDays, answer, transfer: the class alone -/
theorem cl_core {V V2 : Rw} {M : xM} {T : List Rw} {S : Option Rw} {C : Rw → Prop} {v : Int32} {F G : xM → Option (Int32 × xM)} (hR : Rk V M T S) (h : Core C V V2 v F G) : ∃ Mk M1, f_X1_keep M = some Mk ∧ F Mk = some (v, M1) ∧ Rk V2 M1 (psh V T) S := by
  obtain ⟨Mk, k1, k2, k3, k4, k5⟩ := keep_T hR
  obtain ⟨M1, a1, a2, a3⟩ := h.1 Mk k2
  exact ⟨Mk, M1, k1, a1, Rk_of (V := V) a2 h.2.2 a3 k4 k5⟩
theorem cl_passDays {V : Rw} {M : xM} {T : List Rw} {S : Option Rw} (hR : Rk V M T S) {a : Int32} (p1 : 1 ≤ a ∧ a ≤ 99) (p2 : V 0 + a ≤ 9999) : ∃ M1, f_X8_passDays M a = some (dayN V a, M1) ∧ Rk (dayV V a) M1 (psh V T) S := by
  have hv := hR.1
  have ho := v_ok hv
  obtain ⟨Mk, M1, k1, k2, k3⟩ := cl_core hR (core_days ho hR.2.1 1 p1 p2)
  have k2' : f_X8_tryDays_46 Mk a 1 = some (dayN V a, M1) := k2
  refine ⟨M1, ?_, k3⟩
  unfold f_X8_passDays f_X8_tryDays
  simp only [wi_e, xb_n, ifb0, if_pos p1, v_today hv, if_pos p2, if_neg (show ¬ (1 : Int32) = 0 by decide), k1, k2', xb2_n]
theorem rsn_Rk {V : Rw} {M : xM} {T : List Rw} {S : Option Rw} (hR : Rk V M T S) (v : Int32) : Rk (upd V 7 v) (xw M 1 9 v) T S := by
  obtain ⟨s1, s2⟩ := rsn8 hR.1 hR.2.1 v
  exact Rk_of (V := V) s1 (z_upd hR.2.1 (by decide)) s2 hR.2.2.1 hR.2.2.2
/-- why an answer is refused -/
def rsA (V : Rw) (q : Nat) (v : Int32) : Prop :=
  (v = 6 ∧ ¬ V (756 + 10 * q) = 0) ∨ (V (756 + 10 * q) = 0 ∧ ((v = 7 ∧ ∀ d, bpI V (nN V (756 + 10 * q + 2)) d (nN V 4) = d) ∨ ∃ m, m < nN V 4 ∧ (∀ d, bpI V (nN V (756 + 10 * q + 2)) d (nN V 4) = nI m) ∧ ((v = 8 ∧ ¬ V (756 + 10 * q + 6) ≤ qlV V m (nN V (756 + 10 * q + 2))) ∨ (V (756 + 10 * q + 6) ≤ qlV V m (nN V (756 + 10 * q + 2)) ∧ ((v = 9 ∧ ¬ lkV V (V (756 + 10 * q + 1)) (nN V (756 + 10 * q + 2)) (V (756 + 10 * q + 3)) (V (756 + 10 * q + 4)) (V (756 + 10 * q + 5)) (nN V (84 + 5 * nN V (756 + 10 * q + 2) + 4)) = 0) ∨ (v = 0 ∧ lkV V (V (756 + 10 * q + 1)) (nN V (756 + 10 * q + 2)) (V (756 + 10 * q + 3)) (V (756 + 10 * q + 4)) (V (756 + 10 * q + 5)) (nN V (84 + 5 * nN V (756 + 10 * q + 2) + 4)) = 0))))))
theorem rf8 {V : Rw} (ho : Ok V) {q : Nat} (hq : q < nN V 6) : ∃ v : Int32, rsA V q v ∧ ∀ M, Vw V M → f_X8_refusalOfAnswer M (nI q) = some v := by
  have c6 := ok_c6 ho
  have c4 := ok_c4 ho
  have hQ := ho.2.2.2.2.2.2.2.2.2.1 q hq
  generalize hr : nN V (756 + 10 * q + 2) = r
  have q2 : V (756 + 10 * q + 2) = nI r := by rw [← hr]; exact hQ.2.2.1
  have hr3 : r < nN V 3 := by rw [← hr]; exact hQ.2.2.2.1
  unfold rsA
  rw [hr]
  unfold f_X8_refusalOfAnswer
  by_cases p0 : V (756 + 10 * q) = 0
  case neg => exact ⟨6, Or.inl ⟨rfl, p0⟩, fun M h => by rw [isOpen8 h hq, xb_n, ifb0, if_neg p0]⟩
  rcases bp_cases V r (nN V 4) with ⟨m, hm, e⟩ | e
  case inr => exact ⟨7, Or.inr ⟨p0, Or.inl ⟨rfl, e⟩⟩, fun M h => by rw [isOpen8 h hq, xb_n, ifb0, if_pos p0, g_req_2 h hq, xb_n, xl_n, q2, b8 h hr3, xb_n, xl_n, e, if_neg (by decide)]⟩
  have pm : (0 : Int32) ≤ nI m := nI_pos' (by omega)
  by_cases p1 : V (756 + 10 * q + 6) ≤ qlV V m r
  case neg => exact ⟨8, Or.inr ⟨p0, Or.inr ⟨m, hm, e, Or.inl ⟨rfl, p1⟩⟩⟩, fun M h => by rw [isOpen8 h hq, xb_n, ifb0, if_pos p0, g_req_2 h hq, xb_n, xl_n, q2, b8 h hr3, xb_n, xl_n, e, if_pos pm, q8 h hm hr3, xb_n, g_req_6 h hq, xb_n, if_neg p1]⟩
  by_cases p2 : lkV V (V (756 + 10 * q + 1)) r (V (756 + 10 * q + 3)) (V (756 + 10 * q + 4)) (V (756 + 10 * q + 5)) (nN V (84 + 5 * r + 4)) = 0
  case neg => exact ⟨9, Or.inr ⟨p0, Or.inr ⟨m, hm, e, Or.inr ⟨p1, Or.inl ⟨rfl, p2⟩⟩⟩⟩, fun M h => by rw [isOpen8 h hq, xb_n, ifb0, if_pos p0, g_req_2 h hq, xb_n, xl_n, q2, b8 h hr3, xb_n, xl_n, e, if_pos pm, q8 h hm hr3, xb_n, g_req_6 h hq, xb_n, if_pos p1, g_req_1 h hq, xb_n, g_req_3 h hq, xb_n, g_req_4 h hq, xb_n, g_req_5 h hq, xb_n, lk8 h hr3, xb_n, xl_n, if_neg p2]⟩
  exact ⟨0, Or.inr ⟨p0, Or.inr ⟨m, hm, e, Or.inr ⟨p1, Or.inr ⟨rfl, p2⟩⟩⟩⟩, fun M h => by rw [isOpen8 h hq, xb_n, ifb0, if_pos p0, g_req_2 h hq, xb_n, xl_n, q2, b8 h hr3, xb_n, xl_n, e, if_pos pm, q8 h hm hr3, xb_n, g_req_6 h hq, xb_n, if_pos p1, g_req_1 h hq, xb_n, g_req_3 h hq, xb_n, g_req_4 h hq, xb_n, g_req_5 h hq, xb_n, lk8 h hr3, xb_n, xl_n, if_pos p2]⟩
theorem cl_answer {V : Rw} {M : xM} {T : List Rw} {S : Option Rw} (hR : Rk V M T S) {q : Nat} (hq : q < nN V 6) : (∃ v M1, rsA V q v ∧ ¬ v = 0 ∧ f_X8_answer M (nI q) = some (-5, M1) ∧ Rk (upd V 7 v) M1 T S) ∨ (∃ m M1, rsA V q 0 ∧ m < nN V 4 ∧ (∀ d, bpI V (nN V (756 + 10 * q + 2)) d (nN V 4) = nI m) ∧ f_X8_answer M (nI q) = some (nI m, M1) ∧ Rk (ansV V q m) M1 (psh V T) S) := by
  have hv := hR.1
  have ho := v_ok hv
  have c6 := ok_c6 ho
  have hx : xin (nI q) (nN V 6) = true := xin_n hq (by omega)
  obtain ⟨v, v1, v2⟩ := rf8 ho hq
  by_cases z : v = 0
  · subst z
    right
    have v1' := v1
    rcases v1 with ⟨a, -⟩ | ⟨y0, ⟨a, -⟩ | ⟨m, hm, he, -⟩⟩
    · exact absurd a (by decide)
    · exact absurd a (by decide)
    · obtain ⟨Mk, M1, k1, k2, k3⟩ := cl_core hR (core_ans ho hR.2.1 hq hm y0 he 1 0)
      have k2' : f_X8_giveAnswer Mk (nI q) = some (nI m, M1) := k2
      refine ⟨m, M1, v1', hm, he, ?_, k3⟩
      unfold f_X8_answer f_X8_tryAnswer
      simp only [has_req hv, xb_n, xl_n, ifb0, if_pos hx, v2 M hv, if_true, if_neg (show ¬ (1 : Int32) = 0 by decide), k1, f_X8_tryAnswer_52, k2', xb2_n]
  · refine Or.inl ⟨v, xw M 1 9 v, v1, z, ?_, rsn_Rk hR v⟩
    unfold f_X8_answer f_X8_tryAnswer
    simp only [has_req hv, xb_n, xl_n, ifb0, if_pos hx, v2 M hv, if_neg z, xb2_n]
/-- a speed of a machine -/
theorem cp8 {V : Rw} (ho : Ok V) {m : Nat} (hm : m < nN V 2) (sp : Int32) : ∃ b : Bool, (∀ M, Vw V M → f_X8_canPlay M (nI m) sp = some (bI (b = true))) ∧ (b = true → rg sp 1 380 ∧ ∃ k, k < 3 ∧ V (64 + 5 * m) = nI k ∧ ¬ plc k sp < 0) := by
  have c2 := ok_c2 ho
  have hM := ho.2.2.1 m hm
  obtain ⟨k, hk, ek⟩ := rg_ex (n := 2) hM.1 (by decide)
  obtain ⟨w, w1, w2, ew⟩ := pos_ex (n := 7) hM.2.1 (by decide)
  rcases plc_ex k sp with hp | ⟨j, hj, hp⟩
  · refine ⟨false, fun M h => ?_, fun z => absurd z (by decide)⟩
    unfold f_X8_canPlay
    rw [g_mac_0 h hm, xb_n, ek, ns_e (by omega), xb_n, xl_n, hp, if_pos (by decide)]
    rfl
  · have pj : ¬ plc k sp < 0 := by rw [hp]; exact nI_pos (by omega)
    refine ⟨w.testBit j, fun M h => ?_, fun _ => ⟨plc_rg (k := k) (by omega) pj, k, by omega, ek, pj⟩⟩
    have b := bt8 ⟨w, by omega⟩ ⟨j, by omega⟩
    unfold f_X8_canPlay bI
    rw [g_mac_0 h hm, xb_n, ek, ns_e (by omega), xb_n, xl_n, hp, if_neg (nI_pos (by omega)), g_mac_1 h hm, xb_n, ew]
    simp only [b]
    by_cases q : w.testBit j = true
    · rw [if_neg (fun z => z q), if_pos q]
    · rw [if_pos q, if_neg q]
/-- why a pass is refused -/
def rsP (V : Rw) (c m l h : Nat) (sp : Int32) (s : Nat) (v : Int32) : Prop :=
  (v = 1 ∧ ¬ V (24 + 5 * c) = V (64 + 5 * m)) ∨ (V (24 + 5 * c) = V (64 + 5 * m) ∧ (v = 2 ∨ v = 3 ∨ v = 4 ∨ v = 5 ∨ (v = 0 ∧ plV V c sp ≤ V (24 + 5 * c + 4) ∧ tmV V c sp ≤ V (64 + 5 * m + 4) ∧ aN (fun t => decide (0 < cpF V c m l h sp s t)) 4 = true ∧ nN V 4 < 24)))
theorem cap_v {V : Rw} (ho : Ok V) {c m l h s : Nat} {sp : Int32} (hc : c < nN V 1) (hm : m < nN V 2) (el : V (24 + 5 * c + 2) = nI l) (eh : V (64 + 5 * m + 2) = nI h) (r1 : rg sp 1 380) (hl : l ≤ 3) (hh : h ≤ 3) (hs : s < 2) {M : xM} (hv : Vw V M) {t : Nat} (ht : t < 4) : f_X8_captureNow M (nI c) (nI m) sp (nI s) (nI t) = some (cpF V c m l h sp s t) := cap8 (g_car_1 hv hc) ((g_car_2 hv hc).trans (congrArg some el)) ((g_mac_2 hv hm).trans (congrArg some eh)) (g_mac_3 hv hm) (g_car_5 hv hc) (ho.2.1 c hc).2.1 r1 hl hh hs ht
theorem rp8 {V : Rw} (ho : Ok V) (hz : Z916 V) {c m l h s : Nat} {sp : Int32} (hc : c < nN V 1) (hm : m < nN V 2) (el : V (24 + 5 * c + 2) = nI l) (eh : V (64 + 5 * m + 2) = nI h) (r1 : rg sp 1 380) (hl : l ≤ 3) (hh : h ≤ 3) (hs : s < 2) : ∃ v : Int32, rsP V c m l h sp s v ∧ ∀ M, Vw V M → f_X8_refusalOfPass M (nI c) (nI m) sp (nI s) = some v := by
  have c1 := ok_c1 ho
  have c2 := ok_c2 ho
  have c4 := ok_c4 ho
  have L : ∀ M, Vw V M → f_X8_refusalOfPass M (nI c) (nI m) sp (nI s) = if V (24 + 5 * c) = V (64 + 5 * m) then (if plV V c sp ≤ V (24 + 5 * c + 4) then (if tmV V c sp ≤ V (64 + 5 * m + 4) then (if aN (fun t => decide (0 < cpF V c m l h sp s t)) 4 = true then (if nN V 4 = 24 then some 5 else some 0) else some 4) else some 3) else some 2) else some 1 := by
    intro M hv
    have hfull := s_full_pas (St_0 hv hz) (ok_n4 ho) c4
    unfold f_X8_refusalOfPass
    rw [sk8 hv hc hm, xb_n, ifb0, g_car_4 hv hc, xb_n, pl8 (g_car_1 hv hc), xb_n, g_mac_4 hv hm, xb_n, tm8 (g_car_1 hv hc) (g_car_3 hv hc) r1, xb_n, th8 (fun t ht => cap_v ho hc hm el eh r1 hl hh hs hv ht), xb_n, th_b, hfull, xb_n, ifb0]
    by_cases q : aN (fun t => decide (0 < cpF V c m l h sp s t)) 4 = true
    · have z : ¬ thB (fun t => decide (0 < cpF V c m l h sp s t)) 4 = 0 := by rw [th_0]; exact fun w => w q
      rw [if_neg z, if_pos q]; rfl
    · have z : thB (fun t => decide (0 < cpF V c m l h sp s t)) 4 = 0 := by rw [th_0]; exact q
      rw [if_pos z, if_neg q]; rfl
  unfold rsP
  by_cases q1 : V (24 + 5 * c) = V (64 + 5 * m)
  case neg => exact ⟨1, Or.inl ⟨rfl, q1⟩, fun M hv => by rw [L M hv, if_neg q1]⟩
  by_cases q2 : plV V c sp ≤ V (24 + 5 * c + 4)
  case neg => exact ⟨2, Or.inr ⟨q1, Or.inl rfl⟩, fun M hv => by rw [L M hv, if_pos q1, if_neg q2]⟩
  by_cases q3 : tmV V c sp ≤ V (64 + 5 * m + 4)
  case neg => exact ⟨3, Or.inr ⟨q1, Or.inr (Or.inl rfl)⟩, fun M hv => by rw [L M hv, if_pos q1, if_pos q2, if_neg q3]⟩
  by_cases q4 : aN (fun t => decide (0 < cpF V c m l h sp s t)) 4 = true
  case neg => exact ⟨4, Or.inr ⟨q1, Or.inr (Or.inr (Or.inl rfl))⟩, fun M hv => by rw [L M hv, if_pos q1, if_pos q2, if_pos q3, if_neg q4]⟩
  by_cases q5 : nN V 4 = 24
  case pos => exact ⟨5, Or.inr ⟨q1, Or.inr (Or.inr (Or.inr (Or.inl rfl)))⟩, fun M hv => by rw [L M hv, if_pos q1, if_pos q2, if_pos q3, if_pos q4, if_pos q5]⟩
  exact ⟨0, Or.inr ⟨q1, Or.inr (Or.inr (Or.inr (Or.inr ⟨rfl, q2, q3, q4, by omega⟩)))⟩, fun M hv => by rw [L M hv, if_pos q1, if_pos q2, if_pos q3, if_pos q4, if_neg q5]⟩
theorem cl_transfer {V : Rw} {M : xM} {T : List Rw} {S : Option Rw} (hR : Rk V M T S) {c m s : Nat} (hc : c < nN V 1) (hm : m < nN V 2) (hs : s < 2) (sp : Int32) :
    ∃ l h, l ≤ 3 ∧ h ≤ 3 ∧ V (24 + 5 * c + 2) = nI l ∧ V (64 + 5 * m + 2) = nI h ∧
    ((f_X8_transfer M (nI c) (nI m) sp (nI s) = some (-2, M) ∧ f_X8_heard M (nI c) (nI m) sp (nI s) 0 = some (-2)) ∨
     (rg sp 1 380 ∧ (∃ k, k < 3 ∧ V (64 + 5 * m) = nI k ∧ ¬ plc k sp < 0) ∧ f_X8_heard M (nI c) (nI m) sp (nI s) 0 = some (if V (24 + 5 * c) = V (64 + 5 * m) then cpF V c m l h sp s 0 else -3) ∧
      ((∃ v M1, rsP V c m l h sp s v ∧ ¬ v = 0 ∧ f_X8_transfer M (nI c) (nI m) sp (nI s) = some (-5, M1) ∧ Rk (upd V 7 v) M1 T S) ∨
       (∃ M1, rsP V c m l h sp s 0 ∧ f_X8_transfer M (nI c) (nI m) sp (nI s) = some (nI (nN V 4), M1) ∧ Rk (passV V (nN V 4) c m sp s (cpF V c m l h sp s)) M1 (psh V T) S)))) := by
  have hv := hR.1
  have ho := v_ok hv
  have c1 := ok_c1 ho
  have c2 := ok_c2 ho
  have hx : xin (nI c) (nN V 1) = true := xin_n hc (by omega)
  have hy : xin (nI m) (nN V 2) = true := xin_n hm (by omega)
  obtain ⟨l, hl, el⟩ := lyc ho hc
  obtain ⟨h, hh, eh⟩ := rg_ex (n := 3) (ho.2.2.1 m hm).2.2.1 (by decide)
  refine ⟨l, h, hl, hh, el, eh, ?_⟩
  have t1 : 0 < trN l := by unfold trN; split <;> (try split) <;> omega
  have q0 : xin 0 (trN l) = true := xin_n (e := 0) t1 (by omega)
  have qs : (0 : Int32) ≤ nI s ∧ nI s ≤ 1 := ⟨nI_pos' (by omega), by rw [li_1, le_n (by omega) (by omega)]; omega⟩
  obtain ⟨b, b8, br⟩ := cp8 ho hm sp
  by_cases qb : b = true
  case neg =>
    left
    refine ⟨?_, ?_⟩
    · unfold f_X8_transfer f_X8_tryPass
      simp only [has_car hv, has_mac hv, xb_n, ifb0, if_pos hx, if_pos hy, b8 M hv, if_neg qb, xb2_n]
    · unfold f_X8_heard
      simp only [has_car hv, has_mac hv, xb_n, ifb0, if_pos hx, if_pos hy, ht8 hv hc hl el, if_pos q0, b8 M hv, if_neg qb]
  right
  obtain ⟨rs, kk⟩ := br qb
  refine ⟨rs, kk, ?_, ?_⟩
  · unfold f_X8_heard
    have cp := cap_v ho hc hm el eh rs hl hh hs hv (t := 0) (by decide)
    have cp' : f_X8_captureNow M (nI c) (nI m) sp (nI s) 0 = some (cpF V c m l h sp s 0) := cp
    simp only [has_car hv, has_mac hv, xb_n, ifb0, if_pos hx, if_pos hy, ht8 hv hc hl el, if_pos q0, b8 M hv, if_pos qb, sid_e, if_pos qs, sk8 hv hc hm, cp']
    by_cases w : V (24 + 5 * c) = V (64 + 5 * m)
    · simp only [if_pos w]
    · simp only [if_neg w]
  · obtain ⟨v, v1, v2⟩ := rp8 ho hR.2.1 hc hm el eh rs hl hh hs
    by_cases z : v = 0
    · subst z
      right
      have v1' := v1
      rcases v1 with ⟨a, -⟩ | ⟨w, a | a | a | a | ⟨-, w2, w3, w4, w5⟩⟩
      · exact absurd a (by decide)
      · exact absurd a (by decide)
      · exact absurd a (by decide)
      · exact absurd a (by decide)
      · exact absurd a (by decide)
      · obtain ⟨Mk, M1, k1, k2, k3⟩ := cl_core hR (core_pass ho hR.2.1 hc hm rfl w5 el eh rs hl hh hs 1 0 0)
        have k2' : f_X8_makePass Mk (nI c) (nI m) sp (nI s) = some (nI (nN V 4), M1) := k2
        refine ⟨M1, v1', ?_, k3⟩
        unfold f_X8_transfer f_X8_tryPass
        simp only [has_car hv, has_mac hv, xb_n, xl_n, ifb0, if_pos hx, if_pos hy, b8 M hv, if_pos qb, sid_e, if_pos qs, v2 M hv, if_true, if_neg (show ¬ (1 : Int32) = 0 by decide), k1, f_X8_tryPass_94, k2', xb2_n]
    · refine Or.inl ⟨v, xw M 1 9 v, v1, z, ?_, rsn_Rk hR v⟩
      unfold f_X8_transfer f_X8_tryPass
      simp only [has_car hv, has_mac hv, xb_n, xl_n, ifb0, if_pos hx, if_pos hy, b8 M hv, if_pos qb, sid_e, if_pos qs, v2 M hv, if_neg z, xb2_n]
