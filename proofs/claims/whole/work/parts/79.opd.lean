theorem Ok_cm {V V2 : Nat → Int32} (h : Ok V) (e : ∀ j, (j = 0 ∨ (3 ≤ j ∧ j < 7) ∨ 84 ≤ j) → V2 j = V j) (n1 : V2 1 = nI (nN V2 1)) (c1 : nN V2 1 ≤ 8) (m1 : nN V 1 ≤ nN V2 1) (n2 : V2 2 = nI (nN V2 2)) (c2 : nN V2 2 ≤ 4) (m2 : nN V 2 ≤ nN V2 2) (hC : ∀ r, r < nN V2 1 → OkC V2 r) (hM : ∀ r, r < nN V2 2 → OkM V2 r) : Ok V2 := by
  obtain ⟨⟨a1, a2, a3, a4, a5, a6, a7, a8, a9, a10, a11, a12, a13⟩, b1, b2, b3, b4, b5, b6, b7, b8, b9, b10⟩ := h
  have x3 : nN V2 3 = nN V 3 := by unfold nN; rw [e 3 (by omega)]
  have x4 : nN V2 4 = nN V 4 := by unfold nN; rw [e 4 (by omega)]
  have x5 : nN V2 5 = nN V 5 := by unfold nN; rw [e 5 (by omega)]
  have x6 : nN V2 6 = nN V 6 := by unfold nN; rw [e 6 (by omega)]
  refine ⟨⟨n1, c1, n2, c2, by rw [x3, e 3 (by omega)]; exact a5, by omega, by rw [x4, e 4 (by omega)]; exact a7, by omega, by rw [x5, e 5 (by omega)]; exact a9, by omega, by rw [x6, e 6 (by omega)]; exact a11, by omega, by rw [e 0 (by omega)]; exact a13⟩, hC, hM, fun r hr => OkR_c (b3 r (by omega)) m1 (fun c hc => e _ (by omega)), fun r h1 h2 => by rw [e _ (by omega)]; exact b4 r (by omega) h2, fun r k hr hk => ?_, fun p hp => OkP_c (b6 p (by omega)) m1 m2 (fun c hc => e _ (by omega)), fun r hr => by rw [e _ (by omega)]; exact b7 r (by omega), fun r h1 h2 => by rw [e _ (by omega)]; exact b8 r (by omega) h2, fun r hr => OkQ_c (b9 r (by omega)) (by omega) (fun c hc => e _ (by omega)), fun r h1 h2 => by rw [e _ (by omega)]; exact b10 r (by omega) h2⟩
  have x9 : nN V2 (84 + 5 * r + 4) = nN V (84 + 5 * r + 4) := by unfold nN; rw [e _ (by omega)]
  exact OkT_c (b5 r k (by omega) (by omega)) (fun c hc => e _ (by omega))
theorem sp_rg : ∀ i : Fin 9, 0 < xSpI i.val → 1 ≤ (xSpI i.val).toInt ∧ (xSpI i.val).toInt ≤ 380 := by decide +kernel
theorem plc_rg {k : Nat} (hk : k < 3) {s : Int32} (h : ¬ plc k s < 0) : rg s 1 380 := by
  unfold plc at h
  by_cases q1 : 0 < s ∧ xSpI (3 * k) = s
  · have := sp_rg ⟨3 * k, by omega⟩ (by rw [q1.2]; exact q1.1)
    rw [← q1.2]; exact this
  · rw [if_neg q1] at h
    by_cases q2 : 0 < s ∧ xSpI (3 * k + 1) = s
    · have := sp_rg ⟨3 * k + 1, by omega⟩ (by rw [q2.2]; exact q2.1)
      rw [← q2.2]; exact this
    · rw [if_neg q2] at h
      by_cases q3 : 0 < s ∧ xSpI (3 * k + 2) = s
      · have := sp_rg ⟨3 * k + 2, by omega⟩ (by rw [q3.2]; exact q3.1)
        rw [← q3.2]; exact this
      · rw [if_neg q3] at h
        exact absurd (by decide) h
theorem hl_yes {k : Nat} (hk : k < 3) {l : Int32} {P : Prop} (h : ∃ v, f_X2_hasLayout (nI k) l = some v ∧ ¬ v = 0) : 0 ≤ l ∧ l ≤ 3 := by
  obtain ⟨v, h1, h2⟩ := h
  by_cases q : 0 ≤ l ∧ l ≤ 3
  · exact q
  · rw [hl_outl _ _ q] at h1
    exact absurd (Option.some.inj h1).symm h2
theorem hl_some {k : Nat} (hk : k < 3) (l : Int32) : ∃ v, f_X2_hasLayout (nI k) l = some v := by
  by_cases q : 0 ≤ l ∧ l ≤ 3
  · obtain ⟨m, hm, rfl⟩ := nI_ex (n := 3) (by decide) q
    exact ⟨_, hl_fin ⟨k, hk⟩ ⟨m, by omega⟩⟩
  · exact ⟨0, hl_outl _ _ q⟩
theorem op_addCarrier {M : xM} (hR : Rl M) (a1 a2 a3 a4 a5 : Int32) : Op2 (fun m => f_X8_addCarrier m a1 a2 a3 a4 a5) (fun m => f_X9_addCarrier m a1 a2 a3 a4 a5) M := by
  have hv := Rl_vw hR
  have ho := v_ok hv
  have c1 := ok_c1 ho
  have c2 := ok_c2 ho
  have hK := hR.2.2.2.1
  unfold Op2 f_X8_addCarrier f_X9_addCarrier
  by_cases p1 : 0 ≤ a1 ∧ a1 ≤ 2
  case neg => exact ⟨-2, M, M, by simp only [hl_out _ _ p1, xb_n, if_true], by simp only [in_e, wi_e, xb_n, ifb0, if_neg p1], hR⟩
  obtain ⟨k, hk, rfl⟩ := nI_ex (n := 2) (by decide) p1
  have hk3 : k < 3 := by omega
  obtain ⟨vl, hl⟩ := hl_some hk3 a3
  have ps := ps_e hK hk3 a2
  have ns := ns_e hk3 a2
  have hl9 : f_X9_hasLayout M (nI k) a3 = some vl := (hl9_e hK hk3 a3).trans hl
  by_cases p3 : vl = 0
  case pos =>
    by_cases p2 : plc k a2 < 0
    · exact ⟨-2, M, M, by simp only [hl, xb_n, if_pos p3], by simp only [in_e, wi_e, xb_n, ifb0, if_pos p1, ps, if_pos p2], hR⟩
    · exact ⟨-2, M, M, by simp only [hl, xb_n, if_pos p3], by simp only [in_e, wi_e, xb_n, ifb0, if_pos p1, ps, if_neg p2, hl9, if_pos p3], hR⟩
  have p3' := hl_yes (P := True) hk3 ⟨vl, hl, p3⟩
  by_cases p2 : plc k a2 < 0
  case pos => exact ⟨-2, M, M, by simp only [hl, xb_n, if_neg p3, ns, if_pos p2], by simp only [in_e, wi_e, xb_n, ifb0, if_pos p1, ps, if_pos p2], hR⟩
  by_cases p4 : 1 ≤ a4 ∧ a4 ≤ 3600
  case neg => exact ⟨-2, M, M, by simp only [hl, xb_n, if_neg p3, ns, if_neg p2, wi_e, ifb0, if_neg p4], by simp only [in_e, wi_e, xb_n, ifb0, if_pos p1, ps, if_neg p2, hl9, if_neg p3, if_neg p4], hR⟩
  by_cases p5 : 1 ≤ a5 ∧ a5 ≤ 99
  case neg => exact ⟨-2, M, M, by simp only [hl, xb_n, if_neg p3, ns, if_neg p2, wi_e, ifb0, if_pos p4, if_neg p5], by simp only [in_e, wi_e, xb_n, ifb0, if_pos p1, ps, if_neg p2, hl9, if_neg p3, if_pos p4, if_neg p5], hR⟩
  have hfull := s_full_car (St_0 hv hR.2.1) (ok_n1 ho) c1
  by_cases p6 : nN (M 150) 1 = 8
  case pos =>
    have v8 : M 150 1 = 8 := by rw [ok_n1 ho, p6]; rfl
    exact ⟨-4, M, M, by simp only [hl, xb_n, if_neg p3, ns, if_neg p2, wi_e, ifb0, if_pos p4, if_pos p5, hfull, if_pos p6], by simp only [in_e, wi_e, xb_n, ifb0, if_pos p1, ps, if_neg p2, hl9, if_neg p3, if_pos p4, if_pos p5, IN, xgd_n, IC, v8, if_true], hR⟩
  obtain ⟨Mk, k1, hk1, hc⟩ := do_op hR
  have h0 := St_0 hk1 hR.2.1
  generalize hn : nN (M 150) 1 = n at *
  have v1 : M 150 1 = nI n := by rw [← hn]; exact ok_n1 ho
  obtain ⟨M1, e1, h1, n1⟩ := sa_car h0 v1 c1 p6
  obtain ⟨M2, e2, h2, n2⟩ := sx_car h1 n1 (by omega) (r := n) (c := 0) 0 (nI k) (by omega) rfl (by decide)
  obtain ⟨M3, e3, h3, n3⟩ := sx_car h2 n2 (by omega) (r := n) (c := 1) 1 a2 (by omega) rfl (by decide)
  obtain ⟨M4, e4, h4, n4⟩ := sx_car h3 n3 (by omega) (r := n) (c := 2) 2 a3 (by omega) rfl (by decide)
  obtain ⟨M5, e5, h5, n5⟩ := sx_car h4 n4 (by omega) (r := n) (c := 3) 3 a4 (by omega) rfl (by decide)
  obtain ⟨M6, e6, h6, n6⟩ := sx_car h5 n5 (by omega) (r := n) (c := 4) 4 a5 (by omega) rfl (by decide)
  have d1 := St_der h6 hk1 (by simp (disch := omega) only [upd_ne]) (by simp (disch := omega) only [upd_ne]) (fun j _ _ => by simp (disch := omega) only [upd_ne]) (fun r _ => ⟨by simp (disch := omega) only [upd_ne], by simp (disch := omega) only [upd_ne]⟩) (fun r _ => by simp (disch := omega) only [upd_ne])
  generalize hV2 : upd (upd (upd (upd (upd (upd (M 150) 1 (nI (n + 1))) (24 + 5 * n + 0) (nI k)) (24 + 5 * n + 1) a2) (24 + 5 * n + 2) a3) (24 + 5 * n + 3) a4) (24 + 5 * n + 4) a5 = V2 at *
  have eo : ∀ j, j ≠ 1 → (j < 24 + 5 * n ∨ 24 + 5 * n + 5 ≤ j) → V2 j = M 150 j := fun j g1 g2 => by rw [← hV2]; simp (disch := omega) only [upd_ne]
  have x1 : nN V2 1 = n + 1 := nN_of n6 (by omega)
  have x2 : nN V2 2 = nN (M 150) 2 := by unfold nN; rw [eo 2 (by omega) (by omega)]
  have o1 : Ok V2 := by
    refine Ok_cm ho (fun j g => eo j (by omega) (by omega)) (by rw [x1]; exact n6) (by omega) (by omega) (by rw [x2, eo 2 (by omega) (by omega)]; exact ok_n2 ho) (by omega) (by omega) (fun r hr => ?_) (fun r hr => OkM_c (ho.2.2.1 r (by omega)) (fun c hc => eo _ (by omega) (by omega)))
    by_cases hrn : r = n
    · subst hrn
      unfold OkC
      refine ⟨?_, ?_, ?_, ?_⟩
      · rw [← hV2, show 24 + 5 * r = 24 + 5 * r + 0 from rfl]; simp (disch := omega) only [upd_ne, upd_eq]; exact rg_of p1
      · rw [← hV2]; simp (disch := omega) only [upd_ne, upd_eq]; exact plc_rg hk3 p2
      · rw [← hV2]; simp (disch := omega) only [upd_ne, upd_eq]; exact rg_of p3'
      · rw [← hV2]; simp (disch := omega) only [upd_ne, upd_eq]; exact rg_of p4
    · exact OkC_c (ho.2.1 r (by omega)) (fun c hc => eo _ (by omega) (by omega))
  obtain ⟨f1, f2, Mr, f3, f4⟩ := hc _ _ h6 d1 o1
  have ps' := ps_e f2 hk3 a2
  have hl9' : f_X9_hasLayout M6 (nI k) a3 = some vl := (hl9_e f2 hk3 a3).trans hl
  refine ⟨nI n, M6, wV Mr V2, ?_, ?_, f4⟩
  · simp only [hl, xb_n, xb2_n, xl_n, if_neg p3, ns, if_neg p2, wi_e, ifb0, if_pos p4, if_pos p5, hfull, if_neg p6, k1, e1, e2, e3, e4, e5, e6]
  · simp only [in_e, wi_e, xb_n, ifb0, if_pos p1, ps', if_neg p2, hl9', if_neg p3, if_pos p4, if_pos p5, IN, xgd_n, IC, f1, v1]
    rw [if_neg (by rw [li_8, eq_n (by omega) (by decide)]; exact p6), f3, xb_n]
    simp (disch := omega) only [ite_true, IM, IA, IR, IC, IN, nI_add, pk_mul, xin_n, cl_n, xgd_n, ↓xl_n, xb_n, xb2_n, xw_wV, wV_150, v1, upd_ne, upd_eq, nI_pred]
    rw [← hV2]
    simp (disch := omega) only [upd_out 1, Nat.add_zero]
theorem op_addMachine {M : xM} (hR : Rl M) (a1 a2 a3 a4 : Int32) : Op2 (fun m => f_X8_addMachine m a1 a2 a3 a4) (fun m => f_X9_addMachine m a1 a2 a3 a4) M := by
  have hv := Rl_vw hR
  have ho := v_ok hv
  have c1 := ok_c1 ho
  have c2 := ok_c2 ho
  have hK := hR.2.2.2.1
  have h22 : ∀ m : xM, f_X9_addMachine m a1 a2 a3 a4 = xb (f_X9_in a1 0 2) fun v13 => if v13 = 0 then some ((-2), m) else f_X9_addMachine_22 m a1 a2 a3 a4 a2 1 (if a1 = 2 then 1 else 7) := by
    intro m
    unfold f_X9_addMachine
    by_cases q : a1 = 2
    · simp only [if_pos q]
    · simp only [if_neg q]
  unfold Op2 f_X8_addMachine
  simp only [h22]
  unfold f_X9_addMachine_22
  by_cases p1 : 0 ≤ a1 ∧ a1 ≤ 2
  case neg => exact ⟨-2, M, M, by simp only [hl_out _ _ p1, xb_n, if_true], by simp only [in_e, wi_e, xb_n, ifb0, if_neg p1], hR⟩
  obtain ⟨k, hk, rfl⟩ := nI_ex (n := 2) (by decide) p1
  have hk3 : k < 3 := by omega
  obtain ⟨vl, hl⟩ := hl_some hk3 a3
  have hl9 : f_X9_hasLayout M (nI k) a3 = some vl := (hl9_e hK hk3 a3).trans hl
  generalize hS : (if nI k = 2 then (1 : Int32) else 7) = S
  have hS7 : S.toInt ≤ 7 := by
    rw [← hS]
    split <;> decide
  have hall : f_X2_allSpeeds (nI k) = some S := by rw [allS_e, hS]
  by_cases p3 : vl = 0
  case pos =>
    by_cases p2 : 1 ≤ a2 ∧ a2 ≤ S
    · exact ⟨-2, M, M, by simp only [hl, xb_n, if_pos p3], by simp only [in_e, wi_e, xb_n, ifb0, if_pos p1, if_pos p2, hl9, if_pos p3], hR⟩
    · exact ⟨-2, M, M, by simp only [hl, xb_n, if_pos p3], by simp only [in_e, wi_e, xb_n, ifb0, if_pos p1, if_neg p2], hR⟩
  have p3' := hl_yes (P := True) hk3 ⟨vl, hl, p3⟩
  by_cases p2 : 1 ≤ a2 ∧ a2 ≤ S
  case neg => exact ⟨-2, M, M, by simp only [hl, xb_n, if_neg p3, hall, wi_e, ifb0, if_neg p2], by simp only [in_e, wi_e, xb_n, ifb0, if_pos p1, if_neg p2], hR⟩
  by_cases p4 : 1 ≤ a4 ∧ a4 ≤ 100
  case neg => exact ⟨-2, M, M, by simp only [hl, xb_n, if_neg p3, hall, wi_e, ifb0, if_pos p2, if_neg p4], by simp only [in_e, wi_e, xb_n, ifb0, if_pos p1, if_pos p2, hl9, if_neg p3, if_neg p4], hR⟩
  have hfull := s_full_mac (St_0 hv hR.2.1) (ok_n2 ho) c2
  by_cases p6 : nN (M 150) 2 = 4
  case pos =>
    have v8 : M 150 2 = 4 := by rw [ok_n2 ho, p6]; rfl
    exact ⟨-4, M, M, by simp only [hl, xb_n, if_neg p3, hall, wi_e, ifb0, if_pos p2, if_pos p4, hfull, if_pos p6], by simp only [in_e, wi_e, xb_n, ifb0, if_pos p1, if_pos p2, hl9, if_neg p3, if_pos p4, IN, xgd_n, IC, v8, if_true], hR⟩
  obtain ⟨Mk, k1, hk1, hc⟩ := do_op hR
  have h0 := St_0 hk1 hR.2.1
  generalize hn : nN (M 150) 2 = n at *
  have v1 : M 150 2 = nI n := by rw [← hn]; exact ok_n2 ho
  obtain ⟨M1, e1, h1, n1⟩ := sa_mac h0 v1 c2 p6
  obtain ⟨M2, e2, h2, n2⟩ := sx_mac h1 n1 (by omega) (r := n) (c := 0) 0 (nI k) (by omega) rfl (by decide)
  obtain ⟨M3, e3, h3, n3⟩ := sx_mac h2 n2 (by omega) (r := n) (c := 1) 1 a2 (by omega) rfl (by decide)
  obtain ⟨M4, e4, h4, n4⟩ := sx_mac h3 n3 (by omega) (r := n) (c := 2) 2 a3 (by omega) rfl (by decide)
  obtain ⟨M5, e5, h5, n5⟩ := sx_mac h4 n4 (by omega) (r := n) (c := 3) 3 a4 (by omega) rfl (by decide)
  obtain ⟨M6, e6, h6, n6⟩ := sx_mac h5 n5 (by omega) (r := n) (c := 4) 4 28800 (by omega) rfl (by decide)
  have d1 := St_der h6 hk1 (by simp (disch := omega) only [upd_ne]) (by simp (disch := omega) only [upd_ne]) (fun j _ _ => by simp (disch := omega) only [upd_ne]) (fun r _ => ⟨by simp (disch := omega) only [upd_ne], by simp (disch := omega) only [upd_ne]⟩) (fun r _ => by simp (disch := omega) only [upd_ne])
  generalize hV2 : upd (upd (upd (upd (upd (upd (M 150) 2 (nI (n + 1))) (64 + 5 * n + 0) (nI k)) (64 + 5 * n + 1) a2) (64 + 5 * n + 2) a3) (64 + 5 * n + 3) a4) (64 + 5 * n + 4) 28800 = V2 at *
  have eo : ∀ j, j ≠ 2 → (j < 64 + 5 * n ∨ 64 + 5 * n + 5 ≤ j) → V2 j = M 150 j := fun j g1 g2 => by rw [← hV2]; simp (disch := omega) only [upd_ne]
  have x1 : nN V2 2 = n + 1 := nN_of n6 (by omega)
  have x2 : nN V2 1 = nN (M 150) 1 := by unfold nN; rw [eo 1 (by omega) (by omega)]
  have o1 : Ok V2 := by
    refine Ok_cm ho (fun j g => eo j (by omega) (by omega)) (by rw [x2, eo 1 (by omega) (by omega)]; exact ok_n1 ho) (by omega) (by omega) (by rw [x1]; exact n6) (by omega) (by omega) (fun r hr => OkC_c (ho.2.1 r (by omega)) (fun c hc => eo _ (by omega) (by omega))) (fun r hr => ?_)
    by_cases hrn : r = n
    · subst hrn
      unfold OkM
      refine ⟨?_, ?_, ?_, ?_⟩
      · rw [← hV2, show 64 + 5 * r = 64 + 5 * r + 0 from rfl]; simp (disch := omega) only [upd_ne, upd_eq]; exact rg_of p1
      · rw [← hV2]; simp (disch := omega) only [upd_ne, upd_eq]
        have := rg_of p2
        exact ⟨this.1, Int.le_trans this.2 hS7⟩
      · rw [← hV2]; simp (disch := omega) only [upd_ne, upd_eq]; exact rg_of p3'
      · rw [← hV2]; simp (disch := omega) only [upd_ne, upd_eq]; exact rg_of p4
    · exact OkM_c (ho.2.2.1 r (by omega)) (fun c hc => eo _ (by omega) (by omega))
  obtain ⟨f1, f2, Mr, f3, f4⟩ := hc _ _ h6 d1 o1
  have hl9' : f_X9_hasLayout M6 (nI k) a3 = some vl := (hl9_e f2 hk3 a3).trans hl
  refine ⟨nI n, M6, wV Mr V2, ?_, ?_, f4⟩
  · simp only [hl, xb_n, xb2_n, xl_n, if_neg p3, hall, wi_e, ifb0, if_pos p2, if_pos p4, hfull, if_neg p6, k1, e1, e2, e3, e4, e5, e6]
  · simp only [in_e, wi_e, xb_n, ifb0, if_pos p1, if_pos p2, hl9', if_neg p3, if_pos p4, IN, xgd_n, IC, f1, v1]
    rw [if_neg (by rw [li_4, eq_n (by omega) (by decide)]; exact p6), f3, xb_n]
    simp (disch := omega) only [ite_true, IM, IA, IR, IC, IN, nI_add, pk_mul, xin_n, cl_n, xgd_n, ↓xl_n, xb_n, xb2_n, xw_wV, wV_150, v1, upd_ne, upd_eq, nI_pred]
    rw [← hV2]
    simp (disch := omega) only [upd_out 2, Nat.add_zero]
