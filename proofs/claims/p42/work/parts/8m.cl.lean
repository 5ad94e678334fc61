theorem cl_permit {V : Rw} {M : xM} {TT : List Rw} {SS : Option Rw} (hR : Rk V M TT SS) (a1 a2 a3 a4 : Int32) : Op8 (-5) (f_X8_permit M a1 a2 a3 a4) V M TT SS (fun _ V2 => ∀ j, j ≠ 5 → (j < 636 ∨ 756 ≤ j) → V2 j = V j) := by
  have hv := hR.1
  have ho := v_ok hv
  have c5 := ok_c5 ho
  have c6 := ok_c6 ho
  have c1 := ok_c1 ho
  unfold Op8 f_X8_permit
  by_cases p1 : 0 ≤ a1 ∧ a1 ≤ 7
  case neg => exact Or.inl ⟨-2, by simp only [per_e, xb_e, ifb0, if_neg p1], by decide, by decide⟩
  by_cases p2 : 0 ≤ a2 ∧ a2 ≤ 7
  case neg => exact Or.inl ⟨-2, by simp only [per_e, xb_e, ifb0, if_pos p1, if_neg p2], by decide, by decide⟩
  by_cases p3 : 0 ≤ a3 ∧ a3 ≤ 2
  case neg => exact Or.inl ⟨-2, by simp only [per_e, use_e, xb_e, ifb0, if_pos p1, if_pos p2, if_neg p3], by decide, by decide⟩
  by_cases p4 : 0 ≤ a4 ∧ a4 ≤ 9999
  case neg => exact Or.inl ⟨-2, by simp only [per_e, use_e, wi_e, xb_e, ifb0, if_pos p1, if_pos p2, if_pos p3, if_neg p4], by decide, by decide⟩
  have hfull := s_full_per (St_0 hv hR.2.1) (ok_n5 ho) c5
  by_cases p5 : nN V 5 = 24
  case pos =>
    have v24 : V 5 = 24 := by rw [ok_n5 ho, p5]; rfl
    exact Or.inl ⟨-4, by simp only [per_e, use_e, wi_e, xb_e, ifb0, if_pos p1, if_pos p2, if_pos p3, if_pos p4, hfull, if_pos p5], by decide, by decide⟩
  obtain ⟨Mk, k1, hk, hc⟩ := do8 hR
  have h0 := St_0 hk hR.2.1
  generalize hn : nN V 5 = n at *
  have v5 : V 5 = nI n := by rw [← hn]; exact ok_n5 ho
  obtain ⟨e1, h1⟩ := s_add_per h0 v5 c5 p5
  obtain ⟨e2, h2, n2⟩ := sw_per h1 (n := n + 1) upd_eq (by omega) (r := n) (c := 0) 0 a1 (by omega) rfl (by decide)
  obtain ⟨e3, h3, n3⟩ := sw_per h2 (n := n + 1) n2 (by omega) (r := n) (c := 1) 1 a2 (by omega) rfl (by decide)
  obtain ⟨e4, h4, n4⟩ := sw_per h3 (n := n + 1) n3 (by omega) (r := n) (c := 2) 2 a3 (by omega) rfl (by decide)
  obtain ⟨e5, h5, n5⟩ := sw_per h4 (n := n + 1) n4 (by omega) (r := n) (c := 3) 3 a4 (by omega) rfl (by decide)
  have d1 := St_der h5 hk (by simp (disch := omega) only [upd_ne]) (by simp (disch := omega) only [upd_ne]) (fun j _ _ => by simp (disch := omega) only [upd_ne]) (fun r _ => ⟨by simp (disch := omega) only [upd_ne], by simp (disch := omega) only [upd_ne]⟩) (fun r _ => by simp (disch := omega) only [upd_ne])
  have hz : V (636 + 5 * n + 4) = 0 := ho.2.2.2.2.2.2.2.2.1 n (by omega) (by omega)
  generalize hV2 : upd (upd (upd (upd (upd V 5 (nI (n + 1))) (636 + 5 * n + 0) a1) (636 + 5 * n + 1) a2) (636 + 5 * n + 2) a3) (636 + 5 * n + 3) a4 = V2 at *
  have eo : ∀ j, j ≠ 5 → (j < 636 + 5 * n ∨ 636 + 5 * n + 4 ≤ j) → V2 j = V j := fun j g1 g2 => by rw [← hV2]; simp (disch := omega) only [upd_ne]
  have x5 : nN V2 5 = n + 1 := nN_of n5 (by omega)
  have x6 : nN V2 6 = nN V 6 := by unfold nN; rw [eo 6 (by omega) (by omega)]
  have o1 : Ok V2 := by
    refine Ok_hi ho (fun j _ _ _ _ _ => eo j (by omega) (by omega)) (by rw [x5]; exact n5) (by rw [x5]; omega) (by rw [x6, eo 6 (by omega) (by omega)]; exact ok_n6 ho) (by rw [x6]; exact c6) (fun q hq2 => ?_) (fun q hq2 hq3 => ?_) (fun q hq2 => ?_) (fun q hq2 hq3 => ?_)
    · rw [x5] at hq2
      rw [eo _ (by omega) (by omega)]
      by_cases hqn : q = n
      · rw [hqn]; exact Or.inl hz
      · exact ho.2.2.2.2.2.2.2.1 q (by omega)
    · rw [x5] at hq2; rw [eo _ (by omega) (by omega)]; exact ho.2.2.2.2.2.2.2.2.1 q (by omega) hq3
    · rw [x6] at hq2
      exact OkQ_c (ho.2.2.2.2.2.2.2.2.2.1 q hq2) (by unfold nN; rw [eo 3 (by omega) (by omega)]; exact Nat.le_refl _) (fun c hc => eo _ (by omega) (by omega))
    · rw [x6] at hq2; rw [eo _ (by omega) (by omega)]; exact ho.2.2.2.2.2.2.2.2.2.2 q hq2 hq3
  have f4 := hc _ _ h5 d1 o1
  refine Or.inr ⟨nI n, xw (xw (xw (xw (xw Mk 12 2 (nI (n + 1))) 13 (n * 5 + 0) a1) 13 (n * 5 + 1) a2) 13 (n * 5 + 2) a3) 13 (n * 5 + 3) a4, V2, ?_, f4, ?_, ?_⟩
  · simp only [per_e, use_e, wi_e, xb_e, xb2_e, xl_e, ifb0, if_pos p1, if_pos p2, if_pos p3, if_pos p4, hfull, if_neg p5, k1, e1, e2, e3, e4, e5]
  · exact nI_pos (by omega)
  · exact fun j g1 g2 => eo j g1 (by omega)
theorem cl_request {V : Rw} {M : xM} {TT : List Rw} {SS : Option Rw} (hR : Rk V M TT SS) (a1 a2 a3 a4 a5 a6 : Int32) : Op8 (-5) (f_X8_request M a1 a2 a3 a4 a5 a6) V M TT SS (fun v V2 => ∃ r, r < nN V 3 ∧ exP V r a1 a3 a4 a5 ∧ nN V 6 < 16 ∧ v = nI (nN V 6) ∧ V2 6 = nI (nN V 6 + 1) ∧ (∀ j, j ≠ 6 → (j < 756 + 10 * nN V 6 ∨ 756 + 10 * nN V 6 + 9 ≤ j) → V2 j = V j) ∧ V2 (756 + 10 * nN V 6) = 0 ∧ V2 (756 + 10 * nN V 6 + 1) = a1 ∧ V2 (756 + 10 * nN V 6 + 2) = nI r ∧ V2 (756 + 10 * nN V 6 + 3) = a3 ∧ V2 (756 + 10 * nN V 6 + 4) = a4 ∧ V2 (756 + 10 * nN V 6 + 5) = a5 ∧ V2 (756 + 10 * nN V 6 + 7) = xmn (V 0 + 30) 9999 ∧ V2 (756 + 10 * nN V 6 + 8) = -6) := by
  have hv := hR.1
  have ho := v_ok hv
  have c6 := ok_c6 ho
  have c5 := ok_c5 ho
  have c3 := ok_c3 ho
  have c1 := ok_c1 ho
  unfold Op8 f_X8_request
  by_cases hx : xin a2 (nN V 3) = true
  case neg => exact Or.inl ⟨-1, by simp only [eoe8_no hv hx, xb_n, xl_n]; rw [if_neg (by decide)], by decide, by decide⟩
  obtain ⟨r, hr, rfl⟩ := xin_ex hx (by omega)
  have hr2 : r < 16 := by omega
  by_cases p1 : 0 ≤ a1 ∧ a1 ≤ 7
  case neg => exact Or.inl ⟨-2, by simp only [eoe8_bad hv hr (fun (z : exP _ r a1 a3 a4 a5) => p1 z.1), xb_n, xl_n]; rw [if_neg (by decide)], by decide, by decide⟩
  by_cases p2 : 0 ≤ a3 ∧ a3 < a4 ∧ a4 ≤ V (84 + 5 * r + 3) - V (84 + 5 * r + 2)
  case neg => exact Or.inl ⟨-2, by simp only [eoe8_bad hv hr (fun (z : exP _ r a1 a3 a4 a5) => p2 z.2.1), xb_n, xl_n]; rw [if_neg (by decide)], by decide, by decide⟩
  by_cases p3 : 0 ≤ a5 ∧ a5 ≤ 2
  case neg => exact Or.inl ⟨-2, by simp only [eoe8_bad hv hr (fun (z : exP _ r a1 a3 a4 a5) => p3 z.2.2), xb_n, xl_n]; rw [if_neg (by decide)], by decide, by decide⟩
  have pp : exP V r a1 a3 a4 a5 := ⟨p1, p2, p3⟩
  by_cases p4 : 1 ≤ a6 ∧ a6 ≤ 100
  case neg => exact Or.inl ⟨-2, by simp only [eoe8_ok hv hr pp, xb_n, xl_n, if_true, wi_e, ifb0, if_neg p4], by decide, by decide⟩
  have hfull := s_full_req (St_0 hv hR.2.1) (ok_n6 ho) c6
  by_cases p5 : nN V 6 = 16
  case pos =>
    have v16 : V 6 = 16 := by rw [ok_n6 ho, p5]; rfl
    exact Or.inl ⟨-4, by simp only [eoe8_ok hv hr pp, xb_n, xl_n, if_true, wi_e, ifb0, if_pos p4, hfull, if_pos p5], by decide, by decide⟩
  obtain ⟨Mk, k1, hk, hc⟩ := do8 hR
  have h0 := St_0 hk hR.2.1
  generalize hn : nN V 6 = n at *
  have v6 : V 6 = nI n := by rw [← hn]; exact ok_n6 ho
  obtain ⟨M1, e1, h1, n1⟩ := sa_req h0 v6 c6 p5
  obtain ⟨M2, e2, h2, n2⟩ := sx_req h1 n1 (by omega) (r := n) (c := 0) 0 0 (by omega) rfl (by decide)
  obtain ⟨M3, e3, h3, n3⟩ := sx_req h2 n2 (by omega) (r := n) (c := 1) 1 a1 (by omega) rfl (by decide)
  obtain ⟨M4, e4, h4, n4⟩ := sx_req h3 n3 (by omega) (r := n) (c := 2) 2 (nI r) (by omega) rfl (by decide)
  obtain ⟨M5, e5, h5, n5⟩ := sx_req h4 n4 (by omega) (r := n) (c := 3) 3 a3 (by omega) rfl (by decide)
  obtain ⟨M6, e6, h6, n6⟩ := sx_req h5 n5 (by omega) (r := n) (c := 4) 4 a4 (by omega) rfl (by decide)
  obtain ⟨M7, e7, h7, n7⟩ := sx_req h6 n6 (by omega) (r := n) (c := 5) 5 a5 (by omega) rfl (by decide)
  obtain ⟨M8, e8, h8, n8⟩ := sx_req h7 n7 (by omega) (r := n) (c := 6) 6 a6 (by omega) rfl (by decide)
  have td : M8 1 8 = V 0 := (s_today h8).trans (by simp (disch := omega) only [upd_ne])
  obtain ⟨M9, e9, h9, n9⟩ := sx_req h8 n8 (by omega) (r := n) (c := 7) 7 (xmn (V 0 + 30) 9999) (by omega) rfl (by decide)
  obtain ⟨M10, e10, h10, n10⟩ := sx_req h9 n9 (by omega) (r := n) (c := 8) 8 (-6) (by omega) rfl (by decide)
  have d1 := St_der h10 hk (by simp (disch := omega) only [upd_ne]) (by simp (disch := omega) only [upd_ne]) (fun j _ _ => by simp (disch := omega) only [upd_ne]) (fun r _ => ⟨by simp (disch := omega) only [upd_ne], by simp (disch := omega) only [upd_ne]⟩) (fun r _ => by simp (disch := omega) only [upd_ne])
  have hz : V (756 + 10 * n + 9) = 0 := ho.2.2.2.2.2.2.2.2.2.2 n (by omega) (by omega)
  generalize hV2 : upd (upd (upd (upd (upd (upd (upd (upd (upd (upd V 6 (nI (n + 1))) (756 + 10 * n + 0) 0) (756 + 10 * n + 1) a1) (756 + 10 * n + 2) (nI r)) (756 + 10 * n + 3) a3) (756 + 10 * n + 4) a4) (756 + 10 * n + 5) a5) (756 + 10 * n + 6) a6) (756 + 10 * n + 7) (xmn (V 0 + 30) 9999)) (756 + 10 * n + 8) (-6) = V2 at *
  have eo : ∀ j, j ≠ 6 → (j < 756 + 10 * n ∨ 756 + 10 * n + 9 ≤ j) → V2 j = V j := fun j g1 g2 => by rw [← hV2]; simp (disch := omega) only [upd_ne]
  have x6 : nN V2 6 = n + 1 := nN_of n10 (by omega)
  have x5 : nN V2 5 = nN V 5 := by unfold nN; rw [eo 5 (by omega) (by omega)]
  have x3 : nN V2 3 = nN V 3 := by unfold nN; rw [eo 3 (by omega) (by omega)]
  obtain ⟨k1', hk1', ek1⟩ := nI_ex (n := 7) (by decide) p1
  have hq1 : V2 (756 + 10 * n + 1) = nI k1' := by rw [← hV2, ← ek1]; simp (disch := omega) only [upd_ne, upd_eq]
  have hq2 : V2 (756 + 10 * n + 2) = nI r := by rw [← hV2]; simp (disch := omega) only [upd_ne, upd_eq]
  have h13 := ho.1.2.2.2.2.2.2.2.2.2.2.2.2
  have hdue : rg (xmn (V 0 + 30) 9999) 0 9999 := by
    obtain ⟨g1, g2⟩ := h13
    have e30 : (V 0 + 30 : Int32).toInt = (V 0).toInt + 30 := by
      rw [Int32.toInt_add, show (30 : Int32).toInt = 30 from rfl, Int.bmod_eq_of_le (by omega) (by omega)]
    unfold xmn rg
    by_cases q : (9999 : Int32) < V 0 + 30
    · rw [if_pos q]; exact ⟨by decide, by decide⟩
    · rw [if_neg q, e30]
      have := Int32.le_iff_toInt_le.mp (Int32.not_lt.mp q)
      rw [e30] at this
      exact ⟨by omega, this⟩
  have o1 : Ok V2 := by
    refine Ok_hi ho (fun j _ _ _ _ _ => eo j (by omega) (by omega)) (by rw [x5, eo 5 (by omega) (by omega)]; exact ok_n5 ho) (by rw [x5]; exact c5) (by rw [x6]; exact n10) (by rw [x6]; omega) (fun q hq => ?_) (fun q hq hq3 => ?_) (fun q hq => ?_) (fun q hq hq3 => ?_)
    · rw [x5] at hq; rw [eo _ (by omega) (by omega)]; exact ho.2.2.2.2.2.2.2.1 q hq
    · rw [x5] at hq; rw [eo _ (by omega) (by omega)]; exact ho.2.2.2.2.2.2.2.2.1 q hq hq3
    · rw [x6] at hq
      by_cases hqn : q = n
      · subst hqn
        have y1 : nN V2 (756 + 10 * q + 1) = k1' := nN_of hq1 (by omega)
        have y2 : nN V2 (756 + 10 * q + 2) = r := nN_of hq2 (by omega)
        unfold OkQ
        rw [y1, y2, x3]
        refine ⟨hq1, by omega, hq2, hr, ?_, ?_, ?_, ?_, ?_, fun _ => ?_⟩
        · rw [← hV2]; simp (disch := omega) only [upd_ne, upd_eq]; exact (ex_rg ho hr p2).1
        · rw [← hV2]; simp (disch := omega) only [upd_ne, upd_eq]; exact (ex_rg ho hr p2).2
        · rw [← hV2]; simp (disch := omega) only [upd_ne, upd_eq]; exact rg_of p3
        · rw [← hV2]; simp (disch := omega) only [upd_ne, upd_eq]; exact rg_of p4
        · rw [← hV2]; simp (disch := omega) only [upd_ne, upd_eq]; exact hdue
        · rw [eo _ (by omega) (by omega)]; exact hz
      · exact OkQ_c (ho.2.2.2.2.2.2.2.2.2.1 q (by omega)) (by omega) (fun c hc => eo _ (by omega) (by omega))
    · rw [x6] at hq; rw [eo _ (by omega) (by omega)]; exact ho.2.2.2.2.2.2.2.2.2.2 q (by omega) hq3
  have f4 := hc _ _ h10 d1 o1
  refine Or.inr ⟨nI n, M10, V2, ?_, f4, ?_, ?_⟩
  · simp only [eoe8_ok hv hr pp, xb_n, xb2_n, xl_n, if_true, wi_e, ifb0, if_pos p4, hfull, if_neg p5, k1, e1, e2, e3, e4, e5, e6, e7, e8, td, e9, e10]
  · exact nI_pos (by omega)
  · refine ⟨r, hr, pp, by omega, rfl, n10, eo, ?_, ?_, hq2, ?_, ?_, ?_, ?_, ?_⟩
    · rw [← hV2, show 756 + 10 * n = 756 + 10 * n + 0 from rfl]; simp (disch := omega) only [upd_ne, upd_eq]
    all_goals (rw [← hV2]; simp (disch := omega) only [upd_ne, upd_eq])
theorem cl_withdraw {V : Rw} {M : xM} {TT : List Rw} {SS : Option Rw} (hR : Rk V M TT SS) (a : Int32) : Op8 (-4) (f_X8_withdraw M a) V M TT SS (fun _ V2 => ∃ r, r < nN V 6 ∧ V (756 + 10 * r) = 0 ∧ V2 = upd V (756 + 10 * r) 3) := by
  have hv := hR.1
  have ho := v_ok hv
  have c6 := ok_c6 ho
  unfold Op8 f_X8_withdraw
  by_cases hx : xin a (nN V 6) = true
  case neg => exact Or.inl ⟨-1, by simp only [has_req hv, xb_e, ifb0, if_neg hx], by decide, by decide⟩
  obtain ⟨r, hr, rfl⟩ := xin_ex hx (by omega)
  have hr2 : r < 16 := by omega
  by_cases hq : V (756 + 10 * r) = 0
  case neg => exact Or.inl ⟨-3, by simp only [has_req hv, xb_e, ifb0, if_pos hx, isOpen8 hv hr, if_neg hq], by decide, by decide⟩
  obtain ⟨Mk, k1, hk, hc⟩ := do8 hR
  have h0 := St_0 hk hR.2.1
  obtain ⟨e1, h1, n1⟩ := sw_req h0 (ok_n6 ho) c6 (c := 0) 0 3 hr rfl (by decide)
  simp only [Nat.add_zero] at e1 h1 n1
  have d1 := St_der h1 hk (upd_ne (by omega)) (upd_ne (by omega)) (fun j _ _ => upd_ne (by omega)) (fun r _ => ⟨upd_ne (by omega), upd_ne (by omega)⟩) (fun r _ => upd_ne (by have := ok_c1 ho; omega))
  have o1 : Ok (upd V (756 + 10 * r) 3) := by
    refine Ok_rq ho (fun j _ _ _ => upd_ne (by omega)) hr ?_
    have old := ho.2.2.2.2.2.2.2.2.2.1 r hr
    unfold OkQ at *
    have x1 : nN (upd V (756 + 10 * r) 3) (756 + 10 * r + 1) = nN V (756 + 10 * r + 1) := by unfold nN; rw [upd_ne (by omega)]
    have x2 : nN (upd V (756 + 10 * r) 3) (756 + 10 * r + 2) = nN V (756 + 10 * r + 2) := by unfold nN; rw [upd_ne (by omega)]
    have x3 : nN (upd V (756 + 10 * r) 3) 3 = nN V 3 := by unfold nN; rw [upd_ne (by omega)]
    rw [x1, x2, x3, upd_eq]
    simp (disch := omega) only [upd_ne]
    exact ⟨old.1, old.2.1, old.2.2.1, old.2.2.2.1, old.2.2.2.2.1, old.2.2.2.2.2.1, old.2.2.2.2.2.2.1, old.2.2.2.2.2.2.2.1, old.2.2.2.2.2.2.2.2.1, fun q => absurd q (by decide)⟩
  have f4 := hc _ _ h1 d1 o1
  have hcount : cN (fun q => decide (xw Mk 15 (r * 10) 3 15 (q * 10 + 0) = 0)) (nN V 6) = cN (fun q => decide (upd V (756 + 10 * r) 3 (756 + 10 * q) = 0)) (nN V 6) := cN_congr (fun q hq => by rw [h1.1.2.2.2.2.2.2.2.2.1 q 0 (by omega) (by decide), Nat.add_zero])
  refine Or.inr ⟨nI (cN (fun q => decide (upd V (756 + 10 * r) 3 (756 + 10 * q) = 0)) (nN V 6)), xw Mk 15 (r * 10) 3, _, ?_, f4, ?_, ?_⟩
  · simp only [has_req hv, xb_e, ifb0, if_pos hx, isOpen8 hv hr, if_pos hq, k1, e1]
    rw [s_cnt_req h1 n1 c6 (c := 0) 0 0 rfl (by decide), hcount, xb_e]
  · exact nI_pos (Nat.lt_of_le_of_lt (cN_le _ _) (by omega))
  · exact ⟨r, hr, hq, rfl⟩
theorem cl_addPart {V : Rw} {M : xM} {TT : List Rw} {SS : Option Rw} (hR : Rk V M TT SS) (a1 a2 a3 a4 a5 : Int32) : Op8 (-5) (f_X8_addPart M a1 a2 a3 a4 a5) V M TT SS (fun _ V2 => ∀ j, (j < 84 ∨ 420 ≤ j ∨ ∃ r c, r < 16 ∧ c < 4 ∧ j = 84 + 5 * r + c) → V2 j = V j) := by
  have hv := hR.1
  have ho := v_ok hv
  have c3 := ok_c3 ho
  have c1 := ok_c1 ho
  unfold Op8 f_X8_addPart
  by_cases hx : xin a1 (nN V 3) = true
  case neg => exact Or.inl ⟨-1, by simp only [has_rec hv, xb_n, ifb0, if_neg hx], by decide, by decide⟩
  obtain ⟨r, hr, rfl⟩ := xin_ex hx (by omega)
  have hr2 : r < 16 := by omega
  by_cases p2 : 0 ≤ a2 ∧ a2 < a3 ∧ a3 ≤ V (84 + 5 * r + 3) - V (84 + 5 * r + 2)
  case neg => exact Or.inl ⟨-2, by simp only [has_rec hv, xb_n, ifb0, if_pos hx, len_e hv hr, str_e, if_neg p2], by decide, by decide⟩
  by_cases p3 : 0 ≤ a4 ∧ a4 ≤ 7
  case neg => exact Or.inl ⟨-2, by simp only [has_rec hv, xb_n, ifb0, if_pos hx, len_e hv hr, str_e, if_pos p2, per_e, if_neg p3], by decide, by decide⟩
  by_cases p4 : 0 ≤ a5 ∧ a5 ≤ 9999
  case neg => exact Or.inl ⟨-2, by simp only [has_rec hv, xb_n, ifb0, if_pos hx, len_e hv hr, str_e, if_pos p2, per_e, if_pos p3, wi_e, if_neg p4], by decide, by decide⟩
  have hQ := ho.2.2.2.1 r hr
  obtain ⟨k, hk, e4⟩ : ∃ k, k ≤ 4 ∧ V (84 + 5 * r + 4) = nI k := ⟨_, hQ.2.2.2.2.2.2, hQ.2.2.2.2.2.1⟩
  have g5 : f_X6_get 6 7 96 M (nI r) 5 = some (nI k) := (g_rec_5 hv hr).trans (congrArg some e4)
  by_cases q4 : k = 4
  · refine Or.inl ⟨-4, ?_, by decide, by decide⟩
    simp only [has_rec hv, xb_n, ifb0, if_pos hx, len_e hv hr, str_e, if_pos p2, per_e, if_pos p3, wi_e, if_pos p4, g5, xl_n]
    rw [if_neg (by rw [q4]; decide)]
  have hk4 : k < 4 := by omega
  obtain ⟨Mk, k1, hk1, hc⟩ := do8 hR
  have h0 := St_0 hk1 hR.2.1
  obtain ⟨M1, e1, h1⟩ := sx_prt h0 (j := 4 * r + k) (c := 0) 0 a2 (by omega) rfl (by decide)
  obtain ⟨M2, e2, h2⟩ := sx_prt h1 (j := 4 * r + k) (c := 1) 1 a3 (by omega) rfl (by decide)
  obtain ⟨M3, e3, h3⟩ := sx_prt h2 (j := 4 * r + k) (c := 2) 2 a4 (by omega) rfl (by decide)
  obtain ⟨M4, e5, h4⟩ := sx_prt h3 (j := 4 * r + k) (c := 3) 3 a5 (by omega) rfl (by decide)
  generalize hV3 : upd (upd (upd (upd V (164 + 4 * (4 * r + k) + 0) a2) (164 + 4 * (4 * r + k) + 1) a3) (164 + 4 * (4 * r + k) + 2) a4) (164 + 4 * (4 * r + k) + 3) a5 = V3 at *
  have eo3 : ∀ j, (j < 164 + 4 * (4 * r + k) ∨ 164 + 4 * (4 * r + k) + 4 ≤ j) → V3 j = V j := fun j g => by rw [← hV3]; simp (disch := omega) only [upd_ne]
  have v3 : V3 3 = nI (nN V 3) := (eo3 3 (by omega)).trans (ok_n3 ho)
  have e6 := s_addk_rec h4 v3 c3 (c := 5) 5 1 hr rfl (by decide)
  have h5 := w_rec5 h4 hr2 (M4 7 (r * 6 + 5) + 1)
  have m5 : M4 7 (r * 6 + 5) = nI k := by rw [h4.1.2.2.2.1 r hr2, eo3 _ (by omega)]; exact e4
  rw [m5, ir_1] at e6 h5
  obtain ⟨M5, eM⟩ : ∃ M5, M5 = xw M4 7 (r * 6 + 5) (nI (k + 1)) := ⟨_, rfl⟩
  rw [← eM] at e6 h5
  generalize hV2 : upd V3 (84 + 5 * r + 4) (nI (k + 1)) = V2 at *
  have eo : ∀ j, j ≠ 84 + 5 * r + 4 → (j < 164 + 4 * (4 * r + k) ∨ 164 + 4 * (4 * r + k) + 4 ≤ j) → V2 j = V j := fun j g1 g2 => by rw [← hV2, upd_ne g1]; exact eo3 j g2
  have d1 := St_der h5 hk1 (eo _ (by omega) (by omega)) (eo _ (by omega) (by omega)) (fun j _ _ => eo _ (by omega) (by omega)) (fun q _ => ⟨eo _ (by omega) (by omega), eo _ (by omega) (by omega)⟩) (fun q _ => eo _ (by omega) (by omega))
  obtain ⟨s, hs, es⟩ := nI_ex (n := 7) (by decide) p3
  have t2 : V2 (164 + 4 * (4 * r + k) + 2) = nI s := by rw [← hV2, ← hV3, ← es]; simp (disch := omega) only [upd_ne, upd_eq]
  have o1 : Ok V2 := by
    refine Ok_prt ho hr e4 hk4 eo (by rw [← hV2, upd_eq]) ?_
    have g := ex_rg ho hr p2
    unfold OkT
    rw [nN_of t2 (by omega)]
    refine ⟨?_, ?_, t2, by omega⟩
    · rw [← hV2, ← hV3, show 164 + 4 * (4 * r + k) = 164 + 4 * (4 * r + k) + 0 from rfl]; simp (disch := omega) only [upd_ne, upd_eq]; exact g.1
    · rw [← hV2, ← hV3]; simp (disch := omega) only [upd_ne, upd_eq]; exact g.2
  have f4 := hc _ _ h5 d1 o1
  refine Or.inr ⟨nI k, M5, V2, ?_, f4, ?_, ?_⟩
  · simp only [has_rec hv, xb_n, ifb0, if_pos hx, len_e hv hr, str_e, if_pos p2, per_e, if_pos p3, wi_e, if_pos p4, g5, xl_n]
    rw [if_pos (by rw [li_4, lt_n (by omega) (by decide)]; exact hk4)]
    simp only [k1, row_e, xb_n, xl_n, e1, e2, e3, e5, e6]
  · exact nI_pos (by omega)
  · exact fun j g => eo j (by rcases g with g | g | ⟨r2, c2, g1, g2, rfl⟩ <;> omega) (by rcases g with g | g | ⟨r2, c2, g1, g2, rfl⟩ <;> omega)
theorem cl_addRecording {V : Rw} {M : xM} {TT : List Rw} {SS : Option Rw} (hR : Rk V M TT SS) (a1 a2 a3 a4 : Int32) : Op8 (-5) (f_X8_addRecording M a1 a2 a3 a4) V M TT SS (fun v V2 => nN V 3 < 16 ∧ V2 3 = nI (nN V 3 + 1) ∧ ∀ j, j ≠ 3 → (j < 84 + 5 * nN V 3 ∨ 84 + 5 * nN V 3 + 4 ≤ j) → V2 j = V j) := by
  have hv := hR.1
  have ho := v_ok hv
  have c3 := ok_c3 ho
  have c1 := ok_c1 ho
  have c4 := ok_c4 ho
  unfold Op8 f_X8_addRecording
  by_cases hx : xin a1 (nN V 1) = true
  case neg => exact Or.inl ⟨-1, by simp only [has_car hv, xb_n, ifb0, if_neg hx], by decide, by decide⟩
  obtain ⟨c, hc, rfl⟩ := xin_ex hx (by omega)
  obtain ⟨l, hl, el⟩ := lyc ho hc
  obtain ⟨v, s8, s9, sv⟩ := side_e hl a2
  have g2 : f_X6_get 2 3 56 M (nI c) 2 = some (nI l) := (g_car_2 hv hc).trans (congrArg some el)
  by_cases w : v < 0
  case pos => exact Or.inl ⟨-2, by simp only [has_car hv, xb_n, xl_n, ifb0, if_pos hx, g2, s8, if_pos w], by decide, by decide⟩
  by_cases p : 0 ≤ a3 ∧ a3 < a4 ∧ a4 ≤ V (24 + 5 * c + 3)
  case neg => exact Or.inl ⟨-2, by simp only [has_car hv, xb_n, xl_n, ifb0, if_pos hx, g2, s8, if_neg w, g_car_3 hv hc, str_e, if_neg p], by decide, by decide⟩
  have hfull := s_full_rec (St_0 hv hR.2.1) (ok_n3 ho) c3
  by_cases p5 : nN V 3 = 16
  case pos => exact Or.inl ⟨-4, by simp only [has_car hv, xb_n, xl_n, ifb0, if_pos hx, g2, s8, if_neg w, g_car_3 hv hc, str_e, if_pos p, hfull, if_pos p5], by decide, by decide⟩
  by_cases p6 : aN (tkP V (nI c) a2 a3 a4) (nN V 3) = true
  case pos =>
    exact Or.inl ⟨-3, by simp only [has_car hv, xb_n, xl_n, ifb0, if_pos hx, g2, s8, if_neg w, g_car_3 hv hc, str_e, if_pos p, hfull, if_neg p5, tk8 hv, if_pos p6], by decide, by decide⟩
  obtain ⟨k, hk16, hk0, ek⟩ := sv w
  obtain ⟨Mk, k1, hk1, hcont⟩ := do82 hR
  have h0 := St_0 hk1 hR.2.1
  generalize hn : nN V 3 = n at *
  have v3 : V 3 = nI n := by rw [← hn]; exact ok_n3 ho
  obtain ⟨M1, e1, h1, n1⟩ := sa_rec h0 v3 c3 p5
  obtain ⟨M2, e2, h2, n2⟩ := sx_rec h1 n1 (by omega) (r := n) (c := 0) 0 (nI c) (by omega) rfl (by decide)
  obtain ⟨M3, e3, h3, n3⟩ := sx_rec h2 n2 (by omega) (r := n) (c := 1) 1 a2 (by omega) rfl (by decide)
  obtain ⟨M4, e4, h4, n4⟩ := sx_rec h3 n3 (by omega) (r := n) (c := 2) 2 a3 (by omega) rfl (by decide)
  obtain ⟨M5, e5, h5, n5⟩ := sx_rec h4 n4 (by omega) (r := n) (c := 3) 3 a4 (by omega) rfl (by decide)
  generalize hV2 : upd (upd (upd (upd (upd V 3 (nI (n + 1))) (84 + 5 * n + 0) (nI c)) (84 + 5 * n + 1) a2) (84 + 5 * n + 2) a3) (84 + 5 * n + 3) a4 = V2 at *
  have eo : ∀ j, j ≠ 3 → (j < 84 + 5 * n ∨ 84 + 5 * n + 4 ≤ j) → V2 j = V j := fun j g1 g2 => by rw [← hV2]; simp (disch := omega) only [upd_ne]
  have e6 := s_setk_rec h5 n5 (by omega) (r := n) (c := 4) 4 v (by omega) rfl (by decide)
  obtain ⟨M6, eM6⟩ : ∃ M6, M6 = xw M5 7 (n * 6 + 4) v := ⟨_, rfl⟩
  rw [← eM6] at e6
  have x1 : nN V2 1 = nN V 1 := by unfold nN; rw [eo 1 (by omega) (by omega)]
  have v21 : V2 1 = nI (nN V 1) := (eo 1 (by omega) (by omega)).trans (ok_n1 ho)
  have rc0 : M6 3 (c * 7 + 6) = nI (rcO V c) := by
    rw [eM6, xw_ne (by decide), h5.2.2.2.2.1 c 6 (by omega) (by decide) (by decide)]
    exact hk1.2.1.2.1.2.1 c (by omega)
  have rows6 : M6 2 2 = nI (nN V 1) := by rw [eM6, xw_ne (by decide)]; exact s_rows_car h5 v21
  have cols6 : M6 2 1 = nI 7 := by rw [eM6, xw_ne (by decide)]; exact h5.2.1.1
  have e7 : f_X6_add 2 3 56 M6 (nI c) 6 1 = some (xw M6 3 (c * 7 + 6) (nI (rcO V c + 1))) := by
    rw [T_addv (ct := 3) (n := 56) (c := 6) rows6 cols6 6 1 hc rfl (by decide) (by omega) (by decide) (by omega) (by decide), rc0, ir_1]
  obtain ⟨M7, eM7⟩ : ∃ M7, M7 = xw M6 3 (c * 7 + 6) (nI (rcO V c + 1)) := ⟨_, rfl⟩
  rw [← eM7] at e7
  have raw : EncRaw V2 M7 1 := by
    rw [eM7, eM6]
    exact rd_car (rd_rec h5.1 (by omega) v) (by omega) (by decide) _
  have col : EncCol M7 1 := by
    rw [eM7, eM6]
    exact ec_set (ec_set h5.2.1 (Or.inl (by decide))) (Or.inl (by decide))
  have fr7 : ∀ q, 18 ≤ q → M7 q = Mk q := fun q hq => by rw [eM7, eM6, xw_ne (by omega), xw_ne (by omega)]; exact h5.2.2.2.1 q hq
  have x3 : nN V2 3 = n + 1 := nN_of n5 (by omega)
  have x4 : nN V2 4 = nN V 4 := by unfold nN; rw [eo 4 (by omega) (by omega)]
  have hD := hk1.2.1.2.1
  have w0 : V2 (84 + 5 * n) = nI c := by rw [← hV2, show 84 + 5 * n = 84 + 5 * n + 0 from rfl]; simp (disch := omega) only [upd_ne, upd_eq]
  have wn : nN V2 (84 + 5 * n) = c := nN_of w0 (by omega)
  have der : EncDer V2 M7 1 := by
    refine ⟨fun r hr => ?_, fun r hr => ?_, fun r hr => ?_, fun r hr => ?_, fun q hq => ?_, fun q hq => ?_⟩
    · rw [eM7, eM6, xw_o (by omega), xw_ne (by decide), h5.2.2.2.2.1 r 5 hr (by decide) (by decide), hD.1 r hr]
      unfold psO
      rw [x4]
      exact congrArg nI (cN_congr (fun q hq => by rw [eo _ (by omega) (by omega)]))
    · have e0 : rcO V2 r = cN (fun q => decide (V (84 + 5 * q) = nI r)) n + (if decide (nI c = nI r) = true then 1 else 0) := by
        unfold rcO
        rw [x3]
        show cN _ n + (if decide (V2 (84 + 5 * n) = nI r) = true then 1 else 0) = _
        rw [w0]
        congr 1
        exact cN_congr (fun q hq => by rw [eo _ (by omega) (by omega)])
      have e1 : rcO V r = cN (fun q => decide (V (84 + 5 * q) = nI r)) n := by unfold rcO; rw [hn]
      rw [← e1] at e0
      by_cases hrc : r = c
      · subst hrc
        rw [eM7, xw_same, e0]
        simp
      · rw [eM7, eM6, xw_o (by omega), xw_ne (by decide), h5.2.2.2.2.1 r 6 hr (by decide) (by decide), hD.2.1 r hr, e0, if_neg (by simp; rw [eq_n (by omega) (by omega)]; omega)]
        rfl
    · rw [eM7, eM6, xw_ne (by decide), xw_ne (by decide), h5.2.2.2.2.2.1 r hr, hD.2.2.1 r hr]
      unfold pmO
      rw [x4]
      exact congrArg nI (cN_congr (fun q hq => by rw [eo _ (by omega) (by omega)]))
    · rw [x3] at hr
      by_cases hrn : r = n
      · subst hrn
        have ea : V2 (84 + 5 * r + 1) = a2 := by rw [← hV2]; simp (disch := omega) only [upd_ne, upd_eq]
        rw [eM7, xw_ne (by decide), eM6, xw_same, ea]
        unfold lyR
        rw [wn, eo _ (by omega) (by omega), el]
        exact ⟨s9, w⟩
      · have hq := ho.2.2.2.1 r (by omega)
        have lr : lyR V2 r = lyR V r := by
          unfold lyR
          have : nN V2 (84 + 5 * r) = nN V (84 + 5 * r) := by unfold nN; rw [eo _ (by omega) (by omega)]
          have k2 := hq.2.1
          rw [this, eo _ (by omega) (by omega)]
        rw [eM7, xw_ne (by decide), eM6, xw_o (by omega), h5.2.2.2.2.2.2.1 r (by omega), lr, eo _ (by omega) (by omega)]
        exact hD.2.2.2.1 r (by omega)
    · rw [x4] at hq
      rw [eM7, eM6, xw_ne (by decide), xw_ne (by decide), h5.2.2.2.2.2.2.2 q 5 (by omega) (by decide) (by decide), hD.2.2.2.2.1 q hq]
      unfold tkO
      rw [eo (420 + 9 * q + 5 + 0) (by omega) (by omega), eo (420 + 9 * q + 5 + 1) (by omega) (by omega), eo (420 + 9 * q + 5 + 2) (by omega) (by omega), eo (420 + 9 * q + 5 + 3) (by omega) (by omega)]
    · rw [x4] at hq
      have hP := (ho.2.2.2.2.2.2.1 q hq).2.1
      have lp : lyP V2 q = lyP V q := by
        unfold lyP
        have : nN V2 (420 + 9 * q) = nN V (420 + 9 * q) := by unfold nN; rw [eo _ (by omega) (by omega)]
        rw [this, eo _ (by omega) (by omega)]
      rw [eM7, eM6, xw_ne (by decide), xw_ne (by decide), h5.2.2.2.2.2.2.2 q 6 (by omega) (by decide) (by decide), hD.2.2.2.2.2 q hq]
      unfold bkO
      rw [lp, eo (420 + 9 * q + 3) (by omega) (by omega), eo (420 + 9 * q + 5 + 0) (by omega) (by omega), eo (420 + 9 * q + 5 + 1) (by omega) (by omega), eo (420 + 9 * q + 5 + 2) (by omega) (by omega), eo (420 + 9 * q + 5 + 3) (by omega) (by omega)]
  have hb4 : V (84 + 5 * n + 4) = 0 := ho.2.2.2.2.1 n (by omega) (by omega)
  have ok2 : Ok V2 := by
    refine Ok_rc ho hn (by omega) eo n5 ?_
    have z4 : V2 (84 + 5 * n + 4) = nI 0 := (eo _ (by omega) (by omega)).trans hb4
    have l3 := (ho.2.1 c hc).2.2.2
    have q1 := Int32.le_iff_toInt_le.mp p.1
    have q2 := Int32.lt_iff_toInt_lt.mp p.2.1
    have q3 := Int32.le_iff_toInt_le.mp p.2.2
    have z0 : (0 : Int32).toInt = 0 := rfl
    have l3a := l3.2
    unfold OkR
    rw [wn, nN_of z4 (by decide), x1]
    refine ⟨w0, hc, ?_, ?_, ?_, z4, by decide⟩
    · rw [← hV2, ek]; simp (disch := omega) only [upd_ne, upd_eq]
      exact ⟨by rw [nI_toInt (by omega)]; omega, by rw [nI_toInt (by omega)]; omega⟩
    · rw [← hV2]; simp (disch := omega) only [upd_ne, upd_eq]; exact ⟨by omega, by omega⟩
    · rw [← hV2]; simp (disch := omega) only [upd_ne, upd_eq]; exact ⟨by omega, by omega⟩
  have z2 : Z916 V2 := h5.2.2.1
  have f4 := hcont V2 M7 raw col z2 fr7 der ok2
  refine Or.inr ⟨nI n, M7, V2, ?_, f4, ?_, ?_⟩
  · simp only [has_car hv, xb_n, xb2_n, xl_n, ifb0, if_pos hx, g2, s8, if_neg w, g_car_3 hv hc, str_e, if_pos p, hfull, if_neg p5, tk8 hv, hn, if_neg p6, k1, e1, e2, e3, e4, e5, e6, e7]
  · exact nI_pos (by omega)
  · exact ⟨by omega, n5, eo⟩
theorem cl_addCarrier {V : Rw} {M : xM} {TT : List Rw} {SS : Option Rw} (hR : Rk V M TT SS) {k : Nat} (hk3 : k < 3) {a2 a3 a4 a5 vl : Int32} (hl : f_X2_hasLayout (nI k) a3 = some vl) (p3 : ¬ vl = 0) (p2 : ¬ plc k a2 < 0) (p4 : 1 ≤ a4 ∧ a4 ≤ 3600) (p5 : 1 ≤ a5 ∧ a5 ≤ 99) (p6 : ¬ nN V 1 = 8) : ∃ M1, f_X8_addCarrier M (nI k) a2 a3 a4 a5 = some (nI (nN V 1), M1) ∧ Rk (upd (upd (upd (upd (upd (upd V 1 (nI (nN V 1 + 1))) (24 + 5 * nN V 1 + 0) (nI k)) (24 + 5 * nN V 1 + 1) a2) (24 + 5 * nN V 1 + 2) a3) (24 + 5 * nN V 1 + 3) a4) (24 + 5 * nN V 1 + 4) a5) M1 (psh V TT) SS := by
  have hv := hR.1
  have ho := v_ok hv
  have c1 := ok_c1 ho
  have c2 := ok_c2 ho
  unfold f_X8_addCarrier
  have p1 : 0 ≤ nI k ∧ nI k ≤ 2 := ⟨nI_pos' (by omega), by show nI k ≤ nI 2; rw [le_n (by omega) (by decide)]; omega⟩
  have ns := ns_e hk3 a2
  have p3' := hl_yes (P := True) hk3 ⟨vl, hl, p3⟩
  have hfull := s_full_car (St_0 hv hR.2.1) (ok_n1 ho) c1
  obtain ⟨Mk, k1, hk1, hc⟩ := do8 hR
  have h0 := St_0 hk1 hR.2.1
  generalize hn : nN V 1 = n at *
  have v1 : V 1 = nI n := by rw [← hn]; exact ok_n1 ho
  obtain ⟨M1, e1, h1, n1⟩ := sa_car h0 v1 c1 p6
  obtain ⟨M2, e2, h2, n2⟩ := sx_car h1 n1 (by omega) (r := n) (c := 0) 0 (nI k) (by omega) rfl (by decide)
  obtain ⟨M3, e3, h3, n3⟩ := sx_car h2 n2 (by omega) (r := n) (c := 1) 1 a2 (by omega) rfl (by decide)
  obtain ⟨M4, e4, h4, n4⟩ := sx_car h3 n3 (by omega) (r := n) (c := 2) 2 a3 (by omega) rfl (by decide)
  obtain ⟨M5, e5, h5, n5⟩ := sx_car h4 n4 (by omega) (r := n) (c := 3) 3 a4 (by omega) rfl (by decide)
  obtain ⟨M6, e6, h6, n6⟩ := sx_car h5 n5 (by omega) (r := n) (c := 4) 4 a5 (by omega) rfl (by decide)
  have d1 := St_der h6 hk1 (by simp (disch := omega) only [upd_ne]) (by simp (disch := omega) only [upd_ne]) (fun j _ _ => by simp (disch := omega) only [upd_ne]) (fun r _ => ⟨by simp (disch := omega) only [upd_ne], by simp (disch := omega) only [upd_ne]⟩) (fun r _ => by simp (disch := omega) only [upd_ne])
  generalize hV2 : upd (upd (upd (upd (upd (upd V 1 (nI (n + 1))) (24 + 5 * n + 0) (nI k)) (24 + 5 * n + 1) a2) (24 + 5 * n + 2) a3) (24 + 5 * n + 3) a4) (24 + 5 * n + 4) a5 = V2 at *
  have eo : ∀ j, j ≠ 1 → (j < 24 + 5 * n ∨ 24 + 5 * n + 5 ≤ j) → V2 j = V j := fun j g1 g2 => by rw [← hV2]; simp (disch := omega) only [upd_ne]
  have x1 : nN V2 1 = n + 1 := nN_of n6 (by omega)
  have x2 : nN V2 2 = nN V 2 := by unfold nN; rw [eo 2 (by omega) (by omega)]
  have o1 : Ok V2 := by
    refine Ok_cm ho (fun j g => eo j (by omega) (by omega)) (by rw [x1]; exact n6) (by omega) (by omega) (by rw [x2, eo 2 (by omega) (by omega)]; exact ok_n2 ho) (by omega) (by omega) (fun r hr => ?_) (fun r hr => OkM_c (ho.2.2.1 r (by omega)) (fun c hc => eo _ (by omega) (by omega)))
    by_cases hrn : r = n
    · subst hrn
      unfold OkC
      refine ⟨?_, ?_, ?_, ?_⟩
      · rw [← hV2, show 24 + 5 * r = 24 + 5 * r + 0 from rfl]; simp (disch := omega) only [upd_ne, upd_eq]; exact rg_of p1
      · rw [← hV2]; simp (disch := omega) only [upd_ne, upd_eq]; exact plc_rg hk3 p2
      · rw [← hV2]; simp (disch := omega) only [upd_ne, upd_eq]; exact rg_of p3'
      · rw [← hV2]; simp (disch := omega) only [upd_ne, upd_eq]; exact rg_of p4
    · exact OkC_c (ho.2.1 r (by omega)) (fun c hc => eo _ (by omega) (by omega))
  have f4 := hc _ _ h6 d1 o1
  refine ⟨M6, ?_, f4⟩
  simp only [hl, xb_n, xb2_n, xl_n, if_neg p3, ns, if_neg p2, wi_e, ifb0, if_pos p4, if_pos p5, hfull, if_neg p6, k1, e1, e2, e3, e4, e5, e6]
theorem cl_addMachine {V : Rw} {M : xM} {TT : List Rw} {SS : Option Rw} (hR : Rk V M TT SS) {k : Nat} (hk3 : k < 3) {a2 a3 a4 vl S : Int32} (hl : f_X2_hasLayout (nI k) a3 = some vl) (p3 : ¬ vl = 0) (hS : (if nI k = 2 then (1 : Int32) else 7) = S) (p2 : 1 ≤ a2 ∧ a2 ≤ S) (p4 : 1 ≤ a4 ∧ a4 ≤ 100) (p6 : ¬ nN V 2 = 4) : ∃ M1, f_X8_addMachine M (nI k) a2 a3 a4 = some (nI (nN V 2), M1) ∧ Rk (upd (upd (upd (upd (upd (upd V 2 (nI (nN V 2 + 1))) (64 + 5 * nN V 2 + 0) (nI k)) (64 + 5 * nN V 2 + 1) a2) (64 + 5 * nN V 2 + 2) a3) (64 + 5 * nN V 2 + 3) a4) (64 + 5 * nN V 2 + 4) 28800) M1 (psh V TT) SS := by
  have hv := hR.1
  have ho := v_ok hv
  have c1 := ok_c1 ho
  have c2 := ok_c2 ho
  unfold f_X8_addMachine
  have p1 : 0 ≤ nI k ∧ nI k ≤ 2 := ⟨nI_pos' (by omega), by show nI k ≤ nI 2; rw [le_n (by omega) (by decide)]; omega⟩
  have p3' := hl_yes (P := True) hk3 ⟨vl, hl, p3⟩
  have hS7 : S.toInt ≤ 7 := by
    rw [← hS]
    split <;> decide
  have hall : f_X2_allSpeeds (nI k) = some S := by rw [allS_e, hS]
  have hfull := s_full_mac (St_0 hv hR.2.1) (ok_n2 ho) c2
  obtain ⟨Mk, k1, hk1, hc⟩ := do8 hR
  have h0 := St_0 hk1 hR.2.1
  generalize hn : nN V 2 = n at *
  have v1 : V 2 = nI n := by rw [← hn]; exact ok_n2 ho
  obtain ⟨M1, e1, h1, n1⟩ := sa_mac h0 v1 c2 p6
  obtain ⟨M2, e2, h2, n2⟩ := sx_mac h1 n1 (by omega) (r := n) (c := 0) 0 (nI k) (by omega) rfl (by decide)
  obtain ⟨M3, e3, h3, n3⟩ := sx_mac h2 n2 (by omega) (r := n) (c := 1) 1 a2 (by omega) rfl (by decide)
  obtain ⟨M4, e4, h4, n4⟩ := sx_mac h3 n3 (by omega) (r := n) (c := 2) 2 a3 (by omega) rfl (by decide)
  obtain ⟨M5, e5, h5, n5⟩ := sx_mac h4 n4 (by omega) (r := n) (c := 3) 3 a4 (by omega) rfl (by decide)
  obtain ⟨M6, e6, h6, n6⟩ := sx_mac h5 n5 (by omega) (r := n) (c := 4) 4 28800 (by omega) rfl (by decide)
  have d1 := St_der h6 hk1 (by simp (disch := omega) only [upd_ne]) (by simp (disch := omega) only [upd_ne]) (fun j _ _ => by simp (disch := omega) only [upd_ne]) (fun r _ => ⟨by simp (disch := omega) only [upd_ne], by simp (disch := omega) only [upd_ne]⟩) (fun r _ => by simp (disch := omega) only [upd_ne])
  generalize hV2 : upd (upd (upd (upd (upd (upd V 2 (nI (n + 1))) (64 + 5 * n + 0) (nI k)) (64 + 5 * n + 1) a2) (64 + 5 * n + 2) a3) (64 + 5 * n + 3) a4) (64 + 5 * n + 4) 28800 = V2 at *
  have eo : ∀ j, j ≠ 2 → (j < 64 + 5 * n ∨ 64 + 5 * n + 5 ≤ j) → V2 j = V j := fun j g1 g2 => by rw [← hV2]; simp (disch := omega) only [upd_ne]
  have x1 : nN V2 2 = n + 1 := nN_of n6 (by omega)
  have x2 : nN V2 1 = nN V 1 := by unfold nN; rw [eo 1 (by omega) (by omega)]
  have o1 : Ok V2 := by
    refine Ok_cm ho (fun j g => eo j (by omega) (by omega)) (by rw [x2, eo 1 (by omega) (by omega)]; exact ok_n1 ho) (by omega) (by omega) (by rw [x1]; exact n6) (by omega) (by omega) (fun r hr => OkC_c (ho.2.1 r (by omega)) (fun c hc => eo _ (by omega) (by omega))) (fun r hr => ?_)
    by_cases hrn : r = n
    · subst hrn
      unfold OkM
      refine ⟨?_, ?_, ?_, ?_⟩
      · rw [← hV2, show 64 + 5 * r = 64 + 5 * r + 0 from rfl]; simp (disch := omega) only [upd_ne, upd_eq]; exact rg_of p1
      · rw [← hV2]; simp (disch := omega) only [upd_ne, upd_eq]
        have := rg_of p2
        exact ⟨this.1, Int.le_trans this.2 hS7⟩
      · rw [← hV2]; simp (disch := omega) only [upd_ne, upd_eq]; exact rg_of p3'
      · rw [← hV2]; simp (disch := omega) only [upd_ne, upd_eq]; exact rg_of p4
    · exact OkM_c (ho.2.2.1 r (by omega)) (fun c hc => eo _ (by omega) (by omega))
  have f4 := hc _ _ h6 d1 o1
  refine ⟨M6, ?_, f4⟩
  simp only [hl, xb_n, xb2_n, xl_n, if_neg p3, hall, if_pos p2, wi_e, ifb0, if_pos p4, hfull, if_neg p6, k1, e1, e2, e3, e4, e5, e6]
