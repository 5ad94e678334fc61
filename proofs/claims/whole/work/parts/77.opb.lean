theorem Ok_rq {V V2 : Nat → Int32} (h : Ok V) {r : Nat} (e : ∀ j, j ≠ 7 → (j < 8 ∨ 24 ≤ j) → (j < 756 + 10 * r ∨ 756 + 10 * r + 10 ≤ j) → V2 j = V j) (hr : r < nN V 6) (hq : OkQ V2 r) : Ok V2 := by
  have c5 := ok_c5 h
  have c6 := ok_c6 h
  have n5 : nN V2 5 = nN V 5 := by unfold nN; rw [e 5 (by decide) (by decide) (by omega)]
  have n6 : nN V2 6 = nN V 6 := by unfold nN; rw [e 6 (by decide) (by decide) (by omega)]
  refine Ok_hi h (fun j g1 _ _ g2 g3 => e j g2 g3 (by omega)) (by rw [n5, e 5 (by decide) (by decide) (by omega)]; exact ok_n5 h) (by rw [n5]; exact c5) (by rw [n6, e 6 (by decide) (by decide) (by omega)]; exact ok_n6 h) (by rw [n6]; exact c6) (fun q hq2 => ?_) (fun q hq2 hq3 => ?_) (fun q hq2 => ?_) (fun q hq2 hq3 => ?_)
  · rw [n5] at hq2; rw [e _ (by omega) (by omega) (by omega)]; exact h.2.2.2.2.2.2.2.1 q hq2
  · rw [n5] at hq2; rw [e _ (by omega) (by omega) (by omega)]; exact h.2.2.2.2.2.2.2.2.1 q hq2 hq3
  · rw [n6] at hq2
    by_cases hqr : q = r
    · rw [hqr]; exact hq
    · exact OkQ_c (h.2.2.2.2.2.2.2.2.2.1 q hq2) (by unfold nN; rw [e 3 (by decide) (by decide) (by omega)]; exact Nat.le_refl _) (fun c hc => e _ (by omega) (by omega) (by omega))
  · rw [n6] at hq2; rw [e _ (by omega) (by omega) (by omega)]; exact h.2.2.2.2.2.2.2.2.2.2 q hq2 hq3
theorem op_withdraw {M : xM} (hR : Rl M) (a : Int32) : Op2 (fun m => f_X8_withdraw m a) (fun m => f_X9_withdraw m a) M := by
  have hv := Rl_vw hR
  have ho := v_ok hv
  have c6 := ok_c6 ho
  unfold Op2 f_X8_withdraw f_X9_withdraw
  by_cases hx : xin a (nN (M 150) 6) = true
  case neg => exact ⟨-1, M, M, by simp only [has_req hv, xb_e, ifb0, if_neg hx], by simp only [one9_6 rfl ho, xb_e, ifb0, if_neg hx], hR⟩
  obtain ⟨r, hr, rfl⟩ := xin_ex hx (by omega)
  have hr2 : r < 16 := by omega
  by_cases hq : M 150 (756 + 10 * r) = 0
  case neg => exact ⟨-3, M, M, by simp only [has_req hv, xb_e, ifb0, if_pos hx, isOpen8 hv hr, if_neg hq], by simp only [one9_6 rfl ho, xb_e, ifb0, if_pos hx, isOpen9 rfl hr2, if_neg hq], hR⟩
  obtain ⟨Mk, k1, hk, hc⟩ := do_op hR
  have h0 := St_0 hk hR.2.1
  obtain ⟨e1, h1, n1⟩ := sw_req h0 (ok_n6 ho) c6 (c := 0) 0 3 hr rfl (by decide)
  simp only [Nat.add_zero] at e1 h1 n1
  have d1 := St_der h1 hk (upd_ne (by omega)) (upd_ne (by omega)) (fun j _ _ => upd_ne (by omega)) (fun r _ => ⟨upd_ne (by omega), upd_ne (by omega)⟩) (fun r _ => upd_ne (by have := ok_c1 ho; omega))
  have o1 : Ok (upd (M 150) (756 + 10 * r) 3) := by
    refine Ok_rq ho (fun j _ _ _ => upd_ne (by omega)) hr ?_
    have old := ho.2.2.2.2.2.2.2.2.2.1 r hr
    unfold OkQ at *
    have x1 : nN (upd (M 150) (756 + 10 * r) 3) (756 + 10 * r + 1) = nN (M 150) (756 + 10 * r + 1) := by unfold nN; rw [upd_ne (by omega)]
    have x2 : nN (upd (M 150) (756 + 10 * r) 3) (756 + 10 * r + 2) = nN (M 150) (756 + 10 * r + 2) := by unfold nN; rw [upd_ne (by omega)]
    have x3 : nN (upd (M 150) (756 + 10 * r) 3) 3 = nN (M 150) 3 := by unfold nN; rw [upd_ne (by omega)]
    rw [x1, x2, x3, upd_eq]
    simp (disch := omega) only [upd_ne]
    exact ⟨old.1, old.2.1, old.2.2.1, old.2.2.2.1, old.2.2.2.2.1, old.2.2.2.2.2.1, old.2.2.2.2.2.2.1, old.2.2.2.2.2.2.2.1, old.2.2.2.2.2.2.2.2.1, fun q => absurd q (by decide)⟩
  obtain ⟨f1, f2, Mr, f3, f4⟩ := hc _ _ h1 d1 o1
  have hcount : cN (fun q => decide (xw Mk 15 (r * 10) 3 15 (q * 10 + 0) = 0)) (nN (M 150) 6) = cN (fun q => decide (upd (M 150) (756 + 10 * r) 3 (756 + 10 * q) = 0)) (nN (M 150) 6) := cN_congr (fun q hq => by rw [h1.1.2.2.2.2.2.2.2.2.1 q 0 (by omega) (by decide), Nat.add_zero])
  refine ⟨nI (cN (fun q => decide (upd (M 150) (756 + 10 * r) 3 (756 + 10 * q) = 0)) (nN (M 150) 6)), xw Mk 15 (r * 10) 3, _, ?_, ?_, f4⟩
  · simp only [has_req hv, xb_e, ifb0, if_pos hx, isOpen8 hv hr, if_pos hq, k1, e1]
    rw [s_cnt_req h1 n1 c6 (c := 0) 0 0 rfl (by decide), hcount, xb_e]
  · simp (disch := omega) only [ite_true, IM, IA, IR, IC, IN, nI_add, pk_mul, xin_n, cl_n, xgd_e, ↓xl_e, xb_e, xb2_e, xw_wV, wV_150, one9_6 f1 ho, ifb0, if_pos hx, isOpen9 f1 hr2, if_pos hq, f3]
    rw [inSt9 wV_150 n1 c6 0, xb_e]
theorem op_revoke {M : xM} (hR : Rl M) (a : Int32) : Op2 (fun m => f_X8_revoke m a) (fun m => f_X9_revoke m a) M := by
  have hv := Rl_vw hR
  have ho := v_ok hv
  have c5 := ok_c5 ho
  unfold Op2 f_X8_revoke f_X9_revoke
  by_cases hx : xin a (nN (M 150) 5) = true
  case neg => exact ⟨-1, M, M, by simp only [has_per hv, xb_e, ifb0, if_neg hx], by simp only [one9_5 rfl ho, xb_e, ifb0, if_neg hx], hR⟩
  obtain ⟨r, hr, rfl⟩ := xin_ex hx (by omega)
  have hr2 : r < 24 := by omega
  have h01 := ho.2.2.2.2.2.2.2.1
  rcases h01 r hr with hq | hq
  case inr => exact ⟨-3, M, M, by simp only [has_per hv, xb_e, ifb0, if_pos hx, g_per_4 hv hr, hq]; rfl, by simp (disch := omega) only [ite_true, IM, IA, IR, IC, IN, nI_add, pk_mul, xin_n, cl_n, xgd_e, ↓xl_e, xb_e, xb2_e, xw_wV, wV_150, one9_5 rfl ho, ifb0, if_pos hx, hq], hR⟩
  obtain ⟨Mk, k1, hk, hc⟩ := do_op hR
  have h0 := St_0 hk hR.2.1
  obtain ⟨e1, h1, n1⟩ := sw_per h0 (ok_n5 ho) c5 (c := 4) 4 1 hr rfl (by decide)
  have d1 := St_der h1 hk (upd_ne (by omega)) (upd_ne (by omega)) (fun j _ _ => upd_ne (by omega)) (fun r _ => ⟨upd_ne (by omega), upd_ne (by omega)⟩) (fun r _ => upd_ne (by have := ok_c1 ho; omega))
  have n5 : nN (upd (M 150) (636 + 5 * r + 4) 1) 5 = nN (M 150) 5 := by unfold nN; rw [upd_ne (by omega)]
  have n6 : nN (upd (M 150) (636 + 5 * r + 4) 1) 6 = nN (M 150) 6 := by unfold nN; rw [upd_ne (by omega)]
  have h01' : ∀ q, q < nN (M 150) 5 → upd (M 150) (636 + 5 * r + 4) 1 (636 + 5 * q + 4) = 0 ∨ upd (M 150) (636 + 5 * r + 4) 1 (636 + 5 * q + 4) = 1 := by
    intro q hq2
    by_cases hqr : q = r
    · subst hqr; right; exact upd_eq
    · rw [upd_ne (by omega)]; exact h01 q hq2
  have c6 := ok_c6 ho
  have o1 : Ok (upd (M 150) (636 + 5 * r + 4) 1) := by
    refine Ok_hi ho (fun j _ _ _ _ _ => upd_ne (by omega)) (by rw [n5, upd_ne (by omega)]; exact ok_n5 ho) (by rw [n5]; exact ok_c5 ho) (by rw [n6, upd_ne (by omega)]; exact ok_n6 ho) (by rw [n6]; exact c6) (fun q hq2 => ?_) (fun q hq2 hq3 => ?_) (fun q hq2 => ?_) (fun q hq2 hq3 => ?_)
    · rw [n5] at hq2; exact h01' q hq2
    · rw [n5] at hq2; rw [upd_ne (by omega)]; exact ho.2.2.2.2.2.2.2.2.1 q hq2 hq3
    · rw [n6] at hq2
      exact OkQ_c (ho.2.2.2.2.2.2.2.2.2.1 q hq2) (by unfold nN; rw [upd_ne (by omega)]; exact Nat.le_refl _) (fun c hc => upd_ne (by omega))
    · rw [n6] at hq2; rw [upd_ne (by omega)]; exact ho.2.2.2.2.2.2.2.2.2.2 q hq2 hq3
  obtain ⟨f1, f2, Mr, f3, f4⟩ := hc _ _ h1 d1 o1
  have hcount : cN (fun q => decide (xw Mk 13 (r * 5 + 4) 1 13 (q * 5 + 4) = 0)) (nN (M 150) 5) = cN (fun q => decide (upd (M 150) (636 + 5 * r + 4) 1 (636 + 5 * q + 4) = 0)) (nN (M 150) 5) := cN_congr (fun q hq => by rw [h1.1.2.2.2.2.2.2.2.1 q 4 (by omega) (by decide)])
  refine ⟨nI (cN (fun q => decide (upd (M 150) (636 + 5 * r + 4) 1 (636 + 5 * q + 4) = 0)) (nN (M 150) 5)), xw Mk 13 (r * 5 + 4) 1, _, ?_, ?_, f4⟩
  · simp only [has_per hv, xb_e, ifb0, if_pos hx, g_per_4 hv hr, hq, if_true, k1, e1]
    rw [s_cnt_per h1 n1 c5 (c := 4) 4 0 rfl (by decide), hcount, xb_e]
  · simp (disch := omega) only [ite_true, IM, IA, IR, IC, IN, nI_add, pk_mul, xin_n, cl_n, xgd_e, ↓xl_e, xb_e, xb2_e, xw_wV, wV_150, one9_5 f1 ho, ifb0, if_pos hx, f1, hq, f3]
    rw [if_neg (by decide)]
    exact rv55 wV_150 n1 c5 h01' (nI r) (nN (M 150) 5) 0 xFU (by omega) (by unfold xFU; omega)
theorem per_e (a : Int32) : f_X8_isPerson a = some (bI (0 ≤ a ∧ a ≤ 7)) := by
  unfold f_X8_isPerson
  rw [wi_e, xb_e, xgd_t _ (bI_z _)]
theorem use_e (a : Int32) : f_X8_isUse a = some (bI (0 ≤ a ∧ a ≤ 2)) := by
  unfold f_X8_isUse
  rw [wi_e, xb_e, xgd_t _ (bI_z _)]
theorem sid_e (a : Int32) : f_X8_isSide a = some (bI (0 ≤ a ∧ a ≤ 1)) := by
  unfold f_X8_isSide
  rw [wi_e, xb_e, xgd_t _ (bI_z _)]
theorem s_today {V : Nat → Int32} {M Mk : xM} (h : St V M Mk) : M 1 8 = V 0 := h.1.2.2.2.2.2.2.2.2.2.2.2.1
theorem op_permit {M : xM} (hR : Rl M) (a1 a2 a3 a4 : Int32) : Op2 (fun m => f_X8_permit m a1 a2 a3 a4) (fun m => f_X9_permit m a1 a2 a3 a4) M := by
  have hv := Rl_vw hR
  have ho := v_ok hv
  have c5 := ok_c5 ho
  have c6 := ok_c6 ho
  have c1 := ok_c1 ho
  unfold Op2 f_X8_permit f_X9_permit
  by_cases p1 : 0 ≤ a1 ∧ a1 ≤ 7
  case neg => exact ⟨-2, M, M, by simp only [per_e, xb_e, ifb0, if_neg p1], by simp only [in_e, wi_e, xb_e, ifb0, if_neg p1], hR⟩
  by_cases p2 : 0 ≤ a2 ∧ a2 ≤ 7
  case neg => exact ⟨-2, M, M, by simp only [per_e, xb_e, ifb0, if_pos p1, if_neg p2], by simp only [in_e, wi_e, xb_e, ifb0, if_pos p1, if_neg p2], hR⟩
  by_cases p3 : 0 ≤ a3 ∧ a3 ≤ 2
  case neg => exact ⟨-2, M, M, by simp only [per_e, use_e, xb_e, ifb0, if_pos p1, if_pos p2, if_neg p3], by simp only [in_e, wi_e, xb_e, ifb0, if_pos p1, if_pos p2, if_neg p3], hR⟩
  by_cases p4 : 0 ≤ a4 ∧ a4 ≤ 9999
  case neg => exact ⟨-2, M, M, by simp only [per_e, use_e, wi_e, xb_e, ifb0, if_pos p1, if_pos p2, if_pos p3, if_neg p4], by simp only [in_e, wi_e, xb_e, ifb0, if_pos p1, if_pos p2, if_pos p3, if_neg p4], hR⟩
  have hfull := s_full_per (St_0 hv hR.2.1) (ok_n5 ho) c5
  by_cases p5 : nN (M 150) 5 = 24
  case pos =>
    have v24 : M 150 5 = 24 := by rw [ok_n5 ho, p5]; rfl
    exact ⟨-4, M, M, by simp only [per_e, use_e, wi_e, xb_e, ifb0, if_pos p1, if_pos p2, if_pos p3, if_pos p4, hfull, if_pos p5], by simp only [in_e, wi_e, ifb0, xb_e, if_pos p1, if_pos p2, if_pos p3, if_pos p4, IN, xgd_e, ic_5, v24, if_true], hR⟩
  obtain ⟨Mk, k1, hk, hc⟩ := do_op hR
  have h0 := St_0 hk hR.2.1
  generalize hn : nN (M 150) 5 = n at *
  have v5 : M 150 5 = nI n := by rw [← hn]; exact ok_n5 ho
  obtain ⟨e1, h1⟩ := s_add_per h0 v5 c5 p5
  obtain ⟨e2, h2, n2⟩ := sw_per h1 (n := n + 1) upd_eq (by omega) (r := n) (c := 0) 0 a1 (by omega) rfl (by decide)
  obtain ⟨e3, h3, n3⟩ := sw_per h2 (n := n + 1) n2 (by omega) (r := n) (c := 1) 1 a2 (by omega) rfl (by decide)
  obtain ⟨e4, h4, n4⟩ := sw_per h3 (n := n + 1) n3 (by omega) (r := n) (c := 2) 2 a3 (by omega) rfl (by decide)
  obtain ⟨e5, h5, n5⟩ := sw_per h4 (n := n + 1) n4 (by omega) (r := n) (c := 3) 3 a4 (by omega) rfl (by decide)
  have d1 := St_der h5 hk (by simp (disch := omega) only [upd_ne]) (by simp (disch := omega) only [upd_ne]) (fun j _ _ => by simp (disch := omega) only [upd_ne]) (fun r _ => ⟨by simp (disch := omega) only [upd_ne], by simp (disch := omega) only [upd_ne]⟩) (fun r _ => by simp (disch := omega) only [upd_ne])
  have hz : M 150 (636 + 5 * n + 4) = 0 := ho.2.2.2.2.2.2.2.2.1 n (by omega) (by omega)
  generalize hV2 : upd (upd (upd (upd (upd (M 150) 5 (nI (n + 1))) (636 + 5 * n + 0) a1) (636 + 5 * n + 1) a2) (636 + 5 * n + 2) a3) (636 + 5 * n + 3) a4 = V2 at *
  have eo : ∀ j, j ≠ 5 → (j < 636 + 5 * n ∨ 636 + 5 * n + 4 ≤ j) → V2 j = M 150 j := fun j g1 g2 => by rw [← hV2]; simp (disch := omega) only [upd_ne]
  have x5 : nN V2 5 = n + 1 := nN_of n5 (by omega)
  have x6 : nN V2 6 = nN (M 150) 6 := by unfold nN; rw [eo 6 (by omega) (by omega)]
  have o1 : Ok V2 := by
    refine Ok_hi ho (fun j _ _ _ _ _ => eo j (by omega) (by omega)) (by rw [x5]; exact n5) (by rw [x5]; omega) (by rw [x6, eo 6 (by omega) (by omega)]; exact ok_n6 ho) (by rw [x6]; exact c6) (fun q hq2 => ?_) (fun q hq2 hq3 => ?_) (fun q hq2 => ?_) (fun q hq2 hq3 => ?_)
    · rw [x5] at hq2
      rw [eo _ (by omega) (by omega)]
      by_cases hqn : q = n
      · rw [hqn]; exact Or.inl hz
      · exact ho.2.2.2.2.2.2.2.1 q (by omega)
    · rw [x5] at hq2; rw [eo _ (by omega) (by omega)]; exact ho.2.2.2.2.2.2.2.2.1 q (by omega) hq3
    · rw [x6] at hq2
      exact OkQ_c (ho.2.2.2.2.2.2.2.2.2.1 q hq2) (by unfold nN; rw [eo 3 (by omega) (by omega)]; exact Nat.le_refl _) (fun c hc => eo _ (by omega) (by omega))
    · rw [x6] at hq2; rw [eo _ (by omega) (by omega)]; exact ho.2.2.2.2.2.2.2.2.2.2 q hq2 hq3
  obtain ⟨f1, f2, Mr, f3, f4⟩ := hc _ _ h5 d1 o1
  refine ⟨nI n, xw (xw (xw (xw (xw Mk 12 2 (nI (n + 1))) 13 (n * 5 + 0) a1) 13 (n * 5 + 1) a2) 13 (n * 5 + 2) a3) 13 (n * 5 + 3) a4, wV Mr V2, ?_, ?_, f4⟩
  rotate_left
  · simp only [in_e, wi_e, ifb0, xb_e, if_pos p1, if_pos p2, if_pos p3, if_pos p4, IN, xgd_e, ic_5, f1, v5]
    rw [if_neg (by rw [li_24, eq_n (by omega) (by decide)]; exact p5), f3, xb_e]
    simp (disch := omega) only [ite_true, IM, IA, IR, IC, IN, nI_add, pk_mul, xin_n, cl_n, xgd_e, ↓xl_e, xb_e, xb2_e, xw_wV, wV_150, v5, upd_ne, upd_eq, nI_pred]
    rw [← hV2, upd_id (k := 636 + 5 * n + 4) (x := 0) (by simp (disch := omega) only [upd_ne]; exact hz)]
    simp (disch := omega) only [upd_out 5, Nat.add_zero]
  · simp only [per_e, use_e, wi_e, xb_e, xb2_e, xl_e, ifb0, if_pos p1, if_pos p2, if_pos p3, if_pos p4, hfull, if_neg p5, k1, e1, e2, e3, e4, e5]
