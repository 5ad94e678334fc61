/-! the text, and more -/
theorem Rl_txt {M M2 : xM} (hR : Rl M) (f : ∀ k, k ≠ 141 → k ≠ 142 → k ≠ 149 → k ≠ 154 → M2 k = M k) (f2 : M2 149 2 = M 149 2) (ht : Txt M2) : Rl M2 := by
  obtain ⟨hE, hz, hc, hk, hH, hS, hT⟩ := hR
  have w150 : M2 150 = M 150 := f 150 (by decide) (by decide) (by decide) (by decide)
  exact ⟨by rw [w150]; exact Enc_of hE (Lk_same (fun k _ _ => f k (by omega) (by omega) (by omega) (by omega))), by rw [w150]; exact hz, Col_same (fun k _ _ => f k (by omega) (by omega) (by omega) (by omega)) hc, RefK_fr hk (f 155 (by decide) (by decide) (by decide) (by decide)) (f 156 (by decide) (by decide) (by decide) (by decide)), Hist_fr hH f2 (fun k b1 b2 => f k (by omega) (by omega) (by omega) (by omega)) (f 151 (by decide) (by decide) (by decide) (by decide)), Slots_fr hS (fun k b1 b2 => f k (by omega) (by omega) (by omega) (by omega)) (f 152 (by decide) (by decide) (by decide) (by decide)) (f 153 (by decide) (by decide) (by decide) (by decide)), ht⟩
theorem op_clearText {M : xM} (hR : Rl M) : Op2 f_X8_clearText f_X9_clearText M := by
  obtain ⟨L, l1, l2, l3, l4⟩ := hR.2.2.2.2.2.2
  unfold Op2 f_X8_clearText f_X9_clearText
  have e : xw M 141 2 0 149 = M 149 := xw_ne (by decide)
  refine ⟨nI L, xw M 141 2 0, xw (xw M 141 2 0) 149 6 0, ?_, ?_, ?_⟩
  · rw [xl_n, xl_n, l2]
  · rw [xl_n, xl_n, e, l3]
  · refine Rl_txt hR (fun k a b c d => by rw [xw_ne c, xw_ne a]) (by rw [xw_o (by decide), e]) ⟨0, by decide, ?_, xw_same, fun j hj => by omega⟩
    rw [xw_ne (by decide)]; exact xw_same
theorem op_append {M : xM} (hR : Rl M) (a : Int32) : Op2 (fun m => f_X8_append m a) (fun m => f_X9_append m a) M := by
  obtain ⟨L, l1, l2, l3, l4⟩ := hR.2.2.2.2.2.2
  unfold Op2 f_X8_append f_X9_append
  by_cases hb : 32 ≤ a ∧ a ≤ 126
  case neg => exact ⟨-2, M, M, by simp only [wi_e, xb_n, ifb0, if_neg hb], by simp only [in_e, wi_e, xb_n, ifb0, if_neg hb], hR⟩
  have hp : f_X7_put M a = if L = 80 then some (0, M) else some (1, xw (xw M 142 L a) 141 2 (nI (L + 1))) := by
    unfold f_X7_put
    have e80 : (80 : Int32) = nI 80 := rfl
    rw [l2, if_neg (nI_pos (by omega)), e80]
    by_cases q : L = 80
    · rw [if_neg (by rw [lt_n (by omega) (by decide)]; omega), if_pos q]
    · rw [if_pos (by rw [lt_n (by omega) (by decide)]; omega), if_neg q, xin_n (by omega) (by omega), xgd_n, xl_n, xl_n, cl_n (by omega), xw_ne (show 141 ≠ 142 by decide), l2, ir_1]
  by_cases q : L = 80
  · refine ⟨-4, M, M, ?_, ?_, hR⟩
    · simp only [wi_e, xb_n, ifb0, if_pos hb, hp, if_pos q, xb2_n, if_true]
    · simp only [in_e, wi_e, xb_n, ifb0, if_pos hb]
      rw [l3, q, if_pos (show nI 80 = (80 : Int32) from rfl)]
  · have e149 : xw (xw M 142 L a) 141 2 (nI (L + 1)) 149 = M 149 := by rw [xw_ne (by decide), xw_ne (by decide)]
    refine ⟨nI (L + 1), xw (xw M 142 L a) 141 2 (nI (L + 1)), xw (xw (xw (xw M 142 L a) 141 2 (nI (L + 1))) 154 L a) 149 6 (nI (L + 1)), ?_, ?_, ?_⟩
    · simp only [wi_e, xb_n, ifb0, if_pos hb, hp, if_neg q, xb2_n]
      rw [if_neg (by decide), xw_same]
    · simp only [in_e, wi_e, xb_n, ifb0, if_pos hb]
      rw [e149, l3, if_neg (by rw [show (80 : Int32) = nI 80 from rfl, eq_n (by omega) (by decide)]; exact q), xin_n (by omega) (by omega), xgd_n, xl_n, xl_n, cl_n (by omega), xw_ne (show 149 ≠ 154 by decide), e149, l3, ir_1, xw_same]
    · refine Rl_txt hR (fun k b1 b2 b3 b4 => by rw [xw_ne b3, xw_ne b4, xw_ne b1, xw_ne b2]) (by rw [xw_o (by decide), xw_ne (by decide), e149]) ⟨L + 1, by omega, ?_, xw_same, fun j hj => ?_⟩
      · rw [xw_ne (by decide), xw_ne (by decide), xw_same]
      · have x1 : xw (xw (xw (xw M 142 L a) 141 2 (nI (L + 1))) 154 L a) 149 6 (nI (L + 1)) 154 j = if j = L then a else M 154 j := by
          rw [xw_ne (by decide)]
          by_cases z : j = L
          · rw [if_pos z, z, xw_same]
          · rw [if_neg z, xw_o (by omega), xw_ne (by decide), xw_ne (by decide)]
        have x2 : xw (xw (xw (xw M 142 L a) 141 2 (nI (L + 1))) 154 L a) 149 6 (nI (L + 1)) 142 j = if j = L then a else M 142 j := by
          rw [xw_ne (by decide), xw_ne (by decide), xw_ne (by decide)]
          by_cases z : j = L
          · rw [if_pos z, z, xw_same]
          · rw [if_neg z, xw_o (by omega)]
        rw [x1, x2]
        by_cases z : j = L
        · rw [if_pos z, if_pos z]; exact ⟨rfl, rg_of hb⟩
        · rw [if_neg z, if_neg z]; exact l4 j (by omega)
theorem lyc {V : Nat → Int32} (ho : Ok V) {c : Nat} (hc : c < nN V 1) : ∃ l, l ≤ 3 ∧ V (24 + 5 * c + 2) = nI l := rg_ex (n := 3) (ho.2.1 c hc).2.2.1 (by decide)
theorem trN_4 (l : Nat) : trN l ≤ 4 := by
  unfold trN
  by_cases h : l = 0
  · rw [if_pos h]; decide
  · rw [if_neg h]
    by_cases h1 : l = 1
    · rw [if_pos h1]; decide
    · rw [if_neg h1]; decide
theorem ht8 {V : Nat → Int32} {M : xM} (h : Vw V M) {c l : Nat} (hc : c < nN V 1) (hl : l ≤ 3) (e : V (24 + 5 * c + 2) = nI l) (a : Int32) : f_X8_hasTrack M (nI c) a = some (bI (xin a (trN l) = true)) := by
  unfold f_X8_hasTrack
  have t4 : trN l < 100000 := Nat.lt_of_le_of_lt (trN_4 l) (by decide)
  rw [g_car_2 h hc, xb_n, e, (ct_fin ⟨l, by omega⟩).1, xb_n, wi_e, xb_n, xgd_t _ (bI_z _)]
  congr 2
  exact sub1 t4 a
theorem op_captured {M : xM} (hR : Rl M) (a b : Int32) : Op1 (fun m => f_X8_captured m a b) (fun m => f_X9_captured m a b) M := by
  have hv := Rl_vw hR
  have ho := v_ok hv
  have c4 := ok_c4 ho
  have c1 := ok_c1 ho
  unfold Op1 f_X8_captured f_X9_captured
  by_cases hx : xin a (nN (M 150) 4) = true
  case neg => exact ⟨-1, by simp only [has_pas hv, xb_n, ifb0, if_neg hx], by simp only [one9_4 rfl ho, xb_n, ifb0, if_neg hx]⟩
  obtain ⟨p, hp, rfl⟩ := xin_ex hx (by omega)
  have hP := ho.2.2.2.2.2.2.1 p hp
  have e0 : M 150 (420 + 9 * p) = nI (nN (M 150) (420 + 9 * p)) := hP.1
  have k0 := hP.2.1
  obtain ⟨l, hl, el⟩ := lyc ho k0
  have g0 : f_X6_get 10 11 264 M (nI p) 0 = some (nI (nN (M 150) (420 + 9 * p))) := (g_pas_0 hv hp).trans (congrArg some e0)
  have t4 : trN l ≤ 4 := trN_4 l
  have ct : f_X9_tracksOf (nI l) = some (nI (trN l)) := (ct_fin ⟨l, by omega⟩).2
  have r9 : f_X9_captured M (nI p) b = if xin b (trN l) = true then xgd (xin (nI (420 + 9 * p + 5) + b) 916) (some (M 150 (nI (420 + 9 * p + 5) + b).toNatClampNeg)) else some (-1) := by
    unfold f_X9_captured
    rw [one9_4 rfl ho, xb_n, ifb0, if_pos hx, im_9, ia_420, xin_n (by omega) (by omega), xgd_n, cl_n (by omega), e0, im_5, ia_24, ir_2, xin_n (by omega) (by omega), xgd_n, cl_n (by omega), el, ct, xb_n, in_e, wi_e, xb_n, ifb0, ir_5]
    by_cases q : xin b (trN l) = true
    · rw [if_pos q, if_pos (by rw [sub1 (by omega)]; exact q)]
    · rw [if_neg q, if_neg (by rw [sub1 (by omega)]; exact q)]
  by_cases q : xin b (trN l) = true
  case neg => exact ⟨-1, by simp only [has_pas hv, xb_n, ifb0, if_pos hx, g0, ht8 hv k0 hl el, if_neg q], r9.trans (by rw [if_neg q])⟩
  obtain ⟨t, ht, rfl⟩ := xin_ex q (by omega)
  refine ⟨M 150 (420 + 9 * p + 5 + t), ?_, r9.trans (by rw [if_pos q, nI_add, xin_n (by omega) (by omega), xgd_n, cl_n (by omega)])⟩
  have gt : f_X6_get 10 11 264 M (nI p) (7 + nI t) = some (M 150 (420 + 9 * p + 5 + t)) := by
    rw [ia_7, getk_pas hv (7 + t) hp rfl (by omega), hv.2.1.1.2.2.2.2.2.2.1 p t (by omega) (by omega)]
  simp only [has_pas hv, xb_n, ifb0, if_pos hx, g0, ht8 hv k0 hl el, if_pos q, gt]
theorem cnt_req {V : Nat → Int32} {M : xM} (h : Vw V M) (hz : Z916 V) (s : Int32) : f_X6_countOf 14 15 160 M 0 s = some (nI (cN (fun r => decide (V (756 + 10 * r) = s)) (nN V 6))) := by
  have c6 := ok_c6 (v_ok h)
  rw [s_cnt_req (St_0 h hz) (ok_n6 (v_ok h)) c6 (c := 0) 0 s rfl (by decide)]
  congr 2
  exact cN_congr (fun q hq => by rw [h.2.1.1.2.2.2.2.2.2.2.2.1 q 0 (by omega) (by decide), Nat.add_zero])
theorem op_total {M : xM} (hR : Rl M) (a : Int32) : Op1 (fun m => f_X8_total m a) (fun m => f_X9_total m a) M := by
  have hv := Rl_vw hR
  have ho := v_ok hv
  have c6 := ok_c6 ho
  obtain ⟨L, l1, l2, l3, l4⟩ := hR.2.2.2.2.2.2
  obtain ⟨hc5, h, e, hh, he, a3, a4, a5, a6⟩ := hR.2.2.2.2.1
  unfold Op1
  by_cases hb : 0 ≤ a ∧ a ≤ 13
  case neg =>
    refine ⟨-2, ?_, by simp only [f_X9_total, in_e, wi_e, xb_n, ifb0, if_neg hb]⟩
    show f_X8_total M a = _
    unfold f_X8_total
    rw [if_neg (fun w => hb (by rw [w]; decide)), if_neg (fun w => hb (by rw [w]; decide)), if_neg (fun w => hb (by rw [w]; decide)), if_neg (fun w => hb (by rw [w]; decide)), if_neg (fun w => hb (by rw [w]; decide)), if_neg (fun w => hb (by rw [w]; decide)), if_neg (fun w => hb (by rw [w]; decide)), if_neg (fun w => hb (by rw [w]; decide)), if_neg (fun w => hb (by rw [w]; decide)), if_neg (fun w => hb (by rw [w]; decide)), if_neg (fun w => hb (by rw [w]; decide)), if_neg (fun w => hb (by rw [w]; decide)), if_neg (fun w => hb (by rw [w]; decide)), if_neg (fun w => hb (by rw [w]; decide))]
  obtain ⟨k, hk, rfl⟩ := nI_ex (n := 13) (by decide) hb
  have i9 : ∀ s, f_X9_inState M s = some (nI (cN (fun r => decide (M 150 (756 + 10 * r) = s)) (nN (M 150) 6))) := fun s => inSt9 rfl (ok_n6 ho) c6 s
  have lo : ∀ j, j < 7 → k = j → f_X9_total M (nI k) = some (M 150 j) := fun j hj hkj => by
    subst hkj
    unfold f_X9_total
    rw [in_e, wi_e, xb_n, ifb0, if_pos hb, if_neg (by rw [li_7, le_n (by decide) (by omega)]; omega), xin_n (by omega) (by omega), xgd_n, cl_n (by omega)]
  have mid : ∀ j, j < 4 → k = 7 + j → f_X9_total M (nI k) = some (nI (cN (fun r => decide (M 150 (756 + 10 * r) = nI j)) (nN (M 150) 6))) := fun j hj hkj => by
    subst hkj
    unfold f_X9_total
    rw [in_e, wi_e, xb_n, ifb0, if_pos hb, if_pos (by rw [li_7, le_n (by decide) (by omega)]; omega), if_neg (by rw [show (11 : Int32) = nI 11 from rfl, le_n (by decide) (by omega)]; omega)]
    have : nI (7 + j) - 7 = nI j := by
      rcases (show j = 0 ∨ j = 1 ∨ j = 2 ∨ j = 3 by omega) with rfl | rfl | rfl | rfl <;> rfl
    rw [this, i9, xb_n]
  have e8 : ∀ k, f_X8_total M (nI k) = f_X8_total M (nI k) := fun _ => rfl
  rcases (show k = 0 ∨ k = 1 ∨ k = 2 ∨ k = 3 ∨ k = 4 ∨ k = 5 ∨ k = 6 ∨ k = 7 ∨ k = 8 ∨ k = 9 ∨ k = 10 ∨ k = 11 ∨ k = 12 ∨ k = 13 by omega) with q | q | q | q | q | q | q | q | q | q | q | q | q | q
  · refine ⟨M 150 0, ?_, lo 0 (by decide) q⟩
    subst q
    show f_X8_total M (nI 0) = _
    unfold f_X8_total
    rw [if_pos (by decide), v_today hv]
  · refine ⟨M 150 1, ?_, lo 1 (by decide) q⟩
    subst q
    show f_X8_total M (nI 1) = _
    unfold f_X8_total
    rw [if_neg (by decide), if_pos (by decide), v_rows_car hv, ← ok_n1 ho]
  · refine ⟨M 150 2, ?_, lo 2 (by decide) q⟩
    subst q
    show f_X8_total M (nI 2) = _
    unfold f_X8_total
    rw [if_neg (by decide), if_neg (by decide), if_pos (by decide), v_rows_mac hv, ← ok_n2 ho]
  · refine ⟨M 150 3, ?_, lo 3 (by decide) q⟩
    subst q
    show f_X8_total M (nI 3) = _
    unfold f_X8_total
    rw [if_neg (by decide), if_neg (by decide), if_neg (by decide), if_pos (by decide), v_rows_rec hv, ← ok_n3 ho]
  · refine ⟨M 150 4, ?_, lo 4 (by decide) q⟩
    subst q
    show f_X8_total M (nI 4) = _
    unfold f_X8_total
    rw [if_neg (by decide), if_neg (by decide), if_neg (by decide), if_neg (by decide), if_pos (by decide), v_rows_pas hv, ← ok_n4 ho]
  · refine ⟨M 150 5, ?_, lo 5 (by decide) q⟩
    subst q
    show f_X8_total M (nI 5) = _
    unfold f_X8_total
    rw [if_neg (by decide), if_neg (by decide), if_neg (by decide), if_neg (by decide), if_neg (by decide), if_pos (by decide), v_rows_per hv, ← ok_n5 ho]
  · refine ⟨M 150 6, ?_, lo 6 (by decide) q⟩
    subst q
    show f_X8_total M (nI 6) = _
    unfold f_X8_total
    rw [if_neg (by decide), if_neg (by decide), if_neg (by decide), if_neg (by decide), if_neg (by decide), if_neg (by decide), if_pos (by decide), v_rows_req hv, ← ok_n6 ho]
  · refine ⟨nI (cN (fun r => decide (M 150 (756 + 10 * r) = nI 0)) (nN (M 150) 6)), ?_, mid 0 (by decide) q⟩
    subst q
    show f_X8_total M (nI 7) = _
    unfold f_X8_total
    rw [if_neg (by decide), if_neg (by decide), if_neg (by decide), if_neg (by decide), if_neg (by decide), if_neg (by decide), if_neg (by decide), if_pos (by decide), cnt_req hv hR.2.1, xb_n]
    rfl
  · refine ⟨nI (cN (fun r => decide (M 150 (756 + 10 * r) = nI 1)) (nN (M 150) 6)), ?_, mid 1 (by decide) q⟩
    subst q
    show f_X8_total M (nI 8) = _
    unfold f_X8_total
    rw [if_neg (by decide), if_neg (by decide), if_neg (by decide), if_neg (by decide), if_neg (by decide), if_neg (by decide), if_neg (by decide), if_neg (by decide), if_pos (by decide), cnt_req hv hR.2.1, xb_n]
    rfl
  · refine ⟨nI (cN (fun r => decide (M 150 (756 + 10 * r) = nI 2)) (nN (M 150) 6)), ?_, mid 2 (by decide) q⟩
    subst q
    show f_X8_total M (nI 9) = _
    unfold f_X8_total
    rw [if_neg (by decide), if_neg (by decide), if_neg (by decide), if_neg (by decide), if_neg (by decide), if_neg (by decide), if_neg (by decide), if_neg (by decide), if_neg (by decide), if_pos (by decide), cnt_req hv hR.2.1, xb_n]
    rfl
  · refine ⟨nI (cN (fun r => decide (M 150 (756 + 10 * r) = nI 3)) (nN (M 150) 6)), ?_, mid 3 (by decide) q⟩
    subst q
    show f_X8_total M (nI 10) = _
    unfold f_X8_total
    rw [if_neg (by decide), if_neg (by decide), if_neg (by decide), if_neg (by decide), if_neg (by decide), if_neg (by decide), if_neg (by decide), if_neg (by decide), if_neg (by decide), if_neg (by decide), if_pos (by decide), cnt_req hv hR.2.1, xb_n]
    rfl
  · subst q
    refine ⟨M 150 7, ?_, ?_⟩
    · show f_X8_total M (nI 11) = _
      unfold f_X8_total
      rw [if_neg (by decide), if_neg (by decide), if_neg (by decide), if_neg (by decide), if_neg (by decide), if_neg (by decide), if_neg (by decide), if_neg (by decide), if_neg (by decide), if_neg (by decide), if_neg (by decide), if_pos (by decide), v_reason hv]
    · show f_X9_total M (nI 11) = _
      unfold f_X9_total
      rw [in_e, wi_e, xb_n, ifb0, if_pos hb, if_pos (by decide), if_pos (by decide), if_pos (by decide), show xin 7 916 = true from by decide, xgd_n, ic_7]
  · subst q
    refine ⟨nI h, ?_, ?_⟩
    · show f_X8_total M (nI 12) = _
      unfold f_X8_total
      rw [if_neg (by decide), if_neg (by decide), if_neg (by decide), if_neg (by decide), if_neg (by decide), if_neg (by decide), if_neg (by decide), if_neg (by decide), if_neg (by decide), if_neg (by decide), if_neg (by decide), if_neg (by decide), if_pos (by decide), a4]
    · show f_X9_total M (nI 12) = _
      unfold f_X9_total
      rw [in_e, wi_e, xb_n, ifb0, if_pos hb, if_pos (by decide), if_pos (by decide), if_neg (by decide), if_pos (by decide), a3]
  · subst q
    refine ⟨nI L, ?_, ?_⟩
    · show f_X8_total M (nI 13) = _
      unfold f_X8_total
      rw [if_neg (by decide), if_neg (by decide), if_neg (by decide), if_neg (by decide), if_neg (by decide), if_neg (by decide), if_neg (by decide), if_neg (by decide), if_neg (by decide), if_neg (by decide), if_neg (by decide), if_neg (by decide), if_neg (by decide), if_pos (by decide), l2]
    · show f_X9_total M (nI 13) = _
      unfold f_X9_total
      rw [in_e, wi_e, xb_n, ifb0, if_pos hb, if_pos (by decide), if_pos (by decide), if_neg (by decide), if_neg (by decide), l3]
