theorem do_op2 {M : xM} (hR : Rl M) : ∃ Mk, f_X1_keep M = some Mk ∧ Vw (M 150) Mk ∧ ∀ V2 M1, EncRaw V2 M1 1 → EncCol M1 1 → Z916 V2 → (∀ k, 18 ≤ k → M1 k = Mk k) → EncDer V2 M1 1 → Ok V2 → M1 150 = M 150 ∧ RefK M1 ∧ ∃ Mr, f_X9_record M1 = some (wV Mr (M 150)) ∧ Rl (wV Mr V2) := by
  obtain ⟨Mk, k1, k2, k3, k4⟩ := do_keep hR
  refine ⟨Mk, k1, k2, fun V2 M1 hs hcol hz2 e hd ho => ?_⟩
  have e150 : M1 150 = M 150 := (e 150 (by decide)).trans (k3 150 (by omega))
  obtain ⟨Mr, r1, r2, r3, r4⟩ := k4 M1 (fun k b => e k b.1) (e 150 (by decide)) (by rw [e 141 (by decide)]) (by rw [e 149 (by decide)]) (by rw [e 149 (by decide)])
  have r150 : Mr 150 = M 150 := (r2 150 (by decide) (by decide)).trans e150
  refine ⟨e150, RefK_fr hR.2.2.2.1 ((e 155 (by decide)).trans (k3 155 (by omega))) ((e 156 (by decide)).trans (k3 156 (by omega))), Mr, by rw [← r150, ← wV_id]; exact r1, r4 _ (fun k b => wV_ne (by unfold fr at b; omega)) (by rw [wV_ne (by decide)]) (by rw [wV_ne (by decide)]) (by rw [wV_ne (by decide)]) ?_ hz2 ?_⟩
  · exact Enc_of ⟨hs, hd, ho⟩ (Lk_same (fun k _ _ => by rw [wV_ne (by omega), r2 k (by omega) (by omega)]))
  · exact Col_same (fun k _ _ => by rw [wV_ne (by omega), r2 k (by omega) (by omega)]) hcol
theorem op_addRecording {M : xM} (hR : Rl M) (a1 a2 a3 a4 : Int32) : Op2 (fun m => f_X8_addRecording m a1 a2 a3 a4) (fun m => f_X9_addRecording m a1 a2 a3 a4) M := by
  have hv := Rl_vw hR
  have ho := v_ok hv
  have c3 := ok_c3 ho
  have c1 := ok_c1 ho
  have c4 := ok_c4 ho
  unfold Op2 f_X8_addRecording
  by_cases hx : xin a1 (nN (M 150) 1) = true
  case neg => exact ⟨-1, M, M, by simp only [has_car hv, xb_n, ifb0, if_neg hx], by simp only [f_X9_addRecording, one9_1 rfl ho, xb_n, ifb0, if_neg hx], hR⟩
  obtain ⟨c, hc, rfl⟩ := xin_ex hx (by omega)
  obtain ⟨l, hl, el⟩ := lyc ho hc
  obtain ⟨v, s8, s9, sv⟩ := side_e hl a2
  have g2 : f_X6_get 2 3 56 M (nI c) 2 = some (nI l) := (g_car_2 hv hc).trans (congrArg some el)
  have r9 : ∀ m : xM, m 150 = M 150 → f_X9_addRecording m (nI c) a2 a3 a4 = if v < 0 then some (-2, m) else if (0 ≤ a3 ∧ a3 < a4 ∧ a4 ≤ M 150 (24 + 5 * c + 3)) then (if nN (M 150) 3 = 16 then some (-4, m) else f_X9_addRecording_79 xFU m (nI c) a2 a3 a4 (24 + 5 * nI c) 0) else some (-2, m) := by
    intro m hm
    unfold f_X9_addRecording
    rw [one9_1 hm ho, xb_n, ifb0, if_pos hx, xl_n]
    rw [show xgd (xin ((24 : Int32) + 5 * nI c + 2) 916) = xgd true from congrArg xgd (by rw [im_5, ia_24, ir_2]; exact xin_n (by omega) (by omega)), show xgd (xin ((24 : Int32) + 5 * nI c + 3) 916) = xgd true from congrArg xgd (by rw [im_5, ia_24, ir_3]; exact xin_n (by omega) (by omega)), show xgd (xin 3 916) = xgd true from rfl, xgd_n, hm, show ((24 : Int32) + 5 * nI c + 2).toNatClampNeg = 24 + 5 * c + 2 by rw [im_5, ia_24, ir_2]; exact cl_n (by omega), show ((24 : Int32) + 5 * nI c + 3).toNatClampNeg = 24 + 5 * c + 3 by rw [im_5, ia_24, ir_3]; exact cl_n (by omega), el, s9, xb_n]
    by_cases w : v < 0
    · rw [if_pos w, if_pos w]
    · rw [if_neg w, if_neg w]
      by_cases q1 : a3 < 0
      · rw [if_pos q1, if_neg (fun z => absurd z.1 (Int32.not_le.mpr q1))]
      · rw [if_neg q1]
        by_cases q2 : a4 ≤ a3
        · rw [if_pos q2, if_neg (fun z => absurd z.2.1 (Int32.not_lt.mpr q2))]
        · rw [if_neg q2, xgd_n]
          by_cases q3 : a4 ≤ M 150 (24 + 5 * c + 3)
          · rw [if_pos q3, if_pos (show 0 ≤ a3 ∧ a3 < a4 ∧ a4 ≤ M 150 (24 + 5 * c + 3) from ⟨Int32.not_lt.mp q1, Int32.not_le.mp q2, q3⟩), ic_3, xl_n, xgd_n]
            by_cases q4 : nN (M 150) 3 = 16
            · rw [if_pos q4, if_pos (by rw [ok_n3 ho, q4]; rfl)]
            · rw [if_neg q4, if_neg (by rw [ok_n3 ho, li_16, eq_n (by omega) (by decide)]; exact q4)]
          · rw [if_neg q3, if_neg (fun z => q3 z.2.2)]
  by_cases w : v < 0
  case pos => exact ⟨-2, M, M, by simp only [has_car hv, xb_n, xl_n, ifb0, if_pos hx, g2, s8, if_pos w], (r9 M rfl).trans (by rw [if_pos w]), hR⟩
  by_cases p : 0 ≤ a3 ∧ a3 < a4 ∧ a4 ≤ M 150 (24 + 5 * c + 3)
  case neg => exact ⟨-2, M, M, by simp only [has_car hv, xb_n, xl_n, ifb0, if_pos hx, g2, s8, if_neg w, g_car_3 hv hc, str_e, if_neg p], (r9 M rfl).trans (by rw [if_neg w, if_neg p]), hR⟩
  have hfull := s_full_rec (St_0 hv hR.2.1) (ok_n3 ho) c3
  by_cases p5 : nN (M 150) 3 = 16
  case pos => exact ⟨-4, M, M, by simp only [has_car hv, xb_n, xl_n, ifb0, if_pos hx, g2, s8, if_neg w, g_car_3 hv hc, str_e, if_pos p, hfull, if_pos p5], (r9 M rfl).trans (by rw [if_neg w, if_pos p, if_pos p5]), hR⟩
  by_cases p6 : aN (tkP (M 150) (nI c) a2 a3 a4) (nN (M 150) 3) = true
  case pos =>
    have k9 := tk9 (M := M) rfl ho (nI c) a2 a3 a4 (24 + 5 * nI c) (nN (M 150) 3) 0 xFU (by omega) (by unfold xFU; omega) rfl
    exact ⟨-3, M, M, by simp only [has_car hv, xb_n, xl_n, ifb0, if_pos hx, g2, s8, if_neg w, g_car_3 hv hc, str_e, if_pos p, hfull, if_neg p5, tk8 hv, if_pos p6], (r9 M rfl).trans (by rw [if_neg w, if_pos p, if_neg p5]; exact k9.trans (if_pos p6)), hR⟩
  obtain ⟨k, hk16, hk0, ek⟩ := sv w
  obtain ⟨Mk, k1, hk1, hcont⟩ := do_op2 hR
  have h0 := St_0 hk1 hR.2.1
  generalize hn : nN (M 150) 3 = n at *
  have v3 : M 150 3 = nI n := by rw [← hn]; exact ok_n3 ho
  obtain ⟨M1, e1, h1, n1⟩ := sa_rec h0 v3 c3 p5
  obtain ⟨M2, e2, h2, n2⟩ := sx_rec h1 n1 (by omega) (r := n) (c := 0) 0 (nI c) (by omega) rfl (by decide)
  obtain ⟨M3, e3, h3, n3⟩ := sx_rec h2 n2 (by omega) (r := n) (c := 1) 1 a2 (by omega) rfl (by decide)
  obtain ⟨M4, e4, h4, n4⟩ := sx_rec h3 n3 (by omega) (r := n) (c := 2) 2 a3 (by omega) rfl (by decide)
  obtain ⟨M5, e5, h5, n5⟩ := sx_rec h4 n4 (by omega) (r := n) (c := 3) 3 a4 (by omega) rfl (by decide)
  generalize hV2 : upd (upd (upd (upd (upd (M 150) 3 (nI (n + 1))) (84 + 5 * n + 0) (nI c)) (84 + 5 * n + 1) a2) (84 + 5 * n + 2) a3) (84 + 5 * n + 3) a4 = V2 at *
  have eo : ∀ j, j ≠ 3 → (j < 84 + 5 * n ∨ 84 + 5 * n + 4 ≤ j) → V2 j = M 150 j := fun j g1 g2 => by rw [← hV2]; simp (disch := omega) only [upd_ne]
  have e6 := s_setk_rec h5 n5 (by omega) (r := n) (c := 4) 4 v (by omega) rfl (by decide)
  obtain ⟨M6, eM6⟩ : ∃ M6, M6 = xw M5 7 (n * 6 + 4) v := ⟨_, rfl⟩
  rw [← eM6] at e6
  have x1 : nN V2 1 = nN (M 150) 1 := by unfold nN; rw [eo 1 (by omega) (by omega)]
  have v21 : V2 1 = nI (nN (M 150) 1) := (eo 1 (by omega) (by omega)).trans (ok_n1 ho)
  have rc0 : M6 3 (c * 7 + 6) = nI (rcO (M 150) c) := by
    rw [eM6, xw_ne (by decide), h5.2.2.2.2.1 c 6 (by omega) (by decide) (by decide)]
    exact hk1.2.1.2.1.2.1 c (by omega)
  have rows6 : M6 2 2 = nI (nN (M 150) 1) := by rw [eM6, xw_ne (by decide)]; exact s_rows_car h5 v21
  have cols6 : M6 2 1 = nI 7 := by rw [eM6, xw_ne (by decide)]; exact h5.2.1.1
  have e7 : f_X6_add 2 3 56 M6 (nI c) 6 1 = some (xw M6 3 (c * 7 + 6) (nI (rcO (M 150) c + 1))) := by
    rw [T_addv (ct := 3) (n := 56) (c := 6) rows6 cols6 6 1 hc rfl (by decide) (by omega) (by decide) (by omega) (by decide), rc0, ir_1]
  obtain ⟨M7, eM7⟩ : ∃ M7, M7 = xw M6 3 (c * 7 + 6) (nI (rcO (M 150) c + 1)) := ⟨_, rfl⟩
  rw [← eM7] at e7
  have raw : EncRaw V2 M7 1 := by
    rw [eM7, eM6]
    exact rd_car (rd_rec h5.1 (by omega) v) (by omega) (by decide) _
  have col : EncCol M7 1 := by
    rw [eM7, eM6]
    exact ec_set (ec_set h5.2.1 (Or.inl (by decide))) (Or.inl (by decide))
  have fr7 : ∀ q, 18 ≤ q → M7 q = Mk q := fun q hq => by rw [eM7, eM6, xw_ne (by omega), xw_ne (by omega)]; exact h5.2.2.2.1 q hq
  have x3 : nN V2 3 = n + 1 := nN_of n5 (by omega)
  have x4 : nN V2 4 = nN (M 150) 4 := by unfold nN; rw [eo 4 (by omega) (by omega)]
  have hD := hk1.2.1.2.1
  have w0 : V2 (84 + 5 * n) = nI c := by rw [← hV2, show 84 + 5 * n = 84 + 5 * n + 0 from rfl]; simp (disch := omega) only [upd_ne, upd_eq]
  have wn : nN V2 (84 + 5 * n) = c := nN_of w0 (by omega)
  have der : EncDer V2 M7 1 := by
    refine ⟨fun r hr => ?_, fun r hr => ?_, fun r hr => ?_, fun r hr => ?_, fun q hq => ?_, fun q hq => ?_⟩
    · rw [eM7, eM6, xw_o (by omega), xw_ne (by decide), h5.2.2.2.2.1 r 5 hr (by decide) (by decide), hD.1 r hr]
      unfold psO
      rw [x4]
      exact congrArg nI (cN_congr (fun q hq => by rw [eo _ (by omega) (by omega)]))
    · have e0 : rcO V2 r = cN (fun q => decide (M 150 (84 + 5 * q) = nI r)) n + (if decide (nI c = nI r) = true then 1 else 0) := by
        unfold rcO
        rw [x3]
        show cN _ n + (if decide (V2 (84 + 5 * n) = nI r) = true then 1 else 0) = _
        rw [w0]
        congr 1
        exact cN_congr (fun q hq => by rw [eo _ (by omega) (by omega)])
      have e1 : rcO (M 150) r = cN (fun q => decide (M 150 (84 + 5 * q) = nI r)) n := by unfold rcO; rw [hn]
      rw [← e1] at e0
      by_cases hrc : r = c
      · subst hrc
        rw [eM7, xw_same, e0]
        simp
      · rw [eM7, eM6, xw_o (by omega), xw_ne (by decide), h5.2.2.2.2.1 r 6 hr (by decide) (by decide), hD.2.1 r hr, e0, if_neg (by simp; rw [eq_n (by omega) (by omega)]; omega)]
        rfl
    · rw [eM7, eM6, xw_ne (by decide), xw_ne (by decide), h5.2.2.2.2.2.1 r hr, hD.2.2.1 r hr]
      unfold pmO
      rw [x4]
      exact congrArg nI (cN_congr (fun q hq => by rw [eo _ (by omega) (by omega)]))
    · rw [x3] at hr
      by_cases hrn : r = n
      · subst hrn
        have ea : V2 (84 + 5 * r + 1) = a2 := by rw [← hV2]; simp (disch := omega) only [upd_ne, upd_eq]
        rw [eM7, xw_ne (by decide), eM6, xw_same, ea]
        unfold lyR
        rw [wn, eo _ (by omega) (by omega), el]
        exact ⟨s9, w⟩
      · have hq := ho.2.2.2.1 r (by omega)
        have lr : lyR V2 r = lyR (M 150) r := by
          unfold lyR
          have : nN V2 (84 + 5 * r) = nN (M 150) (84 + 5 * r) := by unfold nN; rw [eo _ (by omega) (by omega)]
          have k2 := hq.2.1
          rw [this, eo _ (by omega) (by omega)]
        rw [eM7, xw_ne (by decide), eM6, xw_o (by omega), h5.2.2.2.2.2.2.1 r (by omega), lr, eo _ (by omega) (by omega)]
        exact hD.2.2.2.1 r (by omega)
    · rw [x4] at hq
      rw [eM7, eM6, xw_ne (by decide), xw_ne (by decide), h5.2.2.2.2.2.2.2 q 5 (by omega) (by decide) (by decide), hD.2.2.2.2.1 q hq]
      unfold tkO
      rw [eo (420 + 9 * q + 5 + 0) (by omega) (by omega), eo (420 + 9 * q + 5 + 1) (by omega) (by omega), eo (420 + 9 * q + 5 + 2) (by omega) (by omega), eo (420 + 9 * q + 5 + 3) (by omega) (by omega)]
    · rw [x4] at hq
      have hP := (ho.2.2.2.2.2.2.1 q hq).2.1
      have lp : lyP V2 q = lyP (M 150) q := by
        unfold lyP
        have : nN V2 (420 + 9 * q) = nN (M 150) (420 + 9 * q) := by unfold nN; rw [eo _ (by omega) (by omega)]
        rw [this, eo _ (by omega) (by omega)]
      rw [eM7, eM6, xw_ne (by decide), xw_ne (by decide), h5.2.2.2.2.2.2.2 q 6 (by omega) (by decide) (by decide), hD.2.2.2.2.2 q hq]
      unfold bkO
      rw [lp, eo (420 + 9 * q + 3) (by omega) (by omega), eo (420 + 9 * q + 5 + 0) (by omega) (by omega), eo (420 + 9 * q + 5 + 1) (by omega) (by omega), eo (420 + 9 * q + 5 + 2) (by omega) (by omega), eo (420 + 9 * q + 5 + 3) (by omega) (by omega)]
  have hb4 : M 150 (84 + 5 * n + 4) = 0 := ho.2.2.2.2.1 n (by omega) (by omega)
  have ok2 : Ok V2 := by
    refine Ok_rc ho hn (by omega) eo n5 ?_
    have z4 : V2 (84 + 5 * n + 4) = nI 0 := (eo _ (by omega) (by omega)).trans hb4
    have l3 := (ho.2.1 c hc).2.2.2
    have q1 := Int32.le_iff_toInt_le.mp p.1
    have q2 := Int32.lt_iff_toInt_lt.mp p.2.1
    have q3 := Int32.le_iff_toInt_le.mp p.2.2
    have z0 : (0 : Int32).toInt = 0 := rfl
    have l3a := l3.2
    unfold OkR
    rw [wn, nN_of z4 (by decide), x1]
    refine ⟨w0, hc, ?_, ?_, ?_, z4, by decide⟩
    · rw [← hV2, ek]; simp (disch := omega) only [upd_ne, upd_eq]
      exact ⟨by rw [nI_toInt (by omega)]; omega, by rw [nI_toInt (by omega)]; omega⟩
    · rw [← hV2]; simp (disch := omega) only [upd_ne, upd_eq]; exact ⟨by omega, by omega⟩
    · rw [← hV2]; simp (disch := omega) only [upd_ne, upd_eq]; exact ⟨by omega, by omega⟩
  have z2 : Z916 V2 := h5.2.2.1
  obtain ⟨f1, f2, Mr, f3, f4⟩ := hcont V2 M7 raw col z2 fr7 der ok2
  refine ⟨nI n, M7, wV Mr V2, ?_, ?_, f4⟩
  · simp only [has_car hv, xb_n, xb2_n, xl_n, ifb0, if_pos hx, g2, s8, if_neg w, g_car_3 hv hc, str_e, if_pos p, hfull, if_neg p5, tk8 hv, hn, if_neg p6, k1, e1, e2, e3, e4, e5, e6, e7]
  · have k9 := tk9 (M := M7) f1 ho (nI c) a2 a3 a4 (24 + 5 * nI c) n 0 xFU (by omega) (by unfold xFU; omega) rfl
    rw [hn, if_neg p6] at k9
    refine (r9 M7 f1).trans ?_
    rw [if_neg w, if_pos p, if_neg p5]
    refine k9.trans ?_
    obtain ⟨g, hg⟩ : ∃ g, xFU - n = g + 1 := ⟨xFU - n - 1, by unfold xFU; omega⟩
    rw [hg, f_X9_addRecording_79, show xgd (xin 3 916) = xgd true from rfl, xgd_n, ic_3, f1, v3, if_pos (by rw [le_n (by omega) (by omega)]; exact Nat.le_refl _), f3, xb_n]
    simp (disch := omega) only [ite_true, IM, IA, IR, IC, IN, nI_add, pk_mul, xin_n, cl_n, xgd_n, ↓xl_n, xb_n, xb2_n, xw_wV, wV_150, v3, upd_ne, upd_eq, nI_pred]
    rw [← hV2, upd_id (k := 84 + 5 * n + 4) (x := 0) (by simp (disch := omega) only [upd_ne]; exact hb4)]
    simp (disch := omega) only [upd_out 3, Nat.add_zero]
