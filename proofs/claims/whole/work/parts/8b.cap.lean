/-! captures -/
def capX (vol sp0 : Int32) (ps l h : Nat) (sp : Int32) (s t : Nat) : Int32 := if t < trN l then (if ((vol * nI (rdN h l t s)) * xmn sp sp0) / (nI (onN l t) * xmx sp sp0) - nI ps ≤ 0 then 0 else ((vol * nI (rdN h l t s)) * xmn sp sp0) / (nI (onN l t) * xmx sp sp0) - nI ps) else 0
theorem pos_ex {x : Int32} {n : Nat} (h : rg x 1 n) (hn : n < 100000) : ∃ k, 1 ≤ k ∧ k ≤ n ∧ x = nI k := by
  obtain ⟨k, hk, rfl⟩ := rg_ex (n := n) ⟨Int.le_trans (by decide) h.1, h.2⟩ (by omega)
  have := h.1
  rw [nI_toInt (by omega)] at this
  exact ⟨k, by omega, hk, rfl⟩
theorem pos_mul {x : Int32} {n : Nat} (h : rg x 1 380) (h1 : 1 ≤ n) (h4 : n ≤ 4) : 0 < nI n * x ∧ ¬ nI n * x = 0 := by
  obtain ⟨k, k1, k2, rfl⟩ := pos_ex (n := 380) h (by decide)
  have e1 : 1 ≤ n * k := Nat.mul_pos h1 k1
  have e2 : n * k ≤ 4 * 380 := Nat.mul_le_mul h4 k2
  rw [pk_mul]
  exact ⟨by rw [li_0, lt_n (by omega) (by omega)]; omega, by rw [li_0, eq_n (by omega) (by omega)]; omega⟩
theorem mx0 {d : Int32} : xmx 0 d = if d ≤ 0 then 0 else d := by
  unfold xmx
  by_cases q : 0 < d
  · rw [if_pos q, if_neg (Int32.not_le.mpr q)]
  · rw [if_neg q, if_pos (Int32.not_lt.mp q)]
theorem cap8 {M : xM} {c m l h ps s t : Nat} {sp0 vol sp : Int32} (g1 : f_X6_get 2 3 56 M (nI c) 1 = some sp0) (g2 : f_X6_get 2 3 56 M (nI c) 2 = some (nI l)) (g3 : f_X6_get 4 5 24 M (nI m) 2 = some (nI h)) (g4 : f_X6_get 4 5 24 M (nI m) 3 = some vol) (g5 : f_X6_get 2 3 56 M (nI c) 5 = some (nI ps)) (r0 : rg sp0 1 380) (r1 : rg sp 1 380) (hl : l ≤ 3) (hh : h ≤ 3) (hs : s < 2) (ht : t < 4) : f_X8_captureNow M (nI c) (nI m) sp (nI s) (nI t) = some (capX vol sp0 ps l h sp s t) := by
  unfold f_X8_captureNow capX
  rw [g1, xb_n, xl_n, g2, xb_n]
  have st := st_fin ⟨l, by omega⟩ ⟨t, ht⟩
  by_cases q : t < trN l
  · have e1 : f_X3_stripsOfTrack (nI l) (nI t) = some (stN l t) := (st.1 q).trans (st9_fin ⟨l, by omega⟩ ⟨t, ht⟩)
    obtain ⟨-, o2, o3, o4⟩ := on_fin ⟨l, by omega⟩ ⟨t, ht⟩ q
    have o2' : f_J6_bitCount_0f7a4 (stN l t) = some (nI (onN l t)) := o2
    have m2 : f_X3_mostRead (nI h) (nI s) (stN l t) = some (nI (rdN h l t s)) := (rd_fin ⟨h, by omega⟩ ⟨l, by omega⟩ ⟨t, ht⟩ ⟨s, hs⟩ q).2.1
    have pm := pos_mul (xmx_rg r1 r0) o3 o4
    have pm1 : 0 < nI (onN l t) * xmx sp sp0 := pm.1
    have pm2 : ¬ nI (onN l t) * xmx sp sp0 = 0 := pm.2
    rw [if_pos q, e1, xb_n, xl_n, g3, xb_n, m2, xb_n, xl_n, o2', xb_n, xl_n, if_pos pm1, g4, xb_n, if_neg pm2, xl_n, g5, xb_n, mx0]
  · have e1 : f_X3_stripsOfTrack (nI l) (nI t) = some 0 := st.2 q
    obtain ⟨v, m2⟩ := mr0_fin ⟨h, by omega⟩ ⟨s, hs⟩
    have m2' : f_X3_mostRead (nI h) (nI s) 0 = some v := m2
    have z : (0 : Int32) * xmx sp sp0 = 0 := Int32.zero_mul
    rw [if_neg q, e1, xb_n, xl_n, g3, xb_n, m2', xb_n, xl_n, bc0, xb_n, xl_n, z, if_neg (by decide)]
theorem xmn_ge {x y : Int32} : xmn x y = if y ≤ x then y else x := by
  rw [xmn_le]
  by_cases h : x ≤ y
  · by_cases h2 : y ≤ x
    · rw [if_pos h, if_pos h2]; exact Int32.le_antisymm h h2
    · rw [if_pos h, if_neg h2]
  · rw [if_neg h, if_pos (Int32.le_of_lt (Int32.not_le.mp h))]
theorem add_sub_l (a b : Int32) : a + b - b = a := by rw [Int32.add_sub_cancel]
theorem add_sub_r (a b : Int32) : a + b - a = b := by rw [Int32.add_comm, Int32.add_sub_cancel]
theorem cap9 {V : Nat → Int32} {M : xM} (e : M 150 = V) (ho : Ok V) {c m l h s t : Nat} {sp : Int32} (hc : c < nN V 1) (hm : m < nN V 2) (el : V (24 + 5 * c + 2) = nI l) (eh : V (64 + 5 * m + 2) = nI h) (r1 : rg sp 1 380) (hl : l ≤ 3) (hh : h ≤ 3) (hs : s < 2) (ht : t < trN l) : f_X9_captureOf M (nI c) (nI m) sp (nI s) (nI t) = some (capX (V (64 + 5 * m + 3)) (V (24 + 5 * c + 1)) (psO V c) l h sp s t) := by
  have c1 := ok_c1 ho
  have c2 := ok_c2 ho
  have t4 := trN_4 l
  have r0 := (ho.2.1 c hc).2.1
  obtain ⟨o1, -, o3, o4⟩ := on_fin ⟨l, by omega⟩ ⟨t, by omega⟩ ht
  have o1' : f_X9_ones (stN l t) = some (nI (onN l t)) := o1
  have s1 : f_X9_stripsOf (nI l) (nI t) = some (stN l t) := st9_fin ⟨l, by omega⟩ ⟨t, by omega⟩
  have m1 : f_X9_readBy (nI h) (nI l) (nI t) (nI s) = some (nI (rdN h l t s)) := (rd_fin ⟨h, by omega⟩ ⟨l, by omega⟩ ⟨t, by omega⟩ ⟨s, hs⟩ ht).1
  have pm2 : ¬ nI (onN l t) * xmx sp (V (24 + 5 * c + 1)) = 0 := (pos_mul (xmx_rg r1 r0) o3 o4).2
  have key : ∀ x, x = xmn sp (V (24 + 5 * c + 1)) → sp + V (24 + 5 * c + 1) - x = xmx sp (V (24 + 5 * c + 1)) → f_X9_captureOf_42 M (nI c) (nI m) sp (nI s) (nI t) (nI (24 + 5 * c)) (nI (64 + 5 * m)) x = some (capX (V (64 + 5 * m + 3)) (V (24 + 5 * c + 1)) (psO V c) l h sp s t) := by
    intro x hx hx2
    unfold f_X9_captureOf_42 capX
    simp (disch := omega) only [ite_true, IM, IA, IR, IC, IN, nI_add, pk_mul, xin_n, cl_n, xgd_n, ↓xl_n, xb_n, xb2_n, xw_wV, wV_150, e, el, eh, m1, s1, o1', hx2]
    rw [if_neg pm2, ps9 e ho, xb_n, if_pos ht, hx]
    split <;> rfl
  unfold f_X9_captureOf
  rw [im_5, ia_24, xl_n, im_5, ia_64, xl_n, ir_1, xin_n (by omega) (by omega), xgd_n, cl_n (by omega), e, xgd_n]
  by_cases q : V (24 + 5 * c + 1) ≤ sp
  · rw [if_pos q]
    refine key _ (by rw [xmn_ge, if_pos q]) ?_
    rw [add_sub_l, xmx_le, if_pos q]
  · rw [if_neg q]
    refine key _ (by rw [xmn_ge, if_neg q]) ?_
    rw [add_sub_r, xmx_le, if_neg q]
theorem plc_ex (k : Nat) (s : Int32) : plc k s = -1 ∨ ∃ j, j < 3 ∧ plc k s = nI j := by
  unfold plc
  split
  · exact Or.inr ⟨0, by decide, rfl⟩
  · split
    · exact Or.inr ⟨1, by decide, rfl⟩
    · split
      · exact Or.inr ⟨2, by decide, rfl⟩
      · exact Or.inl rfl
theorem cpl_e {V : Nat → Int32} (ho : Ok V) {m : Nat} (hm : m < nN V 2) (sp : Int32) : ∃ b : Bool, (∀ M, Vw V M → f_X8_canPlay M (nI m) sp = some (bI (b = true))) ∧ (∀ M, M 150 = V → RefK M → f_X9_hasSpeed M (nI m) sp = some (bI (b = true))) ∧ (b = true → rg sp 1 380) := by
  have c2 := ok_c2 ho
  have hM := ho.2.2.1 m hm
  obtain ⟨k, hk, ek⟩ := rg_ex (n := 2) hM.1 (by decide)
  obtain ⟨w, w1, w2, ew⟩ := pos_ex (n := 7) hM.2.1 (by decide)
  rcases plc_ex k sp with hp | ⟨j, hj, hp⟩
  · refine ⟨false, fun M h => ?_, fun M h hK => ?_, fun z => absurd z (by decide)⟩
    · unfold f_X8_canPlay
      rw [g_mac_0 h hm, xb_n, ek, ns_e (by omega), xb_n, xl_n, hp, if_pos (by decide)]
      rfl
    · unfold f_X9_hasSpeed
      rw [im_5, ia_64, xl_n, xin_n (by omega) (by omega), xgd_n, cl_n (by omega), h, ek, ps_e hK (by omega), xb_n, xl_n, hp, if_pos (by decide)]
      rfl
  · refine ⟨w.testBit j, fun M h => ?_, fun M h hK => ?_, fun _ => plc_rg (k := k) (by omega) (by rw [hp]; exact nI_pos (by omega))⟩
    · have b := bt8 ⟨w, by omega⟩ ⟨j, by omega⟩
      unfold f_X8_canPlay bI
      rw [g_mac_0 h hm, xb_n, ek, ns_e (by omega), xb_n, xl_n, hp, if_neg (nI_pos (by omega)), g_mac_1 h hm, xb_n, ew]
      simp only [b]
      by_cases q : w.testBit j = true
      · rw [if_neg (fun z => z q), if_pos q]
      · rw [if_pos q, if_neg q]
    · have b := bt9 ⟨w, by omega⟩ ⟨j, by omega⟩
      unfold f_X9_hasSpeed bI
      rw [im_5, ia_64, xl_n, ir_1, xin_n (by omega) (by omega), xgd_n, cl_n (by omega), h, ek, ps_e hK (by omega), xb_n, xl_n, hp, if_neg (nI_pos (by omega)), xin_n (by omega) (by omega), xgd_n, cl_n (by omega), ew]
      simp only [b]
      by_cases q : w.testBit j = true
      · rw [if_pos q, if_pos q]
      · rw [if_neg q, if_neg q]
def tmV (V : Nat → Int32) (c : Nat) (sp : Int32) : Int32 := (V (24 + 5 * c + 3) * V (24 + 5 * c + 1) + sp - 1) / sp
theorem sp_pos {sp : Int32} (h : rg sp 1 380) : 0 < sp ∧ ¬ sp = 0 := by
  obtain ⟨k, k1, k2, rfl⟩ := pos_ex (n := 380) h (by decide)
  exact ⟨by rw [li_0, lt_n (by omega) (by omega)]; omega, by rw [li_0, eq_n (by omega) (by omega)]; omega⟩
theorem tm8 {M : xM} {c : Nat} {sp0 ln sp : Int32} (g1 : f_X6_get 2 3 56 M (nI c) 1 = some sp0) (g3 : f_X6_get 2 3 56 M (nI c) 3 = some ln) (h : rg sp 1 380) : f_X8_secondsOfPass M (nI c) sp = some ((ln * sp0 + sp - 1) / sp) := by
  unfold f_X8_secondsOfPass
  rw [if_pos (sp_pos h).1, g3, xb_n, g1, xb_n, xl_n, if_neg (sp_pos h).2]
theorem tm9 {V : Nat → Int32} {M : xM} (e : M 150 = V) {c : Nat} (hc : c < 8) {sp : Int32} (h : rg sp 1 380) : f_X9_timeOf M (nI c) sp = some (tmV V c sp) := by
  unfold f_X9_timeOf tmV
  rw [im_5, ia_24, xl_n, ir_3, ir_1, xin_n (by omega) (by omega), xgd_n, xin_n (by omega) (by omega), xgd_n, cl_n (by omega), cl_n (by omega), e, if_neg (sp_pos h).2]
theorem op_duration {M : xM} (hR : Rl M) (a b : Int32) : Op1 (fun m => f_X8_duration m a b) (fun m => f_X9_duration m a b) M := by
  have hv := Rl_vw hR
  have ho := v_ok hv
  have hK := hR.2.2.2.1
  have c1 := ok_c1 ho
  unfold Op1 f_X8_duration
  by_cases hx : xin a (nN (M 150) 1) = true
  case neg => exact ⟨-1, by simp only [has_car hv, xb_n, ifb0, if_neg hx], by simp only [f_X9_duration, one9_1 rfl ho, xb_n, ifb0, if_neg hx]⟩
  obtain ⟨c, hc, rfl⟩ := xin_ex hx (by omega)
  obtain ⟨k, hk, ek⟩ := rg_ex (n := 2) (ho.2.1 c hc).1 (by decide)
  have g0 : f_X6_get 2 3 56 M (nI c) 0 = some (nI k) := (g_car_0 hv hc).trans (congrArg some ek)
  have ns := ns_e (show k < 3 by omega) b
  have ps := ps_e hK (show k < 3 by omega) b
  by_cases q : 0 ≤ plc k b
  · have hb : rg b 1 380 := plc_rg (k := k) (by omega) (Int32.not_lt.mpr q)
    refine ⟨tmV (M 150) c b, ?_, ?_⟩
    · simp only [has_car hv, xb_n, ifb0, if_pos hx, g0, ns, if_pos q, tm8 (g_car_1 hv hc) (g_car_3 hv hc) hb]
      rfl
    · show f_X9_duration M (nI c) b = _
      unfold f_X9_duration
      rw [one9_1 rfl ho, xb_n, ifb0, if_pos hx, im_5, ia_24, xin_n (by omega) (by omega), xgd_n, cl_n (by omega), ek, ps, xb_n, if_pos q, tm9 rfl (by omega) hb, xb_n]
  · refine ⟨-2, by simp only [has_car hv, xb_n, ifb0, if_pos hx, g0, ns, if_neg q], ?_⟩
    show f_X9_duration M (nI c) b = _
    unfold f_X9_duration
    rw [one9_1 rfl ho, xb_n, ifb0, if_pos hx, im_5, ia_24, xin_n (by omega) (by omega), xgd_n, cl_n (by omega), ek, ps, xb_n, if_neg q]
theorem sk8 {V : Nat → Int32} {M : xM} (h : Vw V M) {c m : Nat} (hc : c < nN V 1) (hm : m < nN V 2) : f_X8_isSameKind M (nI c) (nI m) = some (bI (V (24 + 5 * c) = V (64 + 5 * m))) := by
  unfold f_X8_isSameKind bI
  rw [g_car_0 h hc, xb_n, g_mac_0 h hm, xb_n]
  split <;> rfl
theorem err9 {V : Nat → Int32} {M : xM} (h : M 150 = V) (ho : Ok V) {c m : Nat} (hc : c < nN V 1) (hm : m < nN V 2) {sp : Int32} {b : Bool} (hb : f_X9_hasSpeed M (nI m) sp = some (bI (b = true))) (sd : Int32) : f_X9_errorOf M (nI c) (nI m) sp sd = some (if b = true ∧ (0 ≤ sd ∧ sd ≤ 1) then 0 else -2) := by
  have c1 := ok_c1 ho
  have c2 := ok_c2 ho
  unfold f_X9_errorOf
  rw [one9_1 h ho, xb_n, ifb0, if_pos (xin_n hc (by omega)), one9_2 h ho, xb_n, ifb0, if_pos (xin_n hm (by omega)), hb, xb_n, ifb0, in_e, wi_e, xb_n, ifb0]
  by_cases q : b = true
  · rw [if_pos q]
    by_cases q2 : 0 ≤ sd ∧ sd ≤ 1
    · rw [if_pos q2, if_pos ⟨q, q2⟩]
    · rw [if_neg q2, if_neg (fun z => q2 z.2)]
  · rw [if_neg q, if_neg (fun z => q z.1)]
theorem op_heard {M : xM} (hR : Rl M) (a1 a2 a3 a4 a5 : Int32) : Op1 (fun m => f_X8_heard m a1 a2 a3 a4 a5) (fun m => f_X9_heard m a1 a2 a3 a4 a5) M := by
  have hv := Rl_vw hR
  have ho := v_ok hv
  have hK := hR.2.2.2.1
  have c1 := ok_c1 ho
  have c2 := ok_c2 ho
  unfold Op1 f_X8_heard
  by_cases hx : xin a1 (nN (M 150) 1) = true
  case neg => exact ⟨-1, by simp only [has_car hv, xb_n, ifb0, if_neg hx], by simp only [f_X9_heard, one9_1 rfl ho, xb_n, ifb0, if_neg hx]⟩
  by_cases hy : xin a2 (nN (M 150) 2) = true
  case neg => exact ⟨-1, by simp only [has_car hv, has_mac hv, xb_n, ifb0, if_pos hx, if_neg hy], by simp only [f_X9_heard, one9_1 rfl ho, one9_2 rfl ho, xb_n, ifb0, if_pos hx, if_neg hy]⟩
  obtain ⟨c, hc, rfl⟩ := xin_ex hx (by omega)
  obtain ⟨m, hm, rfl⟩ := xin_ex hy (by omega)
  obtain ⟨l, hl, el⟩ := lyc ho hc
  obtain ⟨h, hh, eh⟩ := rg_ex (n := 3) (ho.2.2.1 m hm).2.2.1 (by decide)
  have t4 := trN_4 l
  have ct : f_X9_tracksOf (nI l) = some (nI (trN l)) := (ct_fin ⟨l, by omega⟩).2
  obtain ⟨b, b8, b9, br⟩ := cpl_e ho hm a3
  have e9 := err9 (M := M) rfl ho hc hm (b9 M rfl hK) a4
  have r9 : f_X9_heard M (nI c) (nI m) a3 a4 a5 = if xin a5 (trN l) = true then (if b = true ∧ (0 ≤ a4 ∧ a4 ≤ 1) then (if M 150 (24 + 5 * c) = M 150 (64 + 5 * m) then f_X9_captureOf M (nI c) (nI m) a3 a4 a5 else some (-3)) else some (-2)) else some (-1) := by
    unfold f_X9_heard
    rw [one9_1 rfl ho, xb_n, ifb0, if_pos hx, one9_2 rfl ho, xb_n, ifb0, if_pos hy, im_5, ia_24, ir_2, xin_n (show 24 + 5 * c + 2 < 916 by omega) (by omega), xgd_n, cl_n (show 24 + 5 * c + 2 < 2147483648 by omega), el, ct, xb_n, in_e, wi_e, xb_n, ifb0, e9, xb_n]
    by_cases q : xin a5 (trN l) = true
    · rw [if_pos q, if_pos (by rw [sub1 (by omega)]; exact q)]
      by_cases q2 : b = true ∧ (0 ≤ a4 ∧ a4 ≤ 1)
      · rw [if_pos q2, if_pos q2, if_pos (by decide), im_5, ia_64, xin_n (by omega) (by omega), xgd_n, xin_n (by omega) (by omega), xgd_n, cl_n (by omega), cl_n (by omega)]
        by_cases q3 : M 150 (24 + 5 * c) = M 150 (64 + 5 * m)
        · rw [if_pos q3, if_pos q3]
          cases f_X9_captureOf M (nI c) (nI m) a3 a4 a5 <;> rfl
        · rw [if_neg q3, if_neg q3]
      · rw [if_neg q2, if_neg q2, if_neg (by decide)]
    · rw [if_neg q, if_neg (by rw [sub1 (by omega)]; exact q)]
  by_cases q : xin a5 (trN l) = true
  case neg => exact ⟨-1, by simp only [has_car hv, has_mac hv, xb_n, ifb0, if_pos hx, if_pos hy, ht8 hv hc hl el, if_neg q], r9.trans (by rw [if_neg q])⟩
  by_cases qb : b = true
  case neg => exact ⟨-2, by simp only [has_car hv, has_mac hv, xb_n, ifb0, if_pos hx, if_pos hy, ht8 hv hc hl el, if_pos q, b8 M hv, if_neg qb], r9.trans (by rw [if_pos q, if_neg (fun z => qb z.1)])⟩
  by_cases qs : 0 ≤ a4 ∧ a4 ≤ 1
  case neg => exact ⟨-2, by simp only [has_car hv, has_mac hv, xb_n, ifb0, if_pos hx, if_pos hy, ht8 hv hc hl el, if_pos q, b8 M hv, if_pos qb, sid_e, if_neg qs], r9.trans (by rw [if_pos q, if_neg (fun z => qs z.2)])⟩
  by_cases qk : M 150 (24 + 5 * c) = M 150 (64 + 5 * m)
  case neg => exact ⟨-3, by simp only [has_car hv, has_mac hv, xb_n, ifb0, if_pos hx, if_pos hy, ht8 hv hc hl el, if_pos q, b8 M hv, if_pos qb, sid_e, if_pos qs, sk8 hv hc hm, if_neg qk], r9.trans (by rw [if_pos q, if_pos ⟨qb, qs⟩, if_neg qk])⟩
  obtain ⟨s, hs, rfl⟩ := nI_ex (n := 1) (by decide) qs
  obtain ⟨t, ht, rfl⟩ := xin_ex q (by omega)
  have rs := br qb
  have r0 := (ho.2.1 c hc).2.1
  have k8 := cap8 (M := M) (g_car_1 hv hc) ((g_car_2 hv hc).trans (congrArg some el)) ((g_mac_2 hv hm).trans (congrArg some eh)) (g_mac_3 hv hm) (g_car_5 hv hc) r0 rs hl hh (show s < 2 by omega) (show t < 4 by omega)
  have k9 := cap9 (M := M) rfl ho hc hm el eh rs hl hh (show s < 2 by omega) ht
  exact ⟨capX (M 150 (64 + 5 * m + 3)) (M 150 (24 + 5 * c + 1)) (psO (M 150) c) l h a3 s t, by simp only [has_car hv, has_mac hv, xb_n, ifb0, if_pos hx, if_pos hy, ht8 hv hc hl el, if_pos q, b8 M hv, if_pos qb, sid_e, if_pos qs, sk8 hv hc hm, if_pos qk, k8], r9.trans (by rw [if_pos q, if_pos ⟨qb, qs⟩, if_pos qk, k9])⟩
