def capX (vol sp0 : Int32) (ps l h : Nat) (sp : Int32) (s t : Nat) : Int32 := if t < trN l then (if ((vol * nI (rdN h l t s)) * xmn sp sp0) / (nI (onN l t) * xmx sp sp0) - nI ps ≤ 0 then 0 else ((vol * nI (rdN h l t s)) * xmn sp sp0) / (nI (onN l t) * xmx sp sp0) - nI ps) else 0
theorem pos_ex {x : Int32} {n : Nat} (h : rg x 1 n) (hn : n < 100000) : ∃ k, 1 ≤ k ∧ k ≤ n ∧ x = nI k := by
  obtain ⟨k, hk, rfl⟩ := rg_ex (n := n) ⟨Int.le_trans (by decide) h.1, h.2⟩ (by omega)
  have := h.1
  rw [nI_toInt (by omega)] at this
  exact ⟨k, by omega, hk, rfl⟩
theorem pos_mul {x : Int32} {n : Nat} (h : rg x 1 380) (h1 : 1 ≤ n) (h4 : n ≤ 4) : 0 < nI n * x ∧ ¬ nI n * x = 0 := by
  obtain ⟨k, k1, k2, rfl⟩ := pos_ex (n := 380) h (by decide)
  have e1 : 1 ≤ n * k := Nat.mul_pos h1 k1
  have e2 : n * k ≤ 4 * 380 := Nat.mul_le_mul h4 k2
  rw [pk_mul]
  exact ⟨by rw [li_0, lt_n (by omega) (by omega)]; omega, by rw [li_0, eq_n (by omega) (by omega)]; omega⟩
theorem mx0 {d : Int32} : xmx 0 d = if d ≤ 0 then 0 else d := by
  unfold xmx
  by_cases q : 0 < d
  · rw [if_pos q, if_neg (Int32.not_le.mpr q)]
  · rw [if_neg q, if_pos (Int32.not_lt.mp q)]
theorem cap8 {M : xM} {c m l h ps s t : Nat} {sp0 vol sp : Int32} (g1 : f_X6_get 2 3 56 M (nI c) 1 = some sp0) (g2 : f_X6_get 2 3 56 M (nI c) 2 = some (nI l)) (g3 : f_X6_get 4 5 24 M (nI m) 2 = some (nI h)) (g4 : f_X6_get 4 5 24 M (nI m) 3 = some vol) (g5 : f_X6_get 2 3 56 M (nI c) 5 = some (nI ps)) (r0 : rg sp0 1 380) (r1 : rg sp 1 380) (hl : l ≤ 3) (hh : h ≤ 3) (hs : s < 2) (ht : t < 4) : f_X8_captureNow M (nI c) (nI m) sp (nI s) (nI t) = some (capX vol sp0 ps l h sp s t) := by
  unfold f_X8_captureNow capX
  rw [g1, xb_n, xl_n, g2, xb_n]
  have st := st_fin ⟨l, by omega⟩ ⟨t, ht⟩
  by_cases q : t < trN l
  · have e1 : f_X3_stripsOfTrack (nI l) (nI t) = some (stN l t) := (st.1 q).trans (st9_fin ⟨l, by omega⟩ ⟨t, ht⟩)
    obtain ⟨-, o2, o3, o4⟩ := on_fin ⟨l, by omega⟩ ⟨t, ht⟩ q
    have o2' : f_J6_bitCount_0f7a4 (stN l t) = some (nI (onN l t)) := o2
    have m2 : f_X3_mostRead (nI h) (nI s) (stN l t) = some (nI (rdN h l t s)) := (rd_fin ⟨h, by omega⟩ ⟨l, by omega⟩ ⟨t, ht⟩ ⟨s, hs⟩ q).2.1
    have pm := pos_mul (xmx_rg r1 r0) o3 o4
    have pm1 : 0 < nI (onN l t) * xmx sp sp0 := pm.1
    have pm2 : ¬ nI (onN l t) * xmx sp sp0 = 0 := pm.2
    rw [if_pos q, e1, xb_n, xl_n, g3, xb_n, m2, xb_n, xl_n, o2', xb_n, xl_n, if_pos pm1, g4, xb_n, if_neg pm2, xl_n, g5, xb_n, mx0]
  · have e1 : f_X3_stripsOfTrack (nI l) (nI t) = some 0 := st.2 q
    obtain ⟨v, m2⟩ := mr0_fin ⟨h, by omega⟩ ⟨s, hs⟩
    have m2' : f_X3_mostRead (nI h) (nI s) 0 = some v := m2
    have z : (0 : Int32) * xmx sp sp0 = 0 := Int32.zero_mul
    rw [if_neg q, e1, xb_n, xl_n, g3, xb_n, m2', xb_n, xl_n, bc0, xb_n, xl_n, z, if_neg (by decide)]
theorem plc_ex (k : Nat) (s : Int32) : plc k s = -1 ∨ ∃ j, j < 3 ∧ plc k s = nI j := by
  unfold plc
  split
  · exact Or.inr ⟨0, by decide, rfl⟩
  · split
    · exact Or.inr ⟨1, by decide, rfl⟩
    · split
      · exact Or.inr ⟨2, by decide, rfl⟩
      · exact Or.inl rfl
theorem cpl_e {V : Nat → Int32} (ho : Ok V) {m : Nat} (hm : m < nN V 2) (sp : Int32) : ∃ b : Bool, (∀ M, Vw V M → f_X8_canPlay M (nI m) sp = some (bI (b = true))) ∧ (∀ M, M 150 = V → RefK M → f_X9_hasSpeed M (nI m) sp = some (bI (b = true))) ∧ (b = true → rg sp 1 380) := by
  have c2 := ok_c2 ho
  have hM := ho.2.2.1 m hm
  obtain ⟨k, hk, ek⟩ := rg_ex (n := 2) hM.1 (by decide)
  obtain ⟨w, w1, w2, ew⟩ := pos_ex (n := 7) hM.2.1 (by decide)
  rcases plc_ex k sp with hp | ⟨j, hj, hp⟩
  · refine ⟨false, fun M h => ?_, fun M h hK => ?_, fun z => absurd z (by decide)⟩
    · unfold f_X8_canPlay
      rw [g_mac_0 h hm, xb_n, ek, ns_e (by omega), xb_n, xl_n, hp, if_pos (by decide)]
      rfl
    · unfold f_X9_hasSpeed
      rw [im_5, ia_64, xl_n, xin_n (by omega) (by omega), xgd_n, cl_n (by omega), h, ek, ps_e hK (by omega), xb_n, xl_n, hp, if_pos (by decide)]
      rfl
  · refine ⟨w.testBit j, fun M h => ?_, fun M h hK => ?_, fun _ => plc_rg (k := k) (by omega) (by rw [hp]; exact nI_pos (by omega))⟩
    · have b := bt8 ⟨w, by omega⟩ ⟨j, by omega⟩
      unfold f_X8_canPlay bI
      rw [g_mac_0 h hm, xb_n, ek, ns_e (by omega), xb_n, xl_n, hp, if_neg (nI_pos (by omega)), g_mac_1 h hm, xb_n, ew]
      simp only [b]
      by_cases q : w.testBit j = true
      · rw [if_neg (fun z => z q), if_pos q]
      · rw [if_pos q, if_neg q]
    · have b := bt9 ⟨w, by omega⟩ ⟨j, by omega⟩
      unfold f_X9_hasSpeed bI
      rw [im_5, ia_64, xl_n, ir_1, xin_n (by omega) (by omega), xgd_n, cl_n (by omega), h, ek, ps_e hK (by omega), xb_n, xl_n, hp, if_neg (nI_pos (by omega)), xin_n (by omega) (by omega), xgd_n, cl_n (by omega), ew]
      simp only [b]
      by_cases q : w.testBit j = true
      · rw [if_pos q, if_pos q]
      · rw [if_neg q, if_neg q]
def tmV (V : Nat → Int32) (c : Nat) (sp : Int32) : Int32 := (V (24 + 5 * c + 3) * V (24 + 5 * c + 1) + sp - 1) / sp
theorem sp_pos {sp : Int32} (h : rg sp 1 380) : 0 < sp ∧ ¬ sp = 0 := by
  obtain ⟨k, k1, k2, rfl⟩ := pos_ex (n := 380) h (by decide)
  exact ⟨by rw [li_0, lt_n (by omega) (by omega)]; omega, by rw [li_0, eq_n (by omega) (by omega)]; omega⟩
theorem tm8 {M : xM} {c : Nat} {sp0 ln sp : Int32} (g1 : f_X6_get 2 3 56 M (nI c) 1 = some sp0) (g3 : f_X6_get 2 3 56 M (nI c) 3 = some ln) (h : rg sp 1 380) : f_X8_secondsOfPass M (nI c) sp = some ((ln * sp0 + sp - 1) / sp) := by
  unfold f_X8_secondsOfPass
  rw [if_pos (sp_pos h).1, g3, xb_n, g1, xb_n, xl_n, if_neg (sp_pos h).2]
theorem tm9 {V : Nat → Int32} {M : xM} (e : M 150 = V) {c : Nat} (hc : c < 8) {sp : Int32} (h : rg sp 1 380) : f_X9_timeOf M (nI c) sp = some (tmV V c sp) := by
  unfold f_X9_timeOf tmV
  rw [im_5, ia_24, xl_n, ir_3, ir_1, xin_n (by omega) (by omega), xgd_n, xin_n (by omega) (by omega), xgd_n, cl_n (by omega), cl_n (by omega), e, if_neg (sp_pos h).2]
theorem sk8 {V : Nat → Int32} {M : xM} (h : Vw V M) {c m : Nat} (hc : c < nN V 1) (hm : m < nN V 2) : f_X8_isSameKind M (nI c) (nI m) = some (bI (V (24 + 5 * c) = V (64 + 5 * m))) := by
  unfold f_X8_isSameKind bI
  rw [g_car_0 h hc, xb_n, g_mac_0 h hm, xb_n]
  split <;> rfl
