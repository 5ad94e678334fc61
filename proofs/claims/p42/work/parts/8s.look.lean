/-! what the looks answer, of a state V -/
theorem l_car_0 {V : Rw} {M : xM} (hv : Vw V M) {r : Nat} (hr : r < nN V 1) : f_X8_carrier M (nI r) 0 = some (V (24 + 5 * r)) := by
  have c := ok_c1 (v_ok hv)
  unfold f_X8_carrier
  rw [look_ok (c := 7) (v_rows_car hv) (by omega) (xin_n hr (by omega)) (by decide) (g_car_0 hv hr), xb_n]
theorem l_car_1 {V : Rw} {M : xM} (hv : Vw V M) {r : Nat} (hr : r < nN V 1) : f_X8_carrier M (nI r) 1 = some (V (24 + 5 * r + 1)) := by
  have c := ok_c1 (v_ok hv)
  unfold f_X8_carrier
  rw [look_ok (c := 7) (v_rows_car hv) (by omega) (xin_n hr (by omega)) (by decide) (g_car_1 hv hr), xb_n]
theorem l_car_4 {V : Rw} {M : xM} (hv : Vw V M) {r : Nat} (hr : r < nN V 1) : f_X8_carrier M (nI r) 4 = some (V (24 + 5 * r + 4)) := by
  have c := ok_c1 (v_ok hv)
  unfold f_X8_carrier
  rw [look_ok (c := 7) (v_rows_car hv) (by omega) (xin_n hr (by omega)) (by decide) (g_car_4 hv hr), xb_n]
theorem l_car_5 {V : Rw} {M : xM} (hv : Vw V M) {r : Nat} (hr : r < nN V 1) : f_X8_carrier M (nI r) 5 = some (nI (psO V r)) := by
  have c := ok_c1 (v_ok hv)
  unfold f_X8_carrier
  rw [look_ok (c := 7) (v_rows_car hv) (by omega) (xin_n hr (by omega)) (by decide) (g_car_5 hv hr), xb_n]
theorem l_mac_0 {V : Rw} {M : xM} (hv : Vw V M) {r : Nat} (hr : r < nN V 2) : f_X8_machine M (nI r) 0 = some (V (64 + 5 * r)) := by
  have c := ok_c2 (v_ok hv)
  unfold f_X8_machine
  rw [look_ok (c := 6) (v_rows_mac hv) (by omega) (xin_n hr (by omega)) (by decide) (g_mac_0 hv hr), xb_n]
theorem l_mac_4 {V : Rw} {M : xM} (hv : Vw V M) {r : Nat} (hr : r < nN V 2) : f_X8_machine M (nI r) 4 = some (V (64 + 5 * r + 4)) := by
  have c := ok_c2 (v_ok hv)
  unfold f_X8_machine
  rw [look_ok (c := 6) (v_rows_mac hv) (by omega) (xin_n hr (by omega)) (by decide) (g_mac_4 hv hr), xb_n]
theorem l_mac_5 {V : Rw} {M : xM} (hv : Vw V M) {r : Nat} (hr : r < nN V 2) : f_X8_machine M (nI r) 5 = some (nI (pmO V r)) := by
  have c := ok_c2 (v_ok hv)
  unfold f_X8_machine
  rw [look_ok (c := 6) (v_rows_mac hv) (by omega) (xin_n hr (by omega)) (by decide) (g_mac_5 hv hr), xb_n]
theorem l_rec_0 {V : Rw} {M : xM} (hv : Vw V M) {r : Nat} (hr : r < nN V 3) : f_X8_recording M (nI r) 0 = some (V (84 + 5 * r)) := by
  have c := ok_c3 (v_ok hv)
  unfold f_X8_recording
  rw [look_ok (c := 6) (v_rows_rec hv) (by omega) (xin_n hr (by omega)) (by decide) (g_rec_0 hv hr), xb_n]
theorem l_rec_1 {V : Rw} {M : xM} (hv : Vw V M) {r : Nat} (hr : r < nN V 3) : f_X8_recording M (nI r) 1 = some (V (84 + 5 * r + 1)) := by
  have c := ok_c3 (v_ok hv)
  unfold f_X8_recording
  rw [look_ok (c := 6) (v_rows_rec hv) (by omega) (xin_n hr (by omega)) (by decide) (g_rec_1 hv hr), xb_n]
theorem l_pas_0 {V : Rw} {M : xM} (hv : Vw V M) {r : Nat} (hr : r < nN V 4) : f_X8_pass M (nI r) 0 = some (V (420 + 9 * r)) := by
  have c := ok_c4 (v_ok hv)
  unfold f_X8_pass
  rw [look_ok (c := 7) (v_rows_pas hv) (by omega) (xin_n hr (by omega)) (by decide) (g_pas_0 hv hr), xb_n]
theorem l_pas_1 {V : Rw} {M : xM} (hv : Vw V M) {r : Nat} (hr : r < nN V 4) : f_X8_pass M (nI r) 1 = some (V (420 + 9 * r + 1)) := by
  have c := ok_c4 (v_ok hv)
  unfold f_X8_pass
  rw [look_ok (c := 7) (v_rows_pas hv) (by omega) (xin_n hr (by omega)) (by decide) (g_pas_1 hv hr), xb_n]
theorem l_pas_2 {V : Rw} {M : xM} (hv : Vw V M) {r : Nat} (hr : r < nN V 4) : f_X8_pass M (nI r) 2 = some (V (420 + 9 * r + 2)) := by
  have c := ok_c4 (v_ok hv)
  unfold f_X8_pass
  rw [look_ok (c := 7) (v_rows_pas hv) (by omega) (xin_n hr (by omega)) (by decide) (g_pas_2 hv hr), xb_n]
theorem l_pas_4 {V : Rw} {M : xM} (hv : Vw V M) {r : Nat} (hr : r < nN V 4) : f_X8_pass M (nI r) 4 = some (V (420 + 9 * r + 4)) := by
  have c := ok_c4 (v_ok hv)
  unfold f_X8_pass
  rw [look_ok (c := 7) (v_rows_pas hv) (by omega) (xin_n hr (by omega)) (by decide) (g_pas_4 hv hr), xb_n]
theorem l_pas_5 {V : Rw} {M : xM} (hv : Vw V M) {r : Nat} (hr : r < nN V 4) : f_X8_pass M (nI r) 5 = some (tkO V r) := by
  have c := ok_c4 (v_ok hv)
  unfold f_X8_pass
  rw [look_ok (c := 7) (v_rows_pas hv) (by omega) (xin_n hr (by omega)) (by decide) (g_pas_5 hv hr), xb_n]
theorem l_pas_6 {V : Rw} {M : xM} (hv : Vw V M) {r : Nat} (hr : r < nN V 4) : f_X8_pass M (nI r) 6 = some (bkO V r) := by
  have c := ok_c4 (v_ok hv)
  unfold f_X8_pass
  rw [look_ok (c := 7) (v_rows_pas hv) (by omega) (xin_n hr (by omega)) (by decide) (g_pas_6 hv hr), xb_n]
theorem l_req_0 {V : Rw} {M : xM} (hv : Vw V M) {r : Nat} (hr : r < nN V 6) : f_X8_requested M (nI r) 0 = some (V (756 + 10 * r)) := by
  have c := ok_c6 (v_ok hv)
  unfold f_X8_requested
  rw [look_ok (c := 10) (v_rows_req hv) (by omega) (xin_n hr (by omega)) (by decide) (g_req_0 hv hr), xb_n]
theorem l_req_1 {V : Rw} {M : xM} (hv : Vw V M) {r : Nat} (hr : r < nN V 6) : f_X8_requested M (nI r) 1 = some (V (756 + 10 * r + 1)) := by
  have c := ok_c6 (v_ok hv)
  unfold f_X8_requested
  rw [look_ok (c := 10) (v_rows_req hv) (by omega) (xin_n hr (by omega)) (by decide) (g_req_1 hv hr), xb_n]
theorem l_req_2 {V : Rw} {M : xM} (hv : Vw V M) {r : Nat} (hr : r < nN V 6) : f_X8_requested M (nI r) 2 = some (V (756 + 10 * r + 2)) := by
  have c := ok_c6 (v_ok hv)
  unfold f_X8_requested
  rw [look_ok (c := 10) (v_rows_req hv) (by omega) (xin_n hr (by omega)) (by decide) (g_req_2 hv hr), xb_n]
theorem l_req_3 {V : Rw} {M : xM} (hv : Vw V M) {r : Nat} (hr : r < nN V 6) : f_X8_requested M (nI r) 3 = some (V (756 + 10 * r + 3)) := by
  have c := ok_c6 (v_ok hv)
  unfold f_X8_requested
  rw [look_ok (c := 10) (v_rows_req hv) (by omega) (xin_n hr (by omega)) (by decide) (g_req_3 hv hr), xb_n]
theorem l_req_4 {V : Rw} {M : xM} (hv : Vw V M) {r : Nat} (hr : r < nN V 6) : f_X8_requested M (nI r) 4 = some (V (756 + 10 * r + 4)) := by
  have c := ok_c6 (v_ok hv)
  unfold f_X8_requested
  rw [look_ok (c := 10) (v_rows_req hv) (by omega) (xin_n hr (by omega)) (by decide) (g_req_4 hv hr), xb_n]
theorem l_req_5 {V : Rw} {M : xM} (hv : Vw V M) {r : Nat} (hr : r < nN V 6) : f_X8_requested M (nI r) 5 = some (V (756 + 10 * r + 5)) := by
  have c := ok_c6 (v_ok hv)
  unfold f_X8_requested
  rw [look_ok (c := 10) (v_rows_req hv) (by omega) (xin_n hr (by omega)) (by decide) (g_req_5 hv hr), xb_n]
theorem l_req_6 {V : Rw} {M : xM} (hv : Vw V M) {r : Nat} (hr : r < nN V 6) : f_X8_requested M (nI r) 6 = some (V (756 + 10 * r + 6)) := by
  have c := ok_c6 (v_ok hv)
  unfold f_X8_requested
  rw [look_ok (c := 10) (v_rows_req hv) (by omega) (xin_n hr (by omega)) (by decide) (g_req_6 hv hr), xb_n]
theorem l_req_7 {V : Rw} {M : xM} (hv : Vw V M) {r : Nat} (hr : r < nN V 6) : f_X8_requested M (nI r) 7 = some (V (756 + 10 * r + 7)) := by
  have c := ok_c6 (v_ok hv)
  unfold f_X8_requested
  rw [look_ok (c := 10) (v_rows_req hv) (by omega) (xin_n hr (by omega)) (by decide) (g_req_7 hv hr), xb_n]
theorem l_req_8 {V : Rw} {M : xM} (hv : Vw V M) {r : Nat} (hr : r < nN V 6) : f_X8_requested M (nI r) 8 = some (V (756 + 10 * r + 8)) := by
  have c := ok_c6 (v_ok hv)
  unfold f_X8_requested
  rw [look_ok (c := 10) (v_rows_req hv) (by omega) (xin_n hr (by omega)) (by decide) (g_req_8 hv hr), xb_n]
theorem l_req_9 {V : Rw} {M : xM} (hv : Vw V M) {r : Nat} (hr : r < nN V 6) : f_X8_requested M (nI r) 9 = some (V (756 + 10 * r + 9)) := by
  have c := ok_c6 (v_ok hv)
  unfold f_X8_requested
  rw [look_ok (c := 10) (v_rows_req hv) (by omega) (xin_n hr (by omega)) (by decide) (g_req_9 hv hr), xb_n]
theorem t_0 {V : Rw} {M : xM} (hv : Vw V M) : f_X8_total M 0 = some (V 0) := by
  unfold f_X8_total
  rw [if_pos (by decide), v_today hv]
theorem t_1 {V : Rw} {M : xM} (hv : Vw V M) : f_X8_total M 1 = some (V 1) := by
  unfold f_X8_total
  rw [if_neg (by decide), if_pos (by decide), v_rows_car hv, ← ok_n1 (v_ok hv)]
theorem t_2 {V : Rw} {M : xM} (hv : Vw V M) : f_X8_total M 2 = some (V 2) := by
  unfold f_X8_total
  rw [if_neg (by decide), if_neg (by decide), if_pos (by decide), v_rows_mac hv, ← ok_n2 (v_ok hv)]
theorem t_3 {V : Rw} {M : xM} (hv : Vw V M) : f_X8_total M 3 = some (V 3) := by
  unfold f_X8_total
  rw [if_neg (by decide), if_neg (by decide), if_neg (by decide), if_pos (by decide), v_rows_rec hv, ← ok_n3 (v_ok hv)]
theorem t_4 {V : Rw} {M : xM} (hv : Vw V M) : f_X8_total M 4 = some (V 4) := by
  unfold f_X8_total
  rw [if_neg (by decide), if_neg (by decide), if_neg (by decide), if_neg (by decide), if_pos (by decide), v_rows_pas hv, ← ok_n4 (v_ok hv)]
theorem t_6 {V : Rw} {M : xM} (hv : Vw V M) : f_X8_total M 6 = some (V 6) := by
  unfold f_X8_total
  rw [if_neg (by decide), if_neg (by decide), if_neg (by decide), if_neg (by decide), if_neg (by decide), if_neg (by decide), if_pos (by decide), v_rows_req hv, ← ok_n6 (v_ok hv)]
theorem t_7 {V : Rw} {M : xM} (hv : Vw V M) (hz : Z916 V) : f_X8_total M 7 = some (nI (cN (fun r => decide (V (756 + 10 * r) = 0)) (nN V 6))) := by
  unfold f_X8_total
  rw [if_neg (by decide), if_neg (by decide), if_neg (by decide), if_neg (by decide), if_neg (by decide), if_neg (by decide), if_neg (by decide), if_pos (by decide), cnt_req hv hz, xb_n]
theorem t_8 {V : Rw} {M : xM} (hv : Vw V M) (hz : Z916 V) : f_X8_total M 8 = some (nI (cN (fun r => decide (V (756 + 10 * r) = 1)) (nN V 6))) := by
  unfold f_X8_total
  rw [if_neg (by decide), if_neg (by decide), if_neg (by decide), if_neg (by decide), if_neg (by decide), if_neg (by decide), if_neg (by decide), if_neg (by decide), if_pos (by decide), cnt_req hv hz, xb_n]
theorem t_9 {V : Rw} {M : xM} (hv : Vw V M) (hz : Z916 V) : f_X8_total M 9 = some (nI (cN (fun r => decide (V (756 + 10 * r) = 2)) (nN V 6))) := by
  unfold f_X8_total
  rw [if_neg (by decide), if_neg (by decide), if_neg (by decide), if_neg (by decide), if_neg (by decide), if_neg (by decide), if_neg (by decide), if_neg (by decide), if_neg (by decide), if_pos (by decide), cnt_req hv hz, xb_n]
theorem t_10 {V : Rw} {M : xM} (hv : Vw V M) (hz : Z916 V) : f_X8_total M 10 = some (nI (cN (fun r => decide (V (756 + 10 * r) = 3)) (nN V 6))) := by
  unfold f_X8_total
  rw [if_neg (by decide), if_neg (by decide), if_neg (by decide), if_neg (by decide), if_neg (by decide), if_neg (by decide), if_neg (by decide), if_neg (by decide), if_neg (by decide), if_neg (by decide), if_pos (by decide), cnt_req hv hz, xb_n]
theorem t_11 {V : Rw} {M : xM} (hv : Vw V M) : f_X8_total M 11 = some (V 7) := by
  unfold f_X8_total
  rw [if_neg (by decide), if_neg (by decide), if_neg (by decide), if_neg (by decide), if_neg (by decide), if_neg (by decide), if_neg (by decide), if_neg (by decide), if_neg (by decide), if_neg (by decide), if_neg (by decide), if_pos (by decide), v_reason hv]
theorem l_inc {V : Rw} {M : xM} (hv : Vw V M) {k : Nat} (hk : k < 8) : f_X8_income M (nI k) = some (V (8 + k)) := by
  unfold f_X8_income
  simp only [per_e, xb_n, ifb0, if_pos (show 0 ≤ nI k ∧ nI k ≤ 7 from ⟨nI_pos' (by omega), by show nI k ≤ nI 7; rw [le_n (by omega) (by omega)]; omega⟩), g_prs_0 hv hk]
theorem l_paid {V : Rw} {M : xM} (hv : Vw V M) {k : Nat} (hk : k < 8) : f_X8_paid M (nI k) = some (V (16 + k)) := by
  unfold f_X8_paid
  simp only [per_e, xb_n, ifb0, if_pos (show 0 ≤ nI k ∧ nI k ≤ 7 from ⟨nI_pos' (by omega), by show nI k ≤ nI 7; rw [le_n (by omega) (by omega)]; omega⟩), g_prs_1 hv hk]
theorem l_qual {V : Rw} {M : xM} (hv : Vw V M) {p r : Nat} (hp : p < nN V 4) (hr : r < nN V 3) : f_X8_quality M (nI p) (nI r) = some (qlV V p r) := by
  have c3 := ok_c3 (v_ok hv)
  have c4 := ok_c4 (v_ok hv)
  unfold f_X8_quality
  simp only [has_pas hv, has_rec hv, xb_n, ifb0, if_pos (xin_n hp (show p < 2147483648 by omega)), if_pos (xin_n hr (show r < 2147483648 by omega)), q8 hv hp hr]
theorem l_best {V : Rw} {M : xM} (hv : Vw V M) {r : Nat} (hr : r < nN V 3) : f_X8_bestPass M (nI r) = some (bpI V r (-6) (nN V 4)) := by
  have c3 := ok_c3 (v_ok hv)
  unfold f_X8_bestPass
  simp only [has_rec hv, xb_n, ifb0, if_pos (xin_n hr (show r < 2147483648 by omega)), b8 hv hr]
theorem l_cap {V : Rw} {M : xM} (hv : Vw V M) {p t : Nat} (hp : p < nN V 4) (ht : t < 4) : f_X8_captured M (nI p) (nI t) = some (if t < trN (nN V (24 + 5 * nN V (420 + 9 * p) + 2)) then V (420 + 9 * p + 5 + t) else -1) := by
  have ho := v_ok hv
  have c4 := ok_c4 ho
  have c1 := ok_c1 ho
  have hP := ho.2.2.2.2.2.2.1 p hp
  have e0 : V (420 + 9 * p) = nI (nN V (420 + 9 * p)) := hP.1
  have k0 := hP.2.1
  obtain ⟨l, hl, el⟩ := lyc ho k0
  have g0 : f_X6_get 10 11 264 M (nI p) 0 = some (nI (nN V (420 + 9 * p))) := (g_pas_0 hv hp).trans (congrArg some e0)
  have t4 : trN l ≤ 4 := trN_4 l
  have gt : f_X6_get 10 11 264 M (nI p) (7 + nI t) = some (V (420 + 9 * p + 5 + t)) := by
    rw [show (7 : Int32) = nI 7 from rfl, nI_add, getk_pas hv (7 + t) hp rfl (by omega), hv.2.1.1.2.2.2.2.2.2.1 p t (by omega) (by omega)]
  rw [nN_of el (by omega)]
  unfold f_X8_captured
  by_cases q : t < trN l
  · simp only [has_pas hv, xb_n, ifb0, if_pos (xin_n hp (show p < 2147483648 by omega)), g0, ht8 hv k0 hl el, if_pos (xin_n q (show t < 2147483648 by omega)), gt, if_pos q]
  · have nx : ¬ xin (nI t) (trN l) = true := fun z => by
      obtain ⟨r, h1, h2⟩ := xin_ex z (by omega)
      rw [eq_n (by omega) (by omega)] at h2
      omega
    simp only [has_pas hv, xb_n, ifb0, if_pos (xin_n hp (show p < 2147483648 by omega)), g0, ht8 hv k0 hl el, if_neg nx, if_neg q]
theorem l_dur {V : Rw} {M : xM} (hv : Vw V M) {c k : Nat} {sp : Int32} (hc : c < nN V 1) (hk : k < 3) (ek : V (24 + 5 * c) = nI k) (hp : ¬ plc k sp < 0) : f_X8_duration M (nI c) sp = some (tmV V c sp) := by
  have c1 := ok_c1 (v_ok hv)
  have g0 : f_X6_get 2 3 56 M (nI c) 0 = some (nI k) := (g_car_0 hv hc).trans (congrArg some ek)
  unfold f_X8_duration
  simp only [has_car hv, xb_n, ifb0, if_pos (xin_n hc (show c < 2147483648 by omega)), g0, ns_e hk sp, if_pos (Int32.not_lt.mp hp), tm8 (g_car_1 hv hc) (g_car_3 hv hc) (plc_rg hk hp)]
  rfl
theorem l_fee {V : Rw} {M : xM} (hv : Vw V M) {r : Nat} (hr : r < nN V 3) {a1 a3 a4 a5 : Int32} (p : exP V r a1 a3 a4 a5) : f_X8_fee M a1 (nI r) a3 a4 a5 = some (feV V a1 r a3 a4 a5 (nN V (84 + 5 * r + 4))) := by
  unfold f_X8_fee
  simp only [eoe8_ok hv hr p, xb_n, xl_n]
  rw [if_pos trivial, fe8 hv hr _ _ _ (rg_of p.2.2), xb_n]
theorem l_lack {V : Rw} {M : xM} (hv : Vw V M) {r : Nat} (hr : r < nN V 3) {a1 a3 a4 a5 : Int32} (p : exP V r a1 a3 a4 a5) : f_X8_lacking M a1 (nI r) a3 a4 a5 = some (lkV V a1 r a3 a4 a5 (nN V (84 + 5 * r + 4))) := by
  unfold f_X8_lacking
  simp only [eoe8_ok hv hr p, xb_n, xl_n]
  rw [if_pos trivial, lk8 hv hr, xb_n]
theorem l_next {V : Rw} {M : xM} (hv : Vw V M) {a : Int32} (h0 : 0 ≤ a) : ∃ v, f_X8_next M a = some v ∧ ((v = -6 ∧ ∀ j, j < nN V 6 → V (756 + 10 * j) = 0 → ¬ nI (cN (ahP V j) (nN V 6)) = a) ∨ ∃ j, j < nN V 6 ∧ V (756 + 10 * j) = 0 ∧ nI (cN (ahP V j) (nN V 6)) = a ∧ v = nI j) := by
  have ho := v_ok hv
  have c6 := ok_c6 ho
  unfold f_X8_next
  simp only [if_pos h0, xl_n]
  have key : ∀ (d i fu : Nat), i + d = nN V 6 → d < fu → ∃ v, f_X8_next_9 M fu a (nI i) = some v ∧ ((v = -6 ∧ ∀ j, i ≤ j → j < nN V 6 → V (756 + 10 * j) = 0 → ¬ nI (cN (ahP V j) (nN V 6)) = a) ∨ ∃ j, j < nN V 6 ∧ V (756 + 10 * j) = 0 ∧ nI (cN (ahP V j) (nN V 6)) = a ∧ v = nI j) := by
    intro d
    induction d with
    | zero =>
      intro i fu e1 e2
      obtain ⟨g, rfl⟩ : ∃ g, fu = g + 1 := ⟨fu - 1, by omega⟩
      refine ⟨-6, ?_, Or.inl ⟨rfl, fun j h1 h2 => by omega⟩⟩
      rw [f_X8_next_9, v_rows_req hv, if_pos (by rw [le_n (by omega) (by omega)]; omega)]
    | succ d ih =>
      intro i fu e1 e2
      obtain ⟨g, rfl⟩ : ∃ g, fu = g + 1 := ⟨fu - 1, by omega⟩
      obtain ⟨v, p1, p2⟩ := ih (i + 1) g (by omega) (by omega)
      have r8 : f_X8_next_9 M (g + 1) a (nI i) = if V (756 + 10 * i) = 0 then (if nI (cN (ahP V i) (nN V 6)) = a then some (nI i) else some v) else some v := by
        rw [f_X8_next_9, v_rows_req hv, if_neg (by rw [le_n (by omega) (by omega)]; omega), isOpen8 hv (by omega), xb_n, ah8 hv (by omega)]
        unfold f_X8_next_42
        rw [ifb0]
        simp only [xb_n, xl_n, show nI i + 1 = nI (i + 1) from nI_1 i, p1]
      rw [r8]
      by_cases q1 : V (756 + 10 * i) = 0
      · rw [if_pos q1]
        by_cases q2 : nI (cN (ahP V i) (nN V 6)) = a
        · rw [if_pos q2]; exact ⟨_, rfl, Or.inr ⟨i, by omega, q1, q2, rfl⟩⟩
        · rw [if_neg q2]
          refine ⟨v, rfl, ?_⟩
          rcases p2 with ⟨a1, a2⟩ | b
          · refine Or.inl ⟨a1, fun j h1 h2 h3 => ?_⟩
            by_cases e : j = i
            · rw [e]; exact q2
            · exact a2 j (by omega) h2 h3
          · exact Or.inr b
      · rw [if_neg q1]
        refine ⟨v, rfl, ?_⟩
        rcases p2 with ⟨a1, a2⟩ | b
        · refine Or.inl ⟨a1, fun j h1 h2 h3 => ?_⟩
          by_cases e : j = i
          · rw [e] at h3; exact absurd h3 q1
          · exact a2 j (by omega) h2 h3
        · exact Or.inr b
  obtain ⟨v, p1, p2⟩ := key (nN V 6) 0 xFU (by omega) (by unfold xFU; omega)
  refine ⟨v, p1, ?_⟩
  rcases p2 with ⟨a1, a2⟩ | b
  · exact Or.inl ⟨a1, fun j h => a2 j (by omega) h⟩
  · exact Or.inr b
