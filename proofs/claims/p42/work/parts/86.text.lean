theorem lyc {V : Nat → Int32} (ho : Ok V) {c : Nat} (hc : c < nN V 1) : ∃ l, l ≤ 3 ∧ V (24 + 5 * c + 2) = nI l := rg_ex (n := 3) (ho.2.1 c hc).2.2.1 (by decide)
theorem trN_4 (l : Nat) : trN l ≤ 4 := by
  unfold trN
  by_cases h : l = 0
  · rw [if_pos h]; decide
  · rw [if_neg h]
    by_cases h1 : l = 1
    · rw [if_pos h1]; decide
    · rw [if_neg h1]; decide
theorem ht8 {V : Nat → Int32} {M : xM} (h : Vw V M) {c l : Nat} (hc : c < nN V 1) (hl : l ≤ 3) (e : V (24 + 5 * c + 2) = nI l) (a : Int32) : f_X8_hasTrack M (nI c) a = some (bI (xin a (trN l) = true)) := by
  unfold f_X8_hasTrack
  have t4 : trN l < 100000 := Nat.lt_of_le_of_lt (trN_4 l) (by decide)
  rw [g_car_2 h hc, xb_n, e, (ct_fin ⟨l, by omega⟩).1, xb_n, wi_e, xb_n, xgd_t _ (bI_z _)]
  congr 2
  exact sub1 t4 a
theorem cnt_req {V : Nat → Int32} {M : xM} (h : Vw V M) (hz : Z916 V) (s : Int32) : f_X6_countOf 14 15 160 M 0 s = some (nI (cN (fun r => decide (V (756 + 10 * r) = s)) (nN V 6))) := by
  have c6 := ok_c6 (v_ok h)
  rw [s_cnt_req (St_0 h hz) (ok_n6 (v_ok h)) c6 (c := 0) 0 s rfl (by decide)]
  congr 2
  exact cN_congr (fun q hq => by rw [h.2.1.1.2.2.2.2.2.2.2.2.1 q 0 (by omega) (by decide), Nat.add_zero])
