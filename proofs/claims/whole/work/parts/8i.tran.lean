theorem Ok_rsn {V : Nat → Int32} (h : Ok V) (v : Int32) : Ok (upd V 7 v) := by
  have c5 := ok_c5 h
  have c6 := ok_c6 h
  have n : ∀ k, k ≠ 7 → nN (upd V 7 v) k = nN V k := fun k hk => by unfold nN; rw [upd_ne hk]
  have n5 := n 5 (by decide)
  have n6 := n 6 (by decide)
  have n3 := n 3 (by decide)
  exact Ok_hi h (fun j _ _ _ g _ => upd_ne g) (by rw [n5, upd_ne (by decide)]; exact ok_n5 h) (by omega) (by rw [n6, upd_ne (by decide)]; exact ok_n6 h) (by omega) (fun q g => by rw [upd_ne (by omega)]; exact h.2.2.2.2.2.2.2.1 q (by omega)) (fun q g1 g2 => by rw [upd_ne (by omega)]; exact h.2.2.2.2.2.2.2.2.1 q (by omega) g2) (fun q g => OkQ_c (h.2.2.2.2.2.2.2.2.2.1 q (by omega)) (by omega) (fun c _ => upd_ne (by omega))) (fun q g1 g2 => by rw [upd_ne (by omega)]; exact h.2.2.2.2.2.2.2.2.2.2 q (by omega) g2)
theorem rsn8 {V : Nat → Int32} {M : xM} (hM : Vw V M) (hz : Z916 V) (v : Int32) : Vw (upd V 7 v) (xw M 1 9 v) ∧ ∀ k, 18 ≤ k → xw M 1 9 v k = M k := by
  have ev : ∀ j, j ≠ 7 → upd V 7 v j = V j := fun j hj => upd_ne hj
  have w1 := w_rsn (St_0 hM hz) v
  exact St_end w1 (St_der w1 hM (ev _ (by decide)) (ev _ (by decide)) (fun j _ _ => ev j (by omega)) (fun r _ => ⟨ev _ (by omega), ev _ (by omega)⟩) (fun r _ => ev _ (by omega))) (Ok_rsn (v_ok hM) v)
theorem plays_no {V : Nat → Int32} {M : xM} (e : M 150 = V) (ho : Ok V) {a1 a2 : Int32} (hx : ¬ (xin a1 (nN V 1) = true ∧ xin a2 (nN V 2) = true)) (a3 a4 a5 : Int32) : f_X9_plays M a1 a2 a3 a4 a5 = some (-1, M) := by
  unfold f_X9_plays f_X9_errorOf
  rw [one9_1 e ho, xb_n, ifb0, one9_2 e ho, xb_n, ifb0]
  by_cases q : xin a1 (nN V 1) = true
  · rw [if_pos q, if_neg (fun z => hx ⟨q, z⟩), xb_n, xl_n, if_neg (by decide)]
  · rw [if_neg q, xb_n, xl_n, if_neg (by decide)]
theorem plays_e {V : Nat → Int32} {M : xM} (e : M 150 = V) (ho : Ok V) {c m : Nat} (hc : c < nN V 1) (hm : m < nN V 2) {sp : Int32} {b : Bool} (hb : f_X9_hasSpeed M (nI m) sp = some (bI (b = true))) (sd f : Int32) : f_X9_plays M (nI c) (nI m) sp sd f = if b = true ∧ (0 ≤ sd ∧ sd ≤ 1) then (xb2 (f_X9_reasonAgainst M (nI c) (nI m) sp sd) fun v23 M24 => if v23 ≤ 0 then (if f = 0 then f_X9_plays_56 M24 (nI c) (nI m) sp sd f 0 v23 else xb (f_X9_record M24) fun M26 => f_X9_plays_56 M26 (nI c) (nI m) sp sd f 0 v23) else some (-5, xw M24 150 7 v23)) else some (-2, M) := by
  unfold f_X9_plays
  rw [err9 e ho hc hm hb, xb_n, xl_n]
  by_cases q : b = true ∧ (0 ≤ sd ∧ sd ≤ 1)
  · rw [if_pos q, if_pos q, if_pos (by decide)]
    rfl
  · rw [if_neg q, if_neg q, if_neg (by decide)]
theorem op_transfer {M : xM} (hR : Rl M) (a1 a2 a3 a4 : Int32) : Op2 (fun m => f_X8_transfer m a1 a2 a3 a4) (fun m => f_X9_transfer m a1 a2 a3 a4) M := by
  have hv := Rl_vw hR
  have ho := v_ok hv
  have c1 := ok_c1 ho
  have c2 := ok_c2 ho
  unfold Op2 f_X8_transfer f_X9_transfer f_X8_tryPass
  by_cases hx : xin a1 (nN (M 150) 1) = true
  case neg => exact ⟨-1, M, M, by simp only [has_car hv, xb_n, ifb0, if_neg hx, xb2_n], by simp only [plays_no rfl ho (fun z => hx z.1), xb2_n], hR⟩
  by_cases hy : xin a2 (nN (M 150) 2) = true
  case neg => exact ⟨-1, M, M, by simp only [has_car hv, has_mac hv, xb_n, ifb0, if_pos hx, if_neg hy, xb2_n], by simp only [plays_no rfl ho (fun z => hy z.2), xb2_n], hR⟩
  obtain ⟨c, hc, rfl⟩ := xin_ex hx (by omega)
  obtain ⟨m, hm, rfl⟩ := xin_ex hy (by omega)
  obtain ⟨b, b8, b9, br⟩ := cpl_e ho hm a3
  by_cases qb : b = true
  case neg => exact ⟨-2, M, M, by simp only [has_car hv, has_mac hv, xb_n, ifb0, if_pos hx, if_pos hy, b8 M hv, if_neg qb, xb2_n], by simp only [plays_e rfl ho hc hm (b9 M rfl hR.2.2.2.1)]; rw [if_neg (fun z => qb z.1), xb2_n], hR⟩
  by_cases qs : 0 ≤ a4 ∧ a4 ≤ 1
  case neg => exact ⟨-2, M, M, by simp only [has_car hv, has_mac hv, xb_n, ifb0, if_pos hx, if_pos hy, b8 M hv, if_pos qb, sid_e, if_neg qs, xb2_n], by simp only [plays_e rfl ho hc hm (b9 M rfl hR.2.2.2.1)]; rw [if_neg (fun z => qs z.2), xb2_n], hR⟩
  obtain ⟨s, hs, rfl⟩ := nI_ex (n := 1) (by decide) qs
  have hs2 : s < 2 := by omega
  obtain ⟨l, hl, el⟩ := lyc ho hc
  obtain ⟨h, hh, eh⟩ := rg_ex (n := 3) (ho.2.2.1 m hm).2.2.1 (by decide)
  have rs := br qb
  obtain ⟨v, v1, v2, v3, v4⟩ := rp_e ho hR.2.1 hc hm el eh rs hl hh hs2
  rcases v1 with z | z
  · subst z
    obtain ⟨Mk, M1, k1, k2, k3, k4⟩ := core_rec hR (core_pass ho hR.2.1 hc hm rfl (v4 rfl) el eh rs hl hh hs2 1 0 0)
    have e150 : M1 150 = M 150 := k3 150 (by decide)
    have hK1 : RefK M1 := RefK_fr hR.2.2.2.1 (k3 155 (by decide)) (k3 156 (by decide))
    obtain ⟨M2, p1, p2, p3⟩ := v3 M1 e150
    obtain ⟨Mr, M3, r1, r2, r3⟩ := k4 M2 p2 (p3 rfl)
    have k2' : f_X8_makePass Mk (nI c) (nI m) a3 (nI s) = some (nI (nN (M 150) 4), M1) := k2
    have r2' : f_X9_plays_56 Mr (nI c) (nI m) a3 (nI s) 1 0 0 = some (nI (nN (M 150) 4), M3) := r2
    refine ⟨nI (nN (M 150) 4), M1, M3, ?_, ?_, r3⟩
    · simp only [has_car hv, has_mac hv, xb_n, xl_n, ifb0, if_pos hx, if_pos hy, b8 M hv, if_pos qb, sid_e, if_pos qs, v2 M hv, if_true, if_neg (show ¬ (1 : Int32) = 0 by decide), k1, f_X8_tryPass_94, k2', xb2_n]
    · simp only [plays_e e150 ho hc hm (b9 M1 e150 hK1)]
      rw [if_pos ⟨qb, qs⟩, p1, xb2_n, if_pos (by decide), if_neg (by decide), r1, xb_n, r2', xb2_n]
  · have zn : ¬ v = 0 := fun w => by rw [w] at z; exact absurd z (by decide)
    have zl : ¬ v ≤ 0 := Int32.not_le.mpr z
    obtain ⟨s1, s2⟩ := rsn8 hv hR.2.1 v
    have e150 : xw M 1 9 v 150 = M 150 := s2 150 (by decide)
    have hK1 : RefK (xw M 1 9 v) := RefK_fr hR.2.2.2.1 (s2 155 (by decide)) (s2 156 (by decide))
    obtain ⟨M2, p1, p2, p3⟩ := v3 _ e150
    have e2 : M2 150 = M 150 := (p2 150 (by decide)).trans e150
    have hw : xw M2 150 7 v = wV M2 (upd (M 150) 7 v) := by
      have : M2 = wV M2 (M 150) := by rw [← e2]; exact wV_id
      exact (congrArg (fun z => xw z 150 7 v) this).trans xw_wV
    have fr2 : ∀ k, k ≠ 150 → k ≠ 157 → 18 ≤ k → wV M2 (upd (M 150) 7 v) k = M k := fun k g1 g2 g3 => by rw [wV_ne g1, p2 k g2, s2 k g3]
    refine ⟨-5, xw M 1 9 v, wV M2 (upd (M 150) 7 v), ?_, ?_, ?_⟩
    · simp only [has_car hv, has_mac hv, xb_n, xl_n, ifb0, if_pos hx, if_pos hy, b8 M hv, if_pos qb, sid_e, if_pos qs, v2 M hv, if_neg zn, xb2_n]
    · simp only [plays_e e150 ho hc hm (b9 _ e150 hK1)]
      rw [if_pos ⟨qb, qs⟩, p1, xb2_n, if_neg zl, hw, xb2_n]
    · exact Rl_of hR (fun k hk => fr2 k (fr_ne hk).1 (fr_ne hk).2.1 hk.1) (by rw [fr2 141 (by decide) (by decide) (by decide)]) (by rw [fr2 149 (by decide) (by decide) (by decide)]) (by rw [fr2 149 (by decide) (by decide) (by decide)]) (Enc_of s1.2.1 (Lk_same (fun k _ _ => by rw [wV_ne (by omega), p2 k (by omega)]))) (z_upd hR.2.1 (by decide)) (Col_same (fun k _ _ => by rw [wV_ne (by omega), p2 k (by omega)]) s1.2.2.1)
