/-! parts -/
theorem Ok_prt {V V2 : Nat → Int32} (h : Ok V) {r k : Nat} (hr : r < nN V 3) (hk : V (84 + 5 * r + 4) = nI k) (hk4 : k < 4) (e : ∀ j, j ≠ 84 + 5 * r + 4 → (j < 164 + 4 * (4 * r + k) ∨ 164 + 4 * (4 * r + k) + 4 ≤ j) → V2 j = V j) (h1 : V2 (84 + 5 * r + 4) = nI (k + 1)) (hT : OkT V2 (4 * r + k)) : Ok V2 := by
  obtain ⟨⟨a1, a2, a3, a4, a5, a6, a7, a8, a9, a10, a11, a12, a13⟩, b1, b2, b3, b4, b5, b6, b7, b8, b9, b10⟩ := h
  have x : ∀ j, j < 8 → V2 j = V j := fun j hj => e j (by omega) (by omega)
  have y : ∀ j, j < 8 → nN V2 j = nN V j := fun j hj => by unfold nN; rw [x j hj]
  have y1 := y 1 (by decide)
  have y2 := y 2 (by decide)
  have y3 := y 3 (by decide)
  have y4 := y 4 (by decide)
  have y5 := y 5 (by decide)
  have y6 := y 6 (by decide)
  have z1 : nN V2 (84 + 5 * r + 4) = k + 1 := nN_of h1 (by omega)
  have z0 : nN V (84 + 5 * r + 4) = k := nN_of hk (by omega)
  refine ⟨⟨by rw [y1, x 1 (by decide)]; exact a1, by omega, by rw [y2, x 2 (by decide)]; exact a3, by omega, by rw [y3, x 3 (by decide)]; exact a5, by omega, by rw [y4, x 4 (by decide)]; exact a7, by omega, by rw [y5, x 5 (by decide)]; exact a9, by omega, by rw [y6, x 6 (by decide)]; exact a11, by omega, by rw [x 0 (by decide)]; exact a13⟩, fun q hq => OkC_c (b1 q (by omega)) (fun c hc => e _ (by omega) (by omega)), fun q hq => OkM_c (b2 q (by omega)) (fun c hc => e _ (by omega) (by omega)), fun q hq => ?_, fun q h1 h2 => by rw [e _ (by omega) (by omega)]; exact b4 q (by omega) h2, fun q j hq hj => ?_, fun p hp => OkP_c (b6 p (by omega)) (by omega) (by omega) (fun c hc => e _ (by omega) (by omega)), fun q hq => by rw [e _ (by omega) (by omega)]; exact b7 q (by omega), fun q h1 h2 => by rw [e _ (by omega) (by omega)]; exact b8 q (by omega) h2, fun q hq => OkQ_c (b9 q (by omega)) (by omega) (fun c hc => e _ (by omega) (by omega)), fun q h1 h2 => by rw [e _ (by omega) (by omega)]; exact b10 q (by omega) h2⟩
  · by_cases hqr : q = r
    · subst hqr
      have old := b3 q (by omega)
      have w : nN V2 (84 + 5 * q) = nN V (84 + 5 * q) := by unfold nN; rw [e _ (by omega) (by omega)]
      unfold OkR at *
      rw [w, z1, h1, y1, e (84 + 5 * q) (by omega) (by omega), e (84 + 5 * q + 1) (by omega) (by omega), e (84 + 5 * q + 2) (by omega) (by omega), e (84 + 5 * q + 3) (by omega) (by omega)]
      exact ⟨old.1, old.2.1, old.2.2.1, old.2.2.2.1, old.2.2.2.2.1, rfl, by omega⟩
    · exact OkR_c (b3 q (by omega)) (by omega) (fun c hc => e _ (by omega) (by omega))
  · by_cases hqr : q = r
    · subst hqr
      by_cases hjk : j = k
      · rw [hjk]; exact hT
      · exact OkT_c (b5 q j (by omega) (by omega)) (fun c hc => e _ (by omega) (by omega))
    · have w : nN V2 (84 + 5 * q + 4) = nN V (84 + 5 * q + 4) := by unfold nN; rw [e _ (by omega) (by omega)]
      have l4 := (b3 q (by omega)).2.2.2.2.2.2
      exact OkT_c (b5 q j (by omega) (by omega)) (fun c hc => e _ (by omega) (by omega))
theorem sx_prt {V : Nat → Int32} {M Mk : xM} (h : St V M Mk) {j : Nat} {c : Int32} (k : Nat) (v : Int32) (hj : j < 64) (hk : c = nI k) (hk2 : k < 4) : ∃ M1, f_X6_set 8 9 256 M (nI j) c v = some M1 ∧ St (upd V (164 + 4 * j + k) v) M1 Mk := ⟨_, s_setk_prt h k v hj hk hk2, w_prt h hj hk2 v⟩
theorem op_addPart {M : xM} (hR : Rl M) (a1 a2 a3 a4 a5 : Int32) : Op2 (fun m => f_X8_addPart m a1 a2 a3 a4 a5) (fun m => f_X9_addPart m a1 a2 a3 a4 a5) M := by
  have hv := Rl_vw hR
  have ho := v_ok hv
  have c3 := ok_c3 ho
  have c1 := ok_c1 ho
  unfold Op2 f_X8_addPart f_X9_addPart
  by_cases hx : xin a1 (nN (M 150) 3) = true
  case neg => exact ⟨-1, M, M, by simp only [has_rec hv, xb_n, ifb0, if_neg hx], by simp only [one9_3 rfl ho, xb_n, ifb0, if_neg hx], hR⟩
  obtain ⟨r, hr, rfl⟩ := xin_ex hx (by omega)
  have hr2 : r < 16 := by omega
  by_cases p2 : 0 ≤ a2 ∧ a2 < a3 ∧ a3 ≤ M 150 (84 + 5 * r + 3) - M 150 (84 + 5 * r + 2)
  case neg => exact ⟨-2, M, M, by simp only [has_rec hv, xb_n, ifb0, if_pos hx, len_e hv hr, str_e, if_neg p2], by simp only [one9_3 rfl ho, xb_n, ifb0, if_pos hx, exc9_e rfl hr2, if_neg p2], hR⟩
  by_cases p3 : 0 ≤ a4 ∧ a4 ≤ 7
  case neg => exact ⟨-2, M, M, by simp only [has_rec hv, xb_n, ifb0, if_pos hx, len_e hv hr, str_e, if_pos p2, per_e, if_neg p3], by simp only [one9_3 rfl ho, xb_n, ifb0, if_pos hx, exc9_e rfl hr2, if_pos p2, in_e, wi_e, if_neg p3], hR⟩
  by_cases p4 : 0 ≤ a5 ∧ a5 ≤ 9999
  case neg => exact ⟨-2, M, M, by simp only [has_rec hv, xb_n, ifb0, if_pos hx, len_e hv hr, str_e, if_pos p2, per_e, if_pos p3, wi_e, if_neg p4], by simp only [one9_3 rfl ho, xb_n, ifb0, if_pos hx, exc9_e rfl hr2, if_pos p2, in_e, wi_e, if_pos p3, if_neg p4], hR⟩
  have hQ := ho.2.2.2.1 r hr
  obtain ⟨k, hk, e4⟩ : ∃ k, k ≤ 4 ∧ M 150 (84 + 5 * r + 4) = nI k := ⟨_, hQ.2.2.2.2.2.2, hQ.2.2.2.2.2.1⟩
  have g5 : f_X6_get 6 7 96 M (nI r) 5 = some (nI k) := (g_rec_5 hv hr).trans (congrArg some e4)
  have e16 : 164 + 16 * r + 4 * k = 164 + 4 * (4 * r + k) := by omega
  have r9 : ∀ m : xM, m 150 = M 150 → f_X9_addPart m (nI r) a2 a3 a4 a5 = if k = 4 then some (-4, m) else xb (f_X9_record m) fun M8 => xl ((164 + (16 * nI r)) + (4 * nI k)) fun v9 =>
            xgd (xin v9 916) <| xl (xw M8 150 v9.toNatClampNeg a2) fun M10 =>
            xgd (xin (v9 + 1) 916) <| xl (xw M10 150 (v9 + 1).toNatClampNeg a3) fun M11 =>
            xgd (xin (v9 + 2) 916) <| xl (xw M11 150 (v9 + 2).toNatClampNeg a4) fun M12 =>
            xgd (xin (v9 + 3) 916) <| xl (xw M12 150 (v9 + 3).toNatClampNeg a5) fun M13 =>
            xgd (xin ((84 + (5 * nI r)) + 4) 916) <|
            xgd (xin ((84 + (5 * nI r)) + 4) 916) <| xl (xw M13 150 ((84 + (5 * nI r)) + 4).toNatClampNeg ((M13 150 ((84 + (5 * nI r)) + 4).toNatClampNeg) + 1)) fun M14 =>
            some (nI k, M14) := by
    intro m hm
    unfold f_X9_addPart
    rw [one9_3 hm ho, xb_n, ifb0, if_pos hx, exc9_e hm hr2, xb_n, ifb0, if_pos p2, in_e, wi_e, xb_n, ifb0, if_pos p3, wi_e, xb_n, ifb0, if_pos p4]
    rw [show xgd (xin ((84 + (5 * nI r)) + 4) 916) = xgd true from congrArg xgd (by rw [im_5, ia_84, ir_4]; exact xin_n (by omega) (by omega))]
    rw [xgd_n, xl_n, hm, show ((84 : Int32) + 5 * nI r + 4).toNatClampNeg = 84 + 5 * r + 4 by rw [im_5, ia_84, ir_4]; exact cl_n (by omega), e4]
    by_cases q : k = 4
    · rw [if_pos q, if_pos (by rw [q]; rfl)]
    · rw [if_neg q, if_neg (by rw [li_4, eq_n (by omega) (by decide)]; exact q)]
  by_cases q4 : k = 4
  · refine ⟨-4, M, M, ?_, (r9 M rfl).trans (by rw [if_pos q4]), hR⟩
    simp only [has_rec hv, xb_n, ifb0, if_pos hx, len_e hv hr, str_e, if_pos p2, per_e, if_pos p3, wi_e, if_pos p4, g5, xl_n]
    rw [if_neg (by rw [q4]; decide)]
  have hk4 : k < 4 := by omega
  obtain ⟨Mk, k1, hk1, hc⟩ := do_op hR
  have h0 := St_0 hk1 hR.2.1
  obtain ⟨M1, e1, h1⟩ := sx_prt h0 (j := 4 * r + k) (c := 0) 0 a2 (by omega) rfl (by decide)
  obtain ⟨M2, e2, h2⟩ := sx_prt h1 (j := 4 * r + k) (c := 1) 1 a3 (by omega) rfl (by decide)
  obtain ⟨M3, e3, h3⟩ := sx_prt h2 (j := 4 * r + k) (c := 2) 2 a4 (by omega) rfl (by decide)
  obtain ⟨M4, e5, h4⟩ := sx_prt h3 (j := 4 * r + k) (c := 3) 3 a5 (by omega) rfl (by decide)
  generalize hV3 : upd (upd (upd (upd (M 150) (164 + 4 * (4 * r + k) + 0) a2) (164 + 4 * (4 * r + k) + 1) a3) (164 + 4 * (4 * r + k) + 2) a4) (164 + 4 * (4 * r + k) + 3) a5 = V3 at *
  have eo3 : ∀ j, (j < 164 + 4 * (4 * r + k) ∨ 164 + 4 * (4 * r + k) + 4 ≤ j) → V3 j = M 150 j := fun j g => by rw [← hV3]; simp (disch := omega) only [upd_ne]
  have v3 : V3 3 = nI (nN (M 150) 3) := (eo3 3 (by omega)).trans (ok_n3 ho)
  have e6 := s_addk_rec h4 v3 c3 (c := 5) 5 1 hr rfl (by decide)
  have h5 := w_rec5 h4 hr2 (M4 7 (r * 6 + 5) + 1)
  have m5 : M4 7 (r * 6 + 5) = nI k := by rw [h4.1.2.2.2.1 r hr2, eo3 _ (by omega)]; exact e4
  rw [m5, ir_1] at e6 h5
  obtain ⟨M5, eM⟩ : ∃ M5, M5 = xw M4 7 (r * 6 + 5) (nI (k + 1)) := ⟨_, rfl⟩
  rw [← eM] at e6 h5
  generalize hV2 : upd V3 (84 + 5 * r + 4) (nI (k + 1)) = V2 at *
  have eo : ∀ j, j ≠ 84 + 5 * r + 4 → (j < 164 + 4 * (4 * r + k) ∨ 164 + 4 * (4 * r + k) + 4 ≤ j) → V2 j = M 150 j := fun j g1 g2 => by rw [← hV2, upd_ne g1]; exact eo3 j g2
  have d1 := St_der h5 hk1 (eo _ (by omega) (by omega)) (eo _ (by omega) (by omega)) (fun j _ _ => eo _ (by omega) (by omega)) (fun q _ => ⟨eo _ (by omega) (by omega), eo _ (by omega) (by omega)⟩) (fun q _ => eo _ (by omega) (by omega))
  obtain ⟨s, hs, es⟩ := nI_ex (n := 7) (by decide) p3
  have t2 : V2 (164 + 4 * (4 * r + k) + 2) = nI s := by rw [← hV2, ← hV3, ← es]; simp (disch := omega) only [upd_ne, upd_eq]
  have o1 : Ok V2 := by
    refine Ok_prt ho hr e4 hk4 eo (by rw [← hV2, upd_eq]) ?_
    have g := ex_rg ho hr p2
    unfold OkT
    rw [nN_of t2 (by omega)]
    refine ⟨?_, ?_, t2, by omega⟩
    · rw [← hV2, ← hV3, show 164 + 4 * (4 * r + k) = 164 + 4 * (4 * r + k) + 0 from rfl]; simp (disch := omega) only [upd_ne, upd_eq]; exact g.1
    · rw [← hV2, ← hV3]; simp (disch := omega) only [upd_ne, upd_eq]; exact g.2
  obtain ⟨f1, f2, Mr, f3, f4⟩ := hc _ _ h5 d1 o1
  refine ⟨nI k, M5, wV Mr V2, ?_, ?_, f4⟩
  · simp only [has_rec hv, xb_n, ifb0, if_pos hx, len_e hv hr, str_e, if_pos p2, per_e, if_pos p3, wi_e, if_pos p4, g5, xl_n]
    rw [if_pos (by rw [li_4, lt_n (by omega) (by decide)]; exact hk4)]
    simp only [k1, row_e, xb_n, xl_n, e1, e2, e3, e5, e6]
  · refine (r9 M5 f1).trans ?_
    rw [if_neg q4, f3, xb_n]
    simp (disch := omega) only [ite_true, IM, IA, IR, IC, IN, nI_add, pk_mul, xin_n, cl_n, xgd_n, ↓xl_n, xb_n, xb2_n, xw_wV, wV_150, e16, upd_ne, upd_eq, e4]
    rw [← hV2, ← hV3]
    simp only [Nat.add_zero]
