/-! looking -/
theorem look_no {t ct n rows : Nat} {M : xM} (h2 : M t 2 = nI rows) (hrows : rows < 100000) {a : Int32} (hx : ¬ xin a rows = true) (b c : Int32) : f_X8_look t ct n M a b c = some (-1) := by
  unfold f_X8_look
  rw [T_has h2 hrows, xb_n, ifb0, if_neg hx]
theorem look_bad {t ct n rows : Nat} {M : xM} (h2 : M t 2 = nI rows) (hrows : rows < 100000) {a : Int32} (hx : xin a rows = true) {b c : Int32} (hb : ¬ (0 ≤ b ∧ b ≤ c - 1)) : f_X8_look t ct n M a b c = some (-2) := by
  unfold f_X8_look
  rw [T_has h2 hrows, xb_n, ifb0, if_pos hx, wi_e, xb_n, ifb0, if_neg hb]
theorem look_ok {t ct n rows : Nat} {M : xM} (h2 : M t 2 = nI rows) (hrows : rows < 100000) {a : Int32} (hx : xin a rows = true) {b c v : Int32} (hb : 0 ≤ b ∧ b ≤ c - 1) (hg : f_X6_get t ct n M a b = some v) : f_X8_look t ct n M a b c = some v := by
  unfold f_X8_look
  rw [T_has h2 hrows, xb_n, ifb0, if_pos hx, wi_e, xb_n, ifb0, if_pos hb, hg, xb_n]
theorem op_permission {M : xM} (hR : Rl M) (a b : Int32) : Op1 (fun m => f_X8_permission m a b) (fun m => f_X9_permission m a b) M := by
  have hv := Rl_vw hR
  have ho := v_ok hv
  have c := ok_c5 ho
  unfold Op1 f_X8_permission f_X9_permission
  by_cases hx : xin a (nN (M 150) 5) = true
  case neg => exact ⟨-1, by simp only [look_no (v_rows_per hv) (by omega) hx, xb_n], by simp only [one9_5 rfl ho, xb_n, ifb0, if_neg hx]⟩
  by_cases hb : 0 ≤ b ∧ b ≤ 4
  case neg => exact ⟨-2, by simp only [look_bad (c := 5) (v_rows_per hv) (by omega) hx hb, xb_n], by simp only [one9_5 rfl ho, xb_n, ifb0, if_pos hx, in_e, wi_e, if_neg hb]⟩
  obtain ⟨r, hr, rfl⟩ := xin_ex hx (by omega)
  obtain ⟨k, hk, rfl⟩ := nI_ex (n := 4) (by decide) hb
  refine ⟨M 150 (636 + 5 * r + k), ?_, ?_⟩
  · have g : f_X6_get 12 13 120 M (nI r) (nI k) = some (M 150 (636 + 5 * r + k)) := (getk_per hv k hr rfl (by omega)).trans (congrArg some (hv.2.1.1.2.2.2.2.2.2.2.1 r k (by omega) (by omega)))
    simp only [look_ok (c := 5) (v_rows_per hv) (by omega) hx hb g, xb_n]
  · simp (disch := omega) only [ite_true, IM, IA, IR, IC, IN, nI_add, pk_mul, xin_n, cl_n, xgd_n, ↓xl_n, xb_n, xb2_n, xw_wV, wV_150, one9_5 rfl ho, ifb0, if_pos hx, in_e, wi_e, if_pos hb]
theorem op_requested {M : xM} (hR : Rl M) (a b : Int32) : Op1 (fun m => f_X8_requested m a b) (fun m => f_X9_requested m a b) M := by
  have hv := Rl_vw hR
  have ho := v_ok hv
  have c := ok_c6 ho
  unfold Op1 f_X8_requested f_X9_requested
  by_cases hx : xin a (nN (M 150) 6) = true
  case neg => exact ⟨-1, by simp only [look_no (v_rows_req hv) (by omega) hx, xb_n], by simp only [one9_6 rfl ho, xb_n, ifb0, if_neg hx]⟩
  by_cases hb : 0 ≤ b ∧ b ≤ 9
  case neg => exact ⟨-2, by simp only [look_bad (c := 10) (v_rows_req hv) (by omega) hx hb, xb_n], by simp only [one9_6 rfl ho, xb_n, ifb0, if_pos hx, in_e, wi_e, if_neg hb]⟩
  obtain ⟨r, hr, rfl⟩ := xin_ex hx (by omega)
  obtain ⟨k, hk, rfl⟩ := nI_ex (n := 9) (by decide) hb
  refine ⟨M 150 (756 + 10 * r + k), ?_, ?_⟩
  · have g : f_X6_get 14 15 160 M (nI r) (nI k) = some (M 150 (756 + 10 * r + k)) := (getk_req hv k hr rfl (by omega)).trans (congrArg some (hv.2.1.1.2.2.2.2.2.2.2.2.1 r k (by omega) (by omega)))
    simp only [look_ok (c := 10) (v_rows_req hv) (by omega) hx hb g, xb_n]
  · simp (disch := omega) only [ite_true, IM, IA, IR, IC, IN, nI_add, pk_mul, xin_n, cl_n, xgd_n, ↓xl_n, xb_n, xb2_n, xw_wV, wV_150, one9_6 rfl ho, ifb0, if_pos hx, in_e, wi_e, if_pos hb]
theorem op_income {M : xM} (hR : Rl M) (a : Int32) : Op1 (fun m => f_X8_income m a) (fun m => f_X9_income m a) M := by
  have hv := Rl_vw hR
  unfold Op1 f_X8_income f_X9_income
  by_cases hb : 0 ≤ a ∧ a ≤ 7
  case neg => exact ⟨-2, by simp only [per_e, xb_n, ifb0, if_neg hb], by simp only [in_e, wi_e, xb_n, ifb0, if_neg hb]⟩
  obtain ⟨k, hk, rfl⟩ := nI_ex (n := 7) (by decide) hb
  exact ⟨M 150 (8 + k), by simp only [per_e, xb_n, ifb0, if_pos hb, g_prs_0 hv (show k < 8 by omega)], by simp (disch := omega) only [ite_true, IM, IA, IR, IC, IN, nI_add, pk_mul, xin_n, cl_n, xgd_n, ↓xl_n, xb_n, xb2_n, xw_wV, wV_150, ifb0, in_e, wi_e, if_pos hb]⟩
theorem op_paid {M : xM} (hR : Rl M) (a : Int32) : Op1 (fun m => f_X8_paid m a) (fun m => f_X9_paid m a) M := by
  have hv := Rl_vw hR
  unfold Op1 f_X8_paid f_X9_paid
  by_cases hb : 0 ≤ a ∧ a ≤ 7
  case neg => exact ⟨-2, by simp only [per_e, xb_n, ifb0, if_neg hb], by simp only [in_e, wi_e, xb_n, ifb0, if_neg hb]⟩
  obtain ⟨k, hk, rfl⟩ := nI_ex (n := 7) (by decide) hb
  exact ⟨M 150 (16 + k), by simp only [per_e, xb_n, ifb0, if_pos hb, g_prs_1 hv (show k < 8 by omega)], by simp (disch := omega) only [ite_true, IM, IA, IR, IC, IN, nI_add, pk_mul, xin_n, cl_n, xgd_n, ↓xl_n, xb_n, xb2_n, xw_wV, wV_150, ifb0, in_e, wi_e, if_pos hb]⟩
theorem ps9 {V : Nat → Int32} {M : xM} (h : M 150 = V) (ho : Ok V) (c : Nat) : f_X9_passesOf M (nI c) = some (nI (psO V c)) := by
  have c4 := ok_c4 ho
  have n4 := ok_n4 ho
  have key : ∀ (d i fu : Nat), i + d = nN V 4 → d < fu → f_X9_passesOf_4 M fu (nI c) (nI (cN (fun p => decide (V (420 + 9 * p) = nI c)) i)) (nI i) = some (nI (psO V c)) := by
    intro d
    induction d with
    | zero =>
      intro i fu e1 e2
      obtain ⟨g, rfl⟩ : ∃ g, fu = g + 1 := ⟨fu - 1, by omega⟩
      have : i = nN V 4 := by omega
      subst this
      rw [f_X9_passesOf_4]
      simp (disch := omega) only [ite_true, IM, IA, IR, IC, IN, nI_add, pk_mul, xin_n, cl_n, xgd_n, ↓xl_n, xb_n, xb2_n, xw_wV, wV_150, h, n4]
      rw [if_pos (by rw [le_n (by omega) (by omega)]; exact Nat.le_refl _)]
      rfl
    | succ d ih =>
      intro i fu e1 e2
      obtain ⟨g, rfl⟩ : ∃ g, fu = g + 1 := ⟨fu - 1, by omega⟩
      have p1 := ih (i + 1) g (by omega) (by omega)
      have hs : cN (fun p => decide (V (420 + 9 * p) = nI c)) (i + 1) = cN (fun p => decide (V (420 + 9 * p) = nI c)) i + (if decide (V (420 + 9 * i) = nI c) = true then 1 else 0) := rfl
      rw [hs] at p1
      rw [f_X9_passesOf_4]
      unfold f_X9_passesOf_37
      simp (disch := omega) only [ite_true, IM, IA, IR, IC, IN, nI_add, pk_mul, xin_n, cl_n, xgd_n, ↓xl_n, xb_n, xb2_n, xw_wV, wV_150, h, n4]
      rw [if_neg (by rw [le_n (by omega) (by omega)]; omega)]
      by_cases q : V (420 + 9 * i) = nI c
      · rw [if_pos q]; simpa [q] using p1
      · rw [if_neg q]; simpa [q] using p1
  unfold f_X9_passesOf
  rw [xl_n, xl_n]
  exact key (nN V 4) 0 xFU (by omega) (by unfold xFU; omega)
theorem car29 {V : Nat → Int32} {M : xM} (h : M 150 = V) (ho : Ok V) (c : Nat) (b : Int32) : ∀ (d i fu : Nat), i + d = nN V 3 → d < fu → f_X9_carrier_29 M fu (nI c) b (nI (cN (fun p => decide (V (84 + 5 * p) = nI c)) i)) (nI i) = if 5 ≤ b then (if b = 5 then (xb (f_X9_passesOf M (nI c)) fun v7 => some v7) else some (nI (rcO V c))) else (xgd (xin ((24 + (5 * nI c)) + b) 916) <| some (V ((24 + (5 * nI c)) + b).toNatClampNeg)) := by
  have c3 := ok_c3 ho
  have n3 := ok_n3 ho
  intro d
  induction d with
  | zero =>
    intro i fu e1 e2
    obtain ⟨g, rfl⟩ : ∃ g, fu = g + 1 := ⟨fu - 1, by omega⟩
    have : i = nN V 3 := by omega
    subst this
    rw [f_X9_carrier_29]
    simp only [IN, IC, xgd_n, h, n3]
    rw [if_pos (by rw [le_n (by omega) (by omega)]; exact Nat.le_refl _)]
    rfl
  | succ d ih =>
    intro i fu e1 e2
    obtain ⟨g, rfl⟩ : ∃ g, fu = g + 1 := ⟨fu - 1, by omega⟩
    have p1 := ih (i + 1) g (by omega) (by omega)
    have hs : cN (fun p => decide (V (84 + 5 * p) = nI c)) (i + 1) = cN (fun p => decide (V (84 + 5 * p) = nI c)) i + (if decide (V (84 + 5 * i) = nI c) = true then 1 else 0) := rfl
    rw [hs] at p1
    rw [f_X9_carrier_29]
    unfold f_X9_carrier_62
    simp only [IN, IC, xgd_n, h, n3]
    rw [if_neg (by rw [le_n (by omega) (by omega)]; omega), im_5, ia_84, xin_n (by omega) (by omega), xgd_n, cl_n (by omega)]
    simp only [xl_n, ir_1, ir_0]
    by_cases q : V (84 + 5 * i) = nI c
    · rw [if_pos q]; simpa [q] using p1
    · rw [if_neg q]; simpa [q] using p1
theorem mac28 {V : Nat → Int32} {M : xM} (h : M 150 = V) (ho : Ok V) (c : Nat) (b : Int32) : ∀ (d i fu : Nat), i + d = nN V 4 → d < fu → f_X9_machine_28 M fu (nI c) b (nI (cN (fun p => decide (V (420 + 9 * p + 1) = nI c)) i)) (nI i) = if 5 ≤ b then some (nI (pmO V c)) else (xgd (xin ((64 + (5 * nI c)) + b) 916) <| some (V ((64 + (5 * nI c)) + b).toNatClampNeg)) := by
  have c3 := ok_c4 ho
  have n3 := ok_n4 ho
  intro d
  induction d with
  | zero =>
    intro i fu e1 e2
    obtain ⟨g, rfl⟩ : ∃ g, fu = g + 1 := ⟨fu - 1, by omega⟩
    have : i = nN V 4 := by omega
    subst this
    rw [f_X9_machine_28]
    simp only [IN, IC, xgd_n, h, n3]
    rw [if_pos (by rw [le_n (by omega) (by omega)]; exact Nat.le_refl _)]
    rfl
  | succ d ih =>
    intro i fu e1 e2
    obtain ⟨g, rfl⟩ : ∃ g, fu = g + 1 := ⟨fu - 1, by omega⟩
    have p1 := ih (i + 1) g (by omega) (by omega)
    have hs : cN (fun p => decide (V (420 + 9 * p + 1) = nI c)) (i + 1) = cN (fun p => decide (V (420 + 9 * p + 1) = nI c)) i + (if decide (V (420 + 9 * i + 1) = nI c) = true then 1 else 0) := rfl
    rw [hs] at p1
    rw [f_X9_machine_28]
    unfold f_X9_machine_65
    simp only [IN, IC, xgd_n, h, n3]
    rw [if_neg (by rw [le_n (by omega) (by omega)]; omega), im_9, ia_420, ir_1, xin_n (by omega) (by omega), xgd_n, cl_n (by omega)]
    simp only [xl_n, ir_1, ir_0]
    by_cases q : V (420 + 9 * i + 1) = nI c
    · rw [if_pos q]; simpa [q] using p1
    · rw [if_neg q]; simpa [q] using p1
theorem op_carrier {M : xM} (hR : Rl M) (a b : Int32) : Op1 (fun m => f_X8_carrier m a b) (fun m => f_X9_carrier m a b) M := by
  have hv := Rl_vw hR
  have ho := v_ok hv
  have c := ok_c1 ho
  unfold Op1 f_X8_carrier f_X9_carrier
  by_cases hx : xin a (nN (M 150) 1) = true
  case neg => exact ⟨-1, by simp only [look_no (v_rows_car hv) (by omega) hx, xb_n], by simp only [one9_1 rfl ho, xb_n, ifb0, if_neg hx]⟩
  by_cases hb : 0 ≤ b ∧ b ≤ 6
  case neg => exact ⟨-2, by simp only [look_bad (c := 7) (v_rows_car hv) (by omega) hx hb, xb_n], by simp only [one9_1 rfl ho, xb_n, ifb0, if_pos hx, in_e, wi_e, if_neg hb]⟩
  obtain ⟨r, hr, rfl⟩ := xin_ex hx (by omega)
  obtain ⟨k, hk, rfl⟩ := nI_ex (n := 6) (by decide) hb
  have key := car29 (M := M) rfl ho r (nI k) (nN (M 150) 3) 0 xFU (by omega) (by have := ok_c3 ho; unfold xFU; omega)
  have k0 : f_X9_carrier_29 M xFU (nI r) (nI k) 0 0 = _ := key
  have go : ∀ v, f_X6_get 2 3 56 M (nI r) (nI k) = some v → f_X9_carrier_29 M xFU (nI r) (nI k) 0 0 = some v → ∃ v, (xb (f_X8_look 2 3 56 M (nI r) (nI k) 7) fun v1 => some v1) = some v ∧ (xb (f_X9_isOne M 1 (nI r)) fun v8 => if v8 = 0 then some (-1) else xb (f_X9_in (nI k) 0 6) fun v9 => if v9 = 0 then some (-2) else xl 0 fun v10 => xl 0 fun v11 => f_X9_carrier_29 M xFU (nI r) (nI k) v10 v11) = some v := fun v g1 g2 => ⟨v, by simp only [look_ok (c := 7) (v_rows_car hv) (by omega) hx hb g1, xb_n], by simp only [one9_1 rfl ho, xb_n, ifb0, if_pos hx, in_e, wi_e, if_pos hb, xl_n, g2]⟩
  by_cases k5 : k = 5
  · subst k5
    refine go (nI (psO (M 150) r)) (g_car_5 hv hr) ?_
    rw [k0, if_pos (by decide), if_pos (show nI 5 = (5 : Int32) from rfl), ps9 rfl ho, xb_n]
  · by_cases k6 : k = 6
    · subst k6
      refine go (nI (rcO (M 150) r)) (g_car_6 hv hr) ?_
      rw [k0, if_pos (by decide), if_neg (by decide)]
    · refine go (M 150 (24 + 5 * r + k)) ((getk_car hv k hr rfl (by omega)).trans (congrArg some (hv.2.1.1.1 r k (by omega) (by omega)))) ?_
      rw [k0, if_neg (by rw [li_5, le_n (by omega) (by omega)]; omega), im_5, ia_24, nI_add, xin_n (by omega) (by omega), xgd_n, cl_n (by omega)]
theorem op_machine {M : xM} (hR : Rl M) (a b : Int32) : Op1 (fun m => f_X8_machine m a b) (fun m => f_X9_machine m a b) M := by
  have hv := Rl_vw hR
  have ho := v_ok hv
  have c := ok_c2 ho
  unfold Op1 f_X8_machine f_X9_machine
  by_cases hx : xin a (nN (M 150) 2) = true
  case neg => exact ⟨-1, by simp only [look_no (v_rows_mac hv) (by omega) hx, xb_n], by simp only [one9_2 rfl ho, xb_n, ifb0, if_neg hx]⟩
  by_cases hb : 0 ≤ b ∧ b ≤ 5
  case neg => exact ⟨-2, by simp only [look_bad (c := 6) (v_rows_mac hv) (by omega) hx hb, xb_n], by simp only [one9_2 rfl ho, xb_n, ifb0, if_pos hx, in_e, wi_e, if_neg hb]⟩
  obtain ⟨r, hr, rfl⟩ := xin_ex hx (by omega)
  obtain ⟨k, hk, rfl⟩ := nI_ex (n := 5) (by decide) hb
  have key := mac28 (M := M) rfl ho r (nI k) (nN (M 150) 4) 0 xFU (by omega) (by have := ok_c4 ho; unfold xFU; omega)
  have k0 : f_X9_machine_28 M xFU (nI r) (nI k) 0 0 = _ := key
  have go : ∀ v, f_X6_get 4 5 24 M (nI r) (nI k) = some v → f_X9_machine_28 M xFU (nI r) (nI k) 0 0 = some v → ∃ v, (xb (f_X8_look 4 5 24 M (nI r) (nI k) 6) fun v1 => some v1) = some v ∧ (xb (f_X9_isOne M 2 (nI r)) fun v8 => if v8 = 0 then some (-1) else xb (f_X9_in (nI k) 0 5) fun v9 => if v9 = 0 then some (-2) else xl 0 fun v10 => xl 0 fun v11 => f_X9_machine_28 M xFU (nI r) (nI k) v10 v11) = some v := fun v g1 g2 => ⟨v, by simp only [look_ok (c := 6) (v_rows_mac hv) (by omega) hx hb g1, xb_n], by simp only [one9_2 rfl ho, xb_n, ifb0, if_pos hx, in_e, wi_e, if_pos hb, xl_n, g2]⟩
  by_cases k5 : k = 5
  · subst k5
    refine go (nI (pmO (M 150) r)) (g_mac_5 hv hr) ?_
    rw [k0, if_pos (by decide)]
  · refine go (M 150 (64 + 5 * r + k)) ((getk_mac hv k hr rfl (by omega)).trans (congrArg some (hv.2.1.1.2.1 r k (by omega) (by omega)))) ?_
    rw [k0, if_neg (by rw [li_5, le_n (by omega) (by omega)]; omega), im_5, ia_64, nI_add, xin_n (by omega) (by omega), xgd_n, cl_n (by omega)]
theorem op_recording {M : xM} (hR : Rl M) (a b : Int32) : Op1 (fun m => f_X8_recording m a b) (fun m => f_X9_recording m a b) M := by
  have hv := Rl_vw hR
  have ho := v_ok hv
  have c := ok_c3 ho
  have c1 := ok_c1 ho
  unfold Op1 f_X8_recording f_X9_recording
  by_cases hx : xin a (nN (M 150) 3) = true
  case neg => exact ⟨-1, by simp only [look_no (v_rows_rec hv) (by omega) hx, xb_n], by simp only [one9_3 rfl ho, xb_n, ifb0, if_neg hx]⟩
  by_cases hb : 0 ≤ b ∧ b ≤ 5
  case neg => exact ⟨-2, by simp only [look_bad (c := 6) (v_rows_rec hv) (by omega) hx hb, xb_n], by simp only [one9_3 rfl ho, xb_n, ifb0, if_pos hx, in_e, wi_e, if_neg hb]⟩
  obtain ⟨r, hr, rfl⟩ := xin_ex hx (by omega)
  obtain ⟨k, hk, rfl⟩ := nI_ex (n := 5) (by decide) hb
  have hQ := ho.2.2.2.1 r hr
  by_cases k4 : k = 4
  · subst k4
    have gs := g_rec_4 hv hr
    have es := (hv.2.1.2.1.2.2.2.1 r hr).1
    refine ⟨M 7 (r * 6 + 4), ?_, ?_⟩
    · simp only [look_ok (c := 6) (v_rows_rec hv) (by omega) hx hb (gs.trans es), xb_n]
    · have e0 : M 150 (84 + 5 * r) = nI (nN (M 150) (84 + 5 * r)) := hQ.1
      have e0b := hQ.2.1
      simp (disch := omega) only [ite_true, IM, IA, IR, IC, IN, nI_add, pk_mul, xin_n, cl_n, xgd_n, ↓xl_n, xb_n, xb2_n, xw_wV, wV_150, one9_3 rfl ho, ifb0, if_pos hx, in_e, wi_e, if_pos hb]
      rw [if_pos (by decide), if_pos (by decide), e0]
      simp (disch := omega) only [ite_true, IM, IA, IR, IC, IN, nI_add, pk_mul, xin_n, cl_n, xgd_n, ↓xl_n, xb_n, xb2_n, xw_wV, wV_150]
      have es' : f_X9_sideOfAll (M 150 (24 + 5 * nN (M 150) (84 + 5 * r) + 2)) (M 150 (84 + 5 * r + 1)) = some (M 7 (r * 6 + 4)) := es
      rw [es', xb_n]
  · by_cases k5 : k = 5
    · subst k5
      refine ⟨M 150 (84 + 5 * r + 4), ?_, ?_⟩
      · simp only [look_ok (c := 6) (v_rows_rec hv) (by omega) hx hb (g_rec_5 hv hr), xb_n]
      · simp (disch := omega) only [ite_true, IM, IA, IR, IC, IN, nI_add, pk_mul, xin_n, cl_n, xgd_n, ↓xl_n, xb_n, xb2_n, xw_wV, wV_150, one9_3 rfl ho, ifb0, if_pos hx, in_e, wi_e, if_pos hb]
        rw [if_pos (by decide), if_neg (by decide)]
    · refine ⟨M 150 (84 + 5 * r + k), ?_, ?_⟩
      · have g : f_X6_get 6 7 96 M (nI r) (nI k) = some (M 150 (84 + 5 * r + k)) := (getk_rec hv k hr rfl (by omega)).trans (congrArg some (hv.2.1.1.2.2.1 r k (by omega) (by omega)))
        simp only [look_ok (c := 6) (v_rows_rec hv) (by omega) hx hb g, xb_n]
      · simp (disch := omega) only [ite_true, IM, IA, IR, IC, IN, nI_add, pk_mul, xin_n, cl_n, xgd_n, ↓xl_n, xb_n, xb2_n, xw_wV, wV_150, one9_3 rfl ho, ifb0, if_pos hx, in_e, wi_e, if_pos hb]
        rw [if_neg (by rw [li_4, le_n (by omega) (by omega)]; omega)]
theorem sub1 {n : Nat} (hn : n < 100000) (a : Int32) : (0 ≤ a ∧ a ≤ nI n - 1) = (xin a n = true) := by
  refine propext ⟨fun q => ?_, fun q => ?_⟩
  · obtain ⟨q1, q2⟩ := q
    obtain ⟨j, hj, rfl⟩ := nI_of (Int32.not_lt.mpr q1)
    have hj : j < 2147483648 := by simpa using hj
    have h1 : j < n := by
      rcases Nat.eq_zero_or_pos n with h0 | h0
      · rw [h0] at q2
        have := Int32.le_iff_toInt_le.mp q2
        rw [nI_toInt (by simpa using hj)] at this
        have h9 : (nI 0 - 1 : Int32).toInt = -1 := rfl
        omega
      · obtain ⟨m, hm⟩ : ∃ m, n = m + 1 := ⟨n - 1, by omega⟩
        rw [hm, nI_pred, le_n hj (by omega)] at q2
        omega
    exact xin_n h1 hj
  · obtain ⟨r, hr, rfl⟩ := xin_ex q (by omega)
    obtain ⟨m, hm⟩ : ∃ m, n = m + 1 := ⟨n - 1, by omega⟩
    rw [hm, nI_pred]
    exact ⟨nI_pos' (by omega), by rw [le_n (by omega) (by omega)]; omega⟩
theorem part9 {V : Nat → Int32} {M : xM} (h : M 150 = V) (ho : Ok V) {r k : Nat} (hr : r < nN V 3) (hk : k < nN V (84 + 5 * r + 4)) (d : Int32) : f_X9_part M (nI r) (nI k) d = if 0 ≤ d ∧ d ≤ 4 then (if 4 ≤ d then (if V (164 + 4 * (4 * r + k) + 3) ≤ V 0 then some 0 else some 1) else (xgd (xin (nI (164 + 4 * (4 * r + k)) + d) 916) <| some (V (nI (164 + 4 * (4 * r + k)) + d).toNatClampNeg))) else some (-2) := by
  have c := ok_c3 ho
  have hQ := ho.2.2.2.1 r hr
  have e4 : V (84 + 5 * r + 4) = nI (nN V (84 + 5 * r + 4)) := hQ.2.2.2.2.2.1
  have l4 := hQ.2.2.2.2.2.2
  have hx : xin (nI r) (nN V 3) = true := xin_n hr (by omega)
  have hy : xin (nI k) (nN V (84 + 5 * r + 4)) = true := xin_n hk (by omega)
  have e16 : 164 + 16 * r + 4 * k = 164 + 4 * (4 * r + k) := by omega
  unfold f_X9_part
  rw [one9_3 h ho, xb_n, ifb0, if_pos hx, im_5, ia_84, ir_4, xin_n (by omega) (by omega), xgd_n, cl_n (by omega), h, e4, in_e, wi_e, xb_n, ifb0, if_pos (by rw [sub1 (by omega)]; exact hy), wi_e, xb_n, ifb0, xl_n, im_16, ia_164, im_4, nI_add, e16]
  by_cases q : 0 ≤ d ∧ d ≤ 4
  · rw [if_pos q, if_pos q, ir_3, xin_n (show 164 + 4 * (4 * r + k) + 3 < 916 by omega) (by omega), xgd_n, cl_n (by omega), IN.2.2.1, xgd_n, ic_0]
  · rw [if_neg q, if_neg q]
theorem part9n {V : Nat → Int32} {M : xM} (h : M 150 = V) (ho : Ok V) {r : Nat} (hr : r < nN V 3) {b : Int32} (hy : ¬ xin b (nN V (84 + 5 * r + 4)) = true) (d : Int32) : f_X9_part M (nI r) b d = some (-1) := by
  have c := ok_c3 ho
  have hQ := ho.2.2.2.1 r hr
  have e4 : V (84 + 5 * r + 4) = nI (nN V (84 + 5 * r + 4)) := hQ.2.2.2.2.2.1
  have l4 := hQ.2.2.2.2.2.2
  have hx : xin (nI r) (nN V 3) = true := xin_n hr (by omega)
  unfold f_X9_part
  rw [one9_3 h ho, xb_n, ifb0, if_pos hx, im_5, ia_84, ir_4, xin_n (by omega) (by omega), xgd_n, cl_n (by omega), h, e4, in_e, wi_e, xb_n, ifb0, if_neg (by rw [sub1 (by omega)]; exact hy)]
theorem part9x {V : Nat → Int32} {M : xM} (h : M 150 = V) (ho : Ok V) {a : Int32} (hx : ¬ xin a (nN V 3) = true) (b d : Int32) : f_X9_part M a b d = some (-1) := by
  unfold f_X9_part
  rw [one9_3 h ho, xb_n, ifb0, if_neg hx]
theorem op_part {M : xM} (hR : Rl M) (a b d : Int32) : Op1 (fun m => f_X8_part m a b d) (fun m => f_X9_part m a b d) M := by
  have hv := Rl_vw hR
  have ho := v_ok hv
  have c := ok_c3 ho
  unfold Op1 f_X8_part
  by_cases hx : xin a (nN (M 150) 3) = true
  case neg => exact ⟨-1, by simp only [has_rec hv, xb_n, ifb0, if_neg hx], part9x rfl ho hx b d⟩
  obtain ⟨r, hr, rfl⟩ := xin_ex hx (by omega)
  have hQ := ho.2.2.2.1 r hr
  have e4 : M 150 (84 + 5 * r + 4) = nI (nN (M 150) (84 + 5 * r + 4)) := hQ.2.2.2.2.2.1
  have l4 := hQ.2.2.2.2.2.2
  have g5 : f_X6_get 6 7 96 M (nI r) 5 = some (nI (nN (M 150) (84 + 5 * r + 4))) := (g_rec_5 hv hr).trans (congrArg some e4)
  by_cases hy : xin b (nN (M 150) (84 + 5 * r + 4)) = true
  case neg => exact ⟨-1, by simp only [has_rec hv, xb_n, ifb0, if_pos hx, g5, wi_e, sub1 (show nN (M 150) (84 + 5 * r + 4) < 100000 by omega), if_neg hy], part9n rfl ho hr hy d⟩
  obtain ⟨k, hk, rfl⟩ := xin_ex hy (by omega)
  have e16 : 164 + 16 * r + 4 * k = 164 + 4 * (4 * r + k) := by omega
  have h9 := part9 (M := M) rfl ho hr hk d
  by_cases hb : 0 ≤ d ∧ d ≤ 4
  case neg =>
    have hb3 : ¬ (0 ≤ d ∧ d ≤ (4 : Int32) - 1) := fun w => hb ⟨w.1, Int32.le_trans w.2 (by decide)⟩
    have d4 : ¬ d = 4 := fun w => hb (by rw [w]; decide)
    refine ⟨-2, ?_, h9.trans (by rw [if_neg hb])⟩
    simp only [has_rec hv, xb_n, ifb0, if_pos hx, g5, wi_e, sub1 (show nN (M 150) (84 + 5 * r + 4) < 100000 by omega), if_pos hy, row_e, xl_n, if_neg d4, look_bad (c := 4) (v_rows_prt hv) (by decide) (show xin (nI (4 * r + k)) 64 = true from xin_n (by omega) (by omega)) hb3]
  obtain ⟨j, hj, rfl⟩ := nI_ex (n := 4) (by decide) hb
  by_cases j4 : j = 4
  · subst j4
    by_cases pq : M 150 (164 + 4 * (4 * r + k) + 3) ≤ M 150 0
    · refine ⟨0, ?_, h9.trans (by rw [if_pos hb, if_pos (by decide), if_pos pq])⟩
      simp only [has_rec hv, xb_n, ifb0, if_pos hx, g5, wi_e, sub1 (show nN (M 150) (84 + 5 * r + 4) < 100000 by omega), if_pos hy, row_e, xl_n]
      unfold f_X8_isProtected
      rw [if_pos (show nI 4 = (4 : Int32) from rfl), g_prt_3 hv (by omega), xb_n, v_today hv, if_pos pq, xb_n, if_pos (show (0 : Int32) = 0 from rfl)]
    · refine ⟨1, ?_, h9.trans (by rw [if_pos hb, if_pos (by decide), if_neg pq])⟩
      simp only [has_rec hv, xb_n, ifb0, if_pos hx, g5, wi_e, sub1 (show nN (M 150) (84 + 5 * r + 4) < 100000 by omega), if_pos hy, row_e, xl_n]
      unfold f_X8_isProtected
      rw [if_pos (show nI 4 = (4 : Int32) from rfl), g_prt_3 hv (by omega), xb_n, v_today hv, if_neg pq, xb_n, if_neg (by decide)]
  · have d4 : ¬ nI j = 4 := by rw [li_4, eq_n (by omega) (by decide)]; exact j4
    have hb3 : 0 ≤ nI j ∧ nI j ≤ (4 : Int32) - 1 := ⟨hb.1, by rw [show (4 : Int32) - 1 = nI 3 from rfl, le_n (by omega) (by decide)]; omega⟩
    refine ⟨M 150 (164 + 4 * (4 * r + k) + j), ?_, h9.trans (by rw [if_pos hb, if_neg (by rw [li_4, le_n (by decide) (by omega)]; omega), nI_add, xin_n (by omega) (by omega), xgd_n, cl_n (by omega)])⟩
    have g : f_X6_get 8 9 256 M (nI (4 * r + k)) (nI j) = some (M 150 (164 + 4 * (4 * r + k) + j)) := (getk_prt hv j (by omega) rfl (by omega)).trans (congrArg some (hv.2.1.1.2.2.2.2.1 (4 * r + k) j (by omega) (by omega)))
    simp only [has_rec hv, xb_n, ifb0, if_pos hx, g5, wi_e, sub1 (show nN (M 150) (84 + 5 * r + 4) < 100000 by omega), if_pos hy, row_e, xl_n, if_neg d4, look_ok (c := 4) (v_rows_prt hv) (by decide) (show xin (nI (4 * r + k)) 64 = true from xin_n (by omega) (by omega)) hb3 g]
