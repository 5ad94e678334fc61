/-! the law's loop -/
theorem ex_if {c : Prop} [Decidable c] {a b : Option (Int32 × xM)} (h1 : c → ∃ M' : xM, a = some (1, M')) (h2 : ¬ c → ∃ M' : xM, b = some (1, M')) : ∃ M' : xM, (if c then a else b) = some (1, M') := by
  by_cases q : c
  · rw [if_pos q]; exact h1 q
  · rw [if_neg q]; exact h2 q
theorem ex_gd {b : Bool} {a : Option (Int32 × xM)} (hb : b = true) (h : ∃ M' : xM, a = some (1, M')) : ∃ M' : xM, xgd b a = some (1, M') := by
  rw [hb, xgd_n]; exact h
theorem ex_b2 {F : Option (Int32 × xM)} {v : Int32} {M1 : xM} {K : Int32 → xM → Option (Int32 × xM)} (h : F = some (v, M1)) (hk : ∃ M' : xM, K v M1 = some (1, M')) : ∃ M' : xM, xb2 F K = some (1, M') := by
  rw [h, xb2_n]; exact hk
theorem ex_b1 {F : Option Int32} {v : Int32} {K : Int32 → Option (Int32 × xM)} (h : F = some v) (hk : ∃ M' : xM, K v = some (1, M')) : ∃ M' : xM, xb F K = some (1, M') := by
  rw [h, xb_n]; exact hk
theorem lw_c {L i : Nat} (hL : L ≤ 10000) (hi : i ≤ 10000) : (Int32.ofNat L - 7 < nI i) = (L < i + 7) := by
  have e : (Int32.ofNat L - 7 : Int32).toInt = (L : Int) - 7 := by
    have z : (7 : Int32).toInt = 7 := rfl
    have e0 : (Int32.ofNat L).toInt = L := nI_toInt (by omega)
    rw [Int32.toInt_sub, e0, z, Int.bmod_eq_of_le (by omega) (by omega)]
  have e2 := nI_toInt (n := i) (by omega)
  refine propext ⟨fun w => ?_, fun w => Int32.lt_iff_toInt_lt.mpr (by omega)⟩
  have := Int32.lt_iff_toInt_lt.mp w
  omega
set_option maxHeartbeats 2000000 in
theorem lw_step {ξ : xX} {M : xM} (hL : ξ.1 ≤ 3584) (hR : Rl M) {i : Nat} (hi : i + 7 ≤ ξ.1) (g : Nat) (nx : ∀ M2, Rl M2 → ∃ M' : xM, f_L_law_18 ξ g M2 (nI (i + 7)) = some (1, M')) : ∃ M' : xM, f_L_law_18 ξ (g + 1) M (nI i) = some (1, M') := by
  have nx2 : ∀ M2, Rl M2 → ∃ M' : xM, f_L_law_1573 ξ (f_L_law_18 ξ g) M2 (nI i) = some (1, M') := fun M2 h => by
    unfold f_L_law_1573
    rw [xl_n, ir_7]
    exact nx M2 h
  have x0 : xin (nI i) ξ.1 = true := xin_n (by omega) (by omega)
  have x1 : xin (nI i + 1) ξ.1 = true := by rw [ir_1]; exact xin_n (by omega) (by omega)
  have x2 : xin (nI i + 2) ξ.1 = true := by rw [ir_2]; exact xin_n (by omega) (by omega)
  have x3 : xin (nI i + 3) ξ.1 = true := by rw [ir_3]; exact xin_n (by omega) (by omega)
  have x4 : xin (nI i + 4) ξ.1 = true := by rw [ir_4]; exact xin_n (by omega) (by omega)
  have x5 : xin (nI i + 5) ξ.1 = true := by rw [ir_5]; exact xin_n (by omega) (by omega)
  have x6 : xin (nI i + 6) ξ.1 = true := by rw [ir_6]; exact xin_n (by omega) (by omega)
  have eq : ∀ (v : Int32) (M2 : xM), Rl M2 → ∃ M' : xM, (if v = v then f_L_law_1573 ξ (f_L_law_18 ξ g) M2 (nI i) else some (0, M2)) = some (1, M') := fun v M2 h => by
    rw [if_pos rfl]; exact nx2 M2 h
  rw [f_L_law_18]
  refine ex_if (fun w => ⟨M, rfl⟩) (fun _ => ?_)
  refine ex_gd x0 ?_
  refine ex_if (fun _ => ?_) (fun _ => ?_)
  · obtain ⟨v, M1, M2, h1, h2, h3⟩ := op_addCarrier hR (ξ.2 (nI i + 1).toNatClampNeg) (ξ.2 (nI i + 2).toNatClampNeg) (ξ.2 (nI i + 3).toNatClampNeg) (ξ.2 (nI i + 4).toNatClampNeg) (ξ.2 (nI i + 5).toNatClampNeg)
    exact ex_gd x1 (ex_gd x2 (ex_gd x3 (ex_gd x4 (ex_gd x5 (ex_b2 h1 (ex_gd x1 (ex_gd x2 (ex_gd x3 (ex_gd x4 (ex_gd x5 (ex_b2 h2 (eq v M2 h3))))))))))))
  refine ex_if (fun _ => ?_) (fun _ => ?_)
  · obtain ⟨v, M1, M2, h1, h2, h3⟩ := op_addMachine hR (ξ.2 (nI i + 1).toNatClampNeg) (ξ.2 (nI i + 2).toNatClampNeg) (ξ.2 (nI i + 3).toNatClampNeg) (ξ.2 (nI i + 4).toNatClampNeg)
    exact ex_gd x1 (ex_gd x2 (ex_gd x3 (ex_gd x4 (ex_b2 h1 (ex_gd x1 (ex_gd x2 (ex_gd x3 (ex_gd x4 (ex_b2 h2 (eq v M2 h3))))))))))
  refine ex_if (fun _ => ?_) (fun _ => ?_)
  · obtain ⟨v, M1, M2, h1, h2, h3⟩ := op_addRecording hR (ξ.2 (nI i + 1).toNatClampNeg) (ξ.2 (nI i + 2).toNatClampNeg) (ξ.2 (nI i + 3).toNatClampNeg) (ξ.2 (nI i + 4).toNatClampNeg)
    exact ex_gd x1 (ex_gd x2 (ex_gd x3 (ex_gd x4 (ex_b2 h1 (ex_gd x1 (ex_gd x2 (ex_gd x3 (ex_gd x4 (ex_b2 h2 (eq v M2 h3))))))))))
  refine ex_if (fun _ => ?_) (fun _ => ?_)
  · obtain ⟨v, M1, M2, h1, h2, h3⟩ := op_addPart hR (ξ.2 (nI i + 1).toNatClampNeg) (ξ.2 (nI i + 2).toNatClampNeg) (ξ.2 (nI i + 3).toNatClampNeg) (ξ.2 (nI i + 4).toNatClampNeg) (ξ.2 (nI i + 5).toNatClampNeg)
    exact ex_gd x1 (ex_gd x2 (ex_gd x3 (ex_gd x4 (ex_gd x5 (ex_b2 h1 (ex_gd x1 (ex_gd x2 (ex_gd x3 (ex_gd x4 (ex_gd x5 (ex_b2 h2 (eq v M2 h3))))))))))))
  refine ex_if (fun _ => ?_) (fun _ => ?_)
  · obtain ⟨v, M1, M2, h1, h2, h3⟩ := op_transfer hR (ξ.2 (nI i + 1).toNatClampNeg) (ξ.2 (nI i + 2).toNatClampNeg) (ξ.2 (nI i + 3).toNatClampNeg) (ξ.2 (nI i + 4).toNatClampNeg)
    exact ex_gd x1 (ex_gd x2 (ex_gd x3 (ex_gd x4 (ex_b2 h1 (ex_gd x1 (ex_gd x2 (ex_gd x3 (ex_gd x4 (ex_b2 h2 (eq v M2 h3))))))))))
  refine ex_if (fun _ => ?_) (fun _ => ?_)
  · obtain ⟨v, M1, M2, h1, h2, h3⟩ := op_permit hR (ξ.2 (nI i + 1).toNatClampNeg) (ξ.2 (nI i + 2).toNatClampNeg) (ξ.2 (nI i + 3).toNatClampNeg) (ξ.2 (nI i + 4).toNatClampNeg)
    exact ex_gd x1 (ex_gd x2 (ex_gd x3 (ex_gd x4 (ex_b2 h1 (ex_gd x1 (ex_gd x2 (ex_gd x3 (ex_gd x4 (ex_b2 h2 (eq v M2 h3))))))))))
  refine ex_if (fun _ => ?_) (fun _ => ?_)
  · obtain ⟨v, M1, M2, h1, h2, h3⟩ := op_revoke hR (ξ.2 (nI i + 1).toNatClampNeg)
    exact ex_gd x1 (ex_b2 h1 (ex_gd x1 (ex_b2 h2 (eq v M2 h3))))
  refine ex_if (fun _ => ?_) (fun _ => ?_)
  · obtain ⟨v, M1, M2, h1, h2, h3⟩ := op_request hR (ξ.2 (nI i + 1).toNatClampNeg) (ξ.2 (nI i + 2).toNatClampNeg) (ξ.2 (nI i + 3).toNatClampNeg) (ξ.2 (nI i + 4).toNatClampNeg) (ξ.2 (nI i + 5).toNatClampNeg) (ξ.2 (nI i + 6).toNatClampNeg)
    exact ex_gd x1 (ex_gd x2 (ex_gd x3 (ex_gd x4 (ex_gd x5 (ex_gd x6 (ex_b2 h1 (ex_gd x1 (ex_gd x2 (ex_gd x3 (ex_gd x4 (ex_gd x5 (ex_gd x6 (ex_b2 h2 (eq v M2 h3))))))))))))))
  refine ex_if (fun _ => ?_) (fun _ => ?_)
  · obtain ⟨v, M1, M2, h1, h2, h3⟩ := op_setDue hR (ξ.2 (nI i + 1).toNatClampNeg) (ξ.2 (nI i + 2).toNatClampNeg)
    exact ex_gd x1 (ex_gd x2 (ex_b2 h1 (ex_gd x1 (ex_gd x2 (ex_b2 h2 (eq v M2 h3))))))
  refine ex_if (fun _ => ?_) (fun _ => ?_)
  · obtain ⟨v, M1, M2, h1, h2, h3⟩ := op_withdraw hR (ξ.2 (nI i + 1).toNatClampNeg)
    exact ex_gd x1 (ex_b2 h1 (ex_gd x1 (ex_b2 h2 (eq v M2 h3))))
  refine ex_if (fun _ => ?_) (fun _ => ?_)
  · obtain ⟨v, M1, M2, h1, h2, h3⟩ := op_answer hR (ξ.2 (nI i + 1).toNatClampNeg)
    exact ex_gd x1 (ex_b2 h1 (ex_gd x1 (ex_b2 h2 (eq v M2 h3))))
  refine ex_if (fun _ => ?_) (fun _ => ?_)
  · obtain ⟨v, M1, M2, h1, h2, h3⟩ := op_passDays hR (ξ.2 (nI i + 1).toNatClampNeg)
    exact ex_gd x1 (ex_b2 h1 (ex_gd x1 (ex_b2 h2 (eq v M2 h3))))
  refine ex_if (fun _ => ?_) (fun _ => ?_)
  · obtain ⟨v, M1, M2, h1, h2, h3⟩ := op_append hR (ξ.2 (nI i + 1).toNatClampNeg)
    exact ex_gd x1 (ex_b2 h1 (ex_gd x1 (ex_b2 h2 (eq v M2 h3))))
  refine ex_if (fun _ => ?_) (fun _ => ?_)
  · obtain ⟨v, M1, M2, h1, h2, h3⟩ := op_clearText hR
    exact ex_b2 h1 (ex_b2 h2 (eq v M2 h3))
  refine ex_if (fun _ => ?_) (fun _ => ?_)
  · obtain ⟨v, M1, M2, h1, h2, h3⟩ := op_faultPosition hR
    exact ex_b2 h1 (ex_b2 h2 (eq v M2 h3))
  refine ex_if (fun _ => ?_) (fun _ => ?_)
  · obtain ⟨v, M1, M2, h1, h2, h3⟩ := op_run hR
    exact ex_b2 h1 (ex_b2 h2 (eq v M2 h3))
  refine ex_if (fun _ => ?_) (fun _ => ?_)
  · obtain ⟨v, M1, M2, h1, h2, h3⟩ := op_undo hR
    exact ex_b2 h1 (ex_b2 h2 (eq v M2 h3))
  refine ex_if (fun _ => ?_) (fun _ => ?_)
  · obtain ⟨v, M1, M2, h1, h2, h3⟩ := op_save hR (ξ.2 (nI i + 1).toNatClampNeg)
    exact ex_gd x1 (ex_b2 h1 (ex_gd x1 (ex_b2 h2 (eq v M2 h3))))
  refine ex_if (fun _ => ?_) (fun _ => ?_)
  · obtain ⟨v, M1, M2, h1, h2, h3⟩ := op_restore hR (ξ.2 (nI i + 1).toNatClampNeg)
    exact ex_gd x1 (ex_b2 h1 (ex_gd x1 (ex_b2 h2 (eq v M2 h3))))
  refine ex_if (fun _ => ?_) (fun _ => ?_)
  · obtain ⟨v, h1, h2⟩ := op_carrier hR (ξ.2 (nI i + 1).toNatClampNeg) (ξ.2 (nI i + 2).toNatClampNeg)
    exact ex_gd x1 (ex_gd x2 (ex_b1 h1 (ex_gd x1 (ex_gd x2 (ex_b1 h2 (eq v M hR))))))
  refine ex_if (fun _ => ?_) (fun _ => ?_)
  · obtain ⟨v, h1, h2⟩ := op_machine hR (ξ.2 (nI i + 1).toNatClampNeg) (ξ.2 (nI i + 2).toNatClampNeg)
    exact ex_gd x1 (ex_gd x2 (ex_b1 h1 (ex_gd x1 (ex_gd x2 (ex_b1 h2 (eq v M hR))))))
  refine ex_if (fun _ => ?_) (fun _ => ?_)
  · obtain ⟨v, h1, h2⟩ := op_recording hR (ξ.2 (nI i + 1).toNatClampNeg) (ξ.2 (nI i + 2).toNatClampNeg)
    exact ex_gd x1 (ex_gd x2 (ex_b1 h1 (ex_gd x1 (ex_gd x2 (ex_b1 h2 (eq v M hR))))))
  refine ex_if (fun _ => ?_) (fun _ => ?_)
  · obtain ⟨v, h1, h2⟩ := op_part hR (ξ.2 (nI i + 1).toNatClampNeg) (ξ.2 (nI i + 2).toNatClampNeg) (ξ.2 (nI i + 3).toNatClampNeg)
    exact ex_gd x1 (ex_gd x2 (ex_gd x3 (ex_b1 h1 (ex_gd x1 (ex_gd x2 (ex_gd x3 (ex_b1 h2 (eq v M hR))))))))
  refine ex_if (fun _ => ?_) (fun _ => ?_)
  · obtain ⟨v, h1, h2⟩ := op_pass hR (ξ.2 (nI i + 1).toNatClampNeg) (ξ.2 (nI i + 2).toNatClampNeg)
    exact ex_gd x1 (ex_gd x2 (ex_b1 h1 (ex_gd x1 (ex_gd x2 (ex_b1 h2 (eq v M hR))))))
  refine ex_if (fun _ => ?_) (fun _ => ?_)
  · obtain ⟨v, h1, h2⟩ := op_captured hR (ξ.2 (nI i + 1).toNatClampNeg) (ξ.2 (nI i + 2).toNatClampNeg)
    exact ex_gd x1 (ex_gd x2 (ex_b1 h1 (ex_gd x1 (ex_gd x2 (ex_b1 h2 (eq v M hR))))))
  refine ex_if (fun _ => ?_) (fun _ => ?_)
  · obtain ⟨v, h1, h2⟩ := op_quality hR (ξ.2 (nI i + 1).toNatClampNeg) (ξ.2 (nI i + 2).toNatClampNeg)
    exact ex_gd x1 (ex_gd x2 (ex_b1 h1 (ex_gd x1 (ex_gd x2 (ex_b1 h2 (eq v M hR))))))
  refine ex_if (fun _ => ?_) (fun _ => ?_)
  · obtain ⟨v, h1, h2⟩ := op_bestPass hR (ξ.2 (nI i + 1).toNatClampNeg)
    exact ex_gd x1 (ex_b1 h1 (ex_gd x1 (ex_b1 h2 (eq v M hR))))
  refine ex_if (fun _ => ?_) (fun _ => ?_)
  · obtain ⟨v, h1, h2⟩ := op_permission hR (ξ.2 (nI i + 1).toNatClampNeg) (ξ.2 (nI i + 2).toNatClampNeg)
    exact ex_gd x1 (ex_gd x2 (ex_b1 h1 (ex_gd x1 (ex_gd x2 (ex_b1 h2 (eq v M hR))))))
  refine ex_if (fun _ => ?_) (fun _ => ?_)
  · obtain ⟨v, h1, h2⟩ := op_requested hR (ξ.2 (nI i + 1).toNatClampNeg) (ξ.2 (nI i + 2).toNatClampNeg)
    exact ex_gd x1 (ex_gd x2 (ex_b1 h1 (ex_gd x1 (ex_gd x2 (ex_b1 h2 (eq v M hR))))))
  refine ex_if (fun _ => ?_) (fun _ => ?_)
  · obtain ⟨v, h1, h2⟩ := op_lacking hR (ξ.2 (nI i + 1).toNatClampNeg) (ξ.2 (nI i + 2).toNatClampNeg) (ξ.2 (nI i + 3).toNatClampNeg) (ξ.2 (nI i + 4).toNatClampNeg) (ξ.2 (nI i + 5).toNatClampNeg)
    exact ex_gd x1 (ex_gd x2 (ex_gd x3 (ex_gd x4 (ex_gd x5 (ex_b1 h1 (ex_gd x1 (ex_gd x2 (ex_gd x3 (ex_gd x4 (ex_gd x5 (ex_b1 h2 (eq v M hR))))))))))))
  refine ex_if (fun _ => ?_) (fun _ => ?_)
  · obtain ⟨v, h1, h2⟩ := op_fee hR (ξ.2 (nI i + 1).toNatClampNeg) (ξ.2 (nI i + 2).toNatClampNeg) (ξ.2 (nI i + 3).toNatClampNeg) (ξ.2 (nI i + 4).toNatClampNeg) (ξ.2 (nI i + 5).toNatClampNeg)
    exact ex_gd x1 (ex_gd x2 (ex_gd x3 (ex_gd x4 (ex_gd x5 (ex_b1 h1 (ex_gd x1 (ex_gd x2 (ex_gd x3 (ex_gd x4 (ex_gd x5 (ex_b1 h2 (eq v M hR))))))))))))
  refine ex_if (fun _ => ?_) (fun _ => ?_)
  · obtain ⟨v, h1, h2⟩ := op_income hR (ξ.2 (nI i + 1).toNatClampNeg)
    exact ex_gd x1 (ex_b1 h1 (ex_gd x1 (ex_b1 h2 (eq v M hR))))
  refine ex_if (fun _ => ?_) (fun _ => ?_)
  · obtain ⟨v, h1, h2⟩ := op_paid hR (ξ.2 (nI i + 1).toNatClampNeg)
    exact ex_gd x1 (ex_b1 h1 (ex_gd x1 (ex_b1 h2 (eq v M hR))))
  refine ex_if (fun _ => ?_) (fun _ => ?_)
  · obtain ⟨v, h1, h2⟩ := op_next hR (ξ.2 (nI i + 1).toNatClampNeg)
    exact ex_gd x1 (ex_b1 h1 (ex_gd x1 (ex_b1 h2 (eq v M hR))))
  refine ex_if (fun _ => ?_) (fun _ => ?_)
  · obtain ⟨v, h1, h2⟩ := op_total hR (ξ.2 (nI i + 1).toNatClampNeg)
    exact ex_gd x1 (ex_b1 h1 (ex_gd x1 (ex_b1 h2 (eq v M hR))))
  refine ex_if (fun _ => ?_) (fun _ => ?_)
  · obtain ⟨v, h1, h2⟩ := op_heard hR (ξ.2 (nI i + 1).toNatClampNeg) (ξ.2 (nI i + 2).toNatClampNeg) (ξ.2 (nI i + 3).toNatClampNeg) (ξ.2 (nI i + 4).toNatClampNeg) (ξ.2 (nI i + 5).toNatClampNeg)
    exact ex_gd x1 (ex_gd x2 (ex_gd x3 (ex_gd x4 (ex_gd x5 (ex_b1 h1 (ex_gd x1 (ex_gd x2 (ex_gd x3 (ex_gd x4 (ex_gd x5 (ex_b1 h2 (eq v M hR))))))))))))
  refine ex_if (fun _ => ?_) (fun _ => ?_)
  · obtain ⟨v, h1, h2⟩ := op_duration hR (ξ.2 (nI i + 1).toNatClampNeg) (ξ.2 (nI i + 2).toNatClampNeg)
    exact ex_gd x1 (ex_gd x2 (ex_b1 h1 (ex_gd x1 (ex_gd x2 (ex_b1 h2 (eq v M hR))))))
  refine ex_if (fun _ => ?_) (fun _ => ?_)
  · obtain ⟨v, M1, M2, h1, h2, h3⟩ := op_planned hR (ξ.2 (nI i + 1).toNatClampNeg) (ξ.2 (nI i + 2).toNatClampNeg)
    exact ex_gd x1 (ex_gd x2 (ex_b2 h1 (ex_gd x1 (ex_gd x2 (ex_b2 h2 (eq v M2 h3))))))
  refine ex_if (fun _ => ?_) (fun _ => ?_)
  · obtain ⟨v, M1, M2, h1, h2, h3⟩ := op_fewestPasses hR (ξ.2 (nI i + 1).toNatClampNeg) (ξ.2 (nI i + 2).toNatClampNeg)
    exact ex_gd x1 (ex_gd x2 (ex_b2 h1 (ex_gd x1 (ex_gd x2 (ex_b2 h2 (eq v M2 h3))))))
  exact nx2 M hR
/-- what the pure functions give: the law's loop answers 1 -/
theorem law_pure (ξ : xX) (hL : ξ.1 ≤ 3584) : ∃ M' : xM, f_L_law_18 ξ xFU (mOf cL_92) 0 = some (1, M') := by
  have key : ∀ (d i fu : Nat) (M : xM), ξ.1 < i + d → i ≤ 4000 → d < fu → Rl M → ∃ M' : xM, f_L_law_18 ξ fu M (nI i) = some (1, M') := by
    intro d
    induction d with
    | zero =>
      intro i fu M e1 e2 e3 hR
      obtain ⟨g, rfl⟩ : ∃ g, fu = g + 1 := ⟨fu - 1, by omega⟩
      exact ⟨M, by rw [f_L_law_18, if_pos (by rw [lw_c (by omega) (by omega)]; omega)]⟩
    | succ d ih =>
      intro i fu M e1 e2 e3 hR
      obtain ⟨g, rfl⟩ : ∃ g, fu = g + 1 := ⟨fu - 1, by omega⟩
      by_cases q : ξ.1 < i + 7
      · exact ⟨M, by rw [f_L_law_18, if_pos (by rw [lw_c (by omega) (by omega)]; omega)]⟩
      · exact lw_step hL hR (by omega) g (fun M2 h => ih (i + 7) g M2 (by omega) (by omega) (by omega) h)
  exact key (ξ.1 + 1) 0 xFU (mOf cL_92) (by omega) (by omega) (by unfold xFU; omega) Rl_0
