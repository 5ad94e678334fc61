def f_X8_bestPass (M : xM) (a1 : Int32) : Option Int32 :=
  xb (f_X6_has 6 7 96 M a1) fun v1 =>
  if v1 = 0 then (
    some (-1))
  else (
    xb (f_X8_findBestPass M a1) fun v2 =>
    some v2)
set_option maxHeartbeats 1000000 in
theorem x_X8_bestPass {ξ : xX} {M : xM} {a1 : Int32} {z : Int32} (h : f_X8_bestPass M a1 = some z) : X ξ mX8_bestPass 0 [.ref 0, .int a1] [] SH M 0 0 (xr (some (.int z)) SH M) := by
  rw [f_X8_bestPass] at h
  refine X_aload_n (x := 0) dX8_bestPass_0 rfl ?_
  refine X_get (v := .ref 1) kF_RX8_10 sh_0 rfl rfl dX8_bestPass_1 ?_
  refine X_get (v := .ref 6) kF_RX8_109 sh_1 rfl rfl dX8_bestPass_4 ?_
  refine X_iload_n (x := a1) dX8_bestPass_7 rfl ?_
  refine X_vP (μ' := mX6_has) [.int a1] [] kL_RX8_94 kM_X6_has rv_6 rfl rfl rfl dX8_bestPass_8 h (fun _ hv => x_X6_has xT_6 hv) (fun v1 h => ?_)
  refine X_if_eq 22 dX8_bestPass_11 (by decide) h (fun h => ?_) (fun h => ?_)
  · refine X_iconst (-1) dX8_bestPass_22 rfl ?_
    exact X_retP dX8_bestPass_23 rfl (Nat.le_refl _) (Nat.le_refl _) h
  · refine X_aload_n (x := 0) dX8_bestPass_14 rfl ?_
    refine X_iload_n (x := a1) dX8_bestPass_15 rfl ?_
    refine X_vP (μ' := mX8_findBestPass) [.int a1] [] kL_RX8_224 kM_X8_findBestPass rv_0 rfl rfl rfl dX8_bestPass_16 h (fun _ hv => x_X8_findBestPass hv) (fun v2 h => ?_)
    refine X_goto 23 dX8_bestPass_19 (by decide) ?_
    exact X_retP dX8_bestPass_23 rfl (Nat.le_refl _) (Nat.le_refl _) h
def f_X8_requested (M : xM) (a1 a2 : Int32) : Option Int32 :=
  xb (f_X8_look 14 15 160 M a1 a2 10) fun v1 =>
  some v1
set_option maxHeartbeats 1000000 in
theorem x_X8_requested {ξ : xX} {M : xM} {a1 a2 : Int32} {z : Int32} (h : f_X8_requested M a1 a2 = some z) : X ξ mX8_requested 0 [.ref 0, .int a1, .int a2] [] SH M 0 0 (xr (some (.int z)) SH M) := by
  rw [f_X8_requested] at h
  refine X_aload_n (x := 0) dX8_requested_0 rfl ?_
  refine X_get (v := .ref 1) kF_RX8_10 sh_0 rfl rfl dX8_requested_1 ?_
  refine X_get (v := .ref 14) kF_RX8_148 sh_1 rfl rfl dX8_requested_4 ?_
  refine X_iload_n (x := a1) dX8_requested_7 rfl ?_
  refine X_iload_n (x := a2) dX8_requested_8 rfl ?_
  refine X_bipush 10 dX8_requested_9 rfl ?_
  refine X_sP (μ' := mX8_look) [.ref 14, .int a1, .int a2, .int 10] [] kL_RX8_208 kM_X8_look rfl rfl rfl dX8_requested_11 h (fun _ hv => x_X8_look xT_14 hv) (fun v1 h => ?_)
  exact X_retP dX8_requested_14 rfl (Nat.le_refl _) (Nat.le_refl _) h
def f_X8_lacking (M : xM) (a1 a2 a3 a4 a5 : Int32) : Option Int32 :=
  xb (f_X8_errorOfExcerpt M a1 a2 a3 a4 a5) fun v2 =>
  xl v2 fun v3 =>
  if v3 = 0 then (
    xb (f_X8_partsLacking M a1 a2 a3 a4 a5) fun v4 =>
    some v4)
  else (
    some v3)
set_option maxHeartbeats 1000000 in
theorem x_X8_lacking {ξ : xX} {M : xM} {a1 a2 a3 a4 a5 : Int32} {z : Int32} (h : f_X8_lacking M a1 a2 a3 a4 a5 = some z) : X ξ mX8_lacking 0 [.ref 0, .int a1, .int a2, .int a3, .int a4, .int a5] [] SH M 0 0 (xr (some (.int z)) SH M) := by
  rw [f_X8_lacking] at h
  refine X_aload_n (x := 0) dX8_lacking_0 rfl ?_
  refine X_iload_n (x := a1) dX8_lacking_1 rfl ?_
  refine X_iload_n (x := a2) dX8_lacking_2 rfl ?_
  refine X_iload_n (x := a3) dX8_lacking_3 rfl ?_
  refine X_iload (x := a4) dX8_lacking_4 rfl ?_
  refine X_iload (x := a5) dX8_lacking_6 rfl ?_
  refine X_vP (μ' := mX8_errorOfExcerpt) [.int a1, .int a2, .int a3, .int a4, .int a5] [] kL_RX8_144 kM_X8_errorOfExcerpt rv_0 rfl rfl rfl dX8_lacking_8 h (fun _ hv => x_X8_errorOfExcerpt hv) (fun v2 h => ?_)
  refine X_istoreL (fun v3 => [.ref 0, .int a1, .int a2, .int a3, .int a4, .int a5, .int v3]) dX8_lacking_11 (Nat.le_of_ble_eq_true rfl) (Nat.le_of_ble_eq_true rfl) (xcat1_of rfl) h (fun _ => rfl) (fun v3 h => ?_)
  refine X_iload (x := v3) dX8_lacking_13 rfl ?_
  refine X_if_eq 23 dX8_lacking_15 (by decide) h (fun h => ?_) (fun h => ?_)
  · refine X_aload_n (x := 0) dX8_lacking_23 rfl ?_
    refine X_iload_n (x := a1) dX8_lacking_24 rfl ?_
    refine X_iload_n (x := a2) dX8_lacking_25 rfl ?_
    refine X_iload_n (x := a3) dX8_lacking_26 rfl ?_
    refine X_iload (x := a4) dX8_lacking_27 rfl ?_
    refine X_iload (x := a5) dX8_lacking_29 rfl ?_
    refine X_vP (μ' := mX8_partsLacking) [.int a1, .int a2, .int a3, .int a4, .int a5] [] kL_RX8_227 kM_X8_partsLacking rv_0 rfl rfl rfl dX8_lacking_31 h (fun _ hv => x_X8_partsLacking hv) (fun v4 h => ?_)
    exact X_retP dX8_lacking_34 rfl (Nat.le_refl _) (Nat.le_refl _) h
  · refine X_iload (x := v3) dX8_lacking_18 rfl ?_
    refine X_goto 34 dX8_lacking_20 (by decide) ?_
    exact X_retP dX8_lacking_34 rfl (Nat.le_refl _) (Nat.le_refl _) h
def f_X8_feeOfExcerpt_6 (M : xM) : Nat → Int32 → Int32 → Int32 → Int32 → Int32 → Int32 → Int32 → Option Int32
  | 0, _, _, _, _, _, _, _ => none
  | fu + 1, i1, i2, i3, i4, i5, i6, i7 =>
    xb (f_X6_get 6 7 96 M i2 5) fun v5 =>
    if v5 ≤ i7 then (
      some i6)
    else (
      xb (f_X8_rowOfPart i2 i7) fun v6 =>
      xb (f_X8_feeOfPart M v6 i1 i3 i4 i5) fun v7 =>
      xl (i6 + v7) fun v8 =>
      xl (i7 + 1) fun v9 =>
      (f_X8_feeOfExcerpt_6 M fu) i1 i2 i3 i4 i5 v8 v9)
set_option maxHeartbeats 1000000 in
theorem x_X8_feeOfExcerpt_6 {ξ : xX} {M : xM} : ∀ (fu : Nat) (i1 i2 i3 i4 i5 i6 i7 : Int32) (z : Int32), f_X8_feeOfExcerpt_6 M fu i1 i2 i3 i4 i5 i6 i7 = some z → X ξ mX8_feeOfExcerpt 6 [.ref 0, .int i1, .int i2, .int i3, .int i4, .int i5, .int i6, .int i7] [] SH M 0 0 (xr (some (.int z)) SH M) := by
  intro fu
  induction fu with
  | zero => intro i1 i2 i3 i4 i5 i6 i7 z h; rw [f_X8_feeOfExcerpt_6] at h; cases h
  | succ fu ih =>
    intro i1 i2 i3 i4 i5 i6 i7 z h
    rw [f_X8_feeOfExcerpt_6] at h
    refine X_iload (x := i7) dX8_feeOfExcerpt_6 rfl ?_
    refine X_aload_n (x := 0) dX8_feeOfExcerpt_8 rfl ?_
    refine X_get (v := .ref 1) kF_RX8_10 sh_0 rfl rfl dX8_feeOfExcerpt_9 ?_
    refine X_get (v := .ref 6) kF_RX8_109 sh_1 rfl rfl dX8_feeOfExcerpt_12 ?_
    refine X_iload_n (x := i2) dX8_feeOfExcerpt_15 rfl ?_
    refine X_iconst 5 dX8_feeOfExcerpt_16 rfl ?_
    refine X_vP (μ' := mX6_get) [.int i2, .int 5] [.int i7] kL_RX8_98 kM_X6_get rv_6 rfl rfl rfl dX8_feeOfExcerpt_17 h (fun _ hv => x_X6_get xT_6 hv) (fun v5 h => ?_)
    refine X_icmp_ge 50 dX8_feeOfExcerpt_20 (by decide) h (fun h => ?_) (fun h => ?_)
    · refine X_iload (x := i6) dX8_feeOfExcerpt_50 rfl ?_
      exact X_retP dX8_feeOfExcerpt_52 rfl (Nat.le_refl _) (Nat.le_refl _) h
    · refine X_iload (x := i6) dX8_feeOfExcerpt_23 rfl ?_
      refine X_aload_n (x := 0) dX8_feeOfExcerpt_25 rfl ?_
      refine X_iload_n (x := i2) dX8_feeOfExcerpt_26 rfl ?_
      refine X_iload (x := i7) dX8_feeOfExcerpt_27 rfl ?_
      refine X_sP (μ' := mX8_rowOfPart) [.int i2, .int i7] [.ref 0, .int i6] kL_RX8_125 kM_X8_rowOfPart rfl rfl rfl dX8_feeOfExcerpt_29 h (fun _ hv => x_X8_rowOfPart hv) (fun v6 h => ?_)
      refine X_iload_n (x := i1) dX8_feeOfExcerpt_32 rfl ?_
      refine X_iload_n (x := i3) dX8_feeOfExcerpt_33 rfl ?_
      refine X_iload (x := i4) dX8_feeOfExcerpt_34 rfl ?_
      refine X_iload (x := i5) dX8_feeOfExcerpt_36 rfl ?_
      refine X_vP (μ' := mX8_feeOfPart) [.int v6, .int i1, .int i3, .int i4, .int i5] [.int i6] kL_RX8_301 kM_X8_feeOfPart rv_0 rfl rfl rfl dX8_feeOfExcerpt_38 h (fun _ hv => x_X8_feeOfPart hv) (fun v7 h => ?_)
      refine X_iadd dX8_feeOfExcerpt_41 ?_
      refine X_istoreL (fun v8 => [.ref 0, .int i1, .int i2, .int i3, .int i4, .int i5, .int v8, .int i7]) dX8_feeOfExcerpt_42 (Nat.le_of_ble_eq_true rfl) (Nat.le_of_ble_eq_true rfl) (xcat1_of rfl) h (fun _ => rfl) (fun v8 h => ?_)
      refine X_iincL (x := i7) 1 (fun v9 => [.ref 0, .int i1, .int i2, .int i3, .int i4, .int i5, .int v8, .int v9]) dX8_feeOfExcerpt_44 rfl rfl (Nat.le_of_ble_eq_true rfl) (xcat1_of rfl) h (fun _ => rfl) (fun v9 h => ?_)
      refine X_goto 6 dX8_feeOfExcerpt_47 (by decide) ?_
      exact ih _ _ _ _ _ _ _ _ h
def f_X8_feeOfExcerpt (M : xM) (a1 a2 a3 a4 a5 : Int32) : Option Int32 :=
  xl (0 : Int32) fun v10 =>
  xl (0 : Int32) fun v11 =>
  f_X8_feeOfExcerpt_6 M xFU a1 a2 a3 a4 a5 v10 v11
set_option maxHeartbeats 1000000 in
theorem x_X8_feeOfExcerpt {ξ : xX} {M : xM} {a1 a2 a3 a4 a5 : Int32} {z : Int32} (h : f_X8_feeOfExcerpt M a1 a2 a3 a4 a5 = some z) : X ξ mX8_feeOfExcerpt 0 [.ref 0, .int a1, .int a2, .int a3, .int a4, .int a5] [] SH M 0 0 (xr (some (.int z)) SH M) := by
  rw [f_X8_feeOfExcerpt] at h
  refine X_iconst 0 dX8_feeOfExcerpt_0 rfl ?_
  refine X_istoreL (fun v10 => [.ref 0, .int a1, .int a2, .int a3, .int a4, .int a5, .int v10]) dX8_feeOfExcerpt_1 (Nat.le_of_ble_eq_true rfl) (Nat.le_of_ble_eq_true rfl) (xcat1_of rfl) h (fun _ => rfl) (fun v10 h => ?_)
  refine X_iconst 0 dX8_feeOfExcerpt_3 rfl ?_
  refine X_istoreL (fun v11 => [.ref 0, .int a1, .int a2, .int a3, .int a4, .int a5, .int v10, .int v11]) dX8_feeOfExcerpt_4 (Nat.le_of_ble_eq_true rfl) (Nat.le_of_ble_eq_true rfl) (xcat1_of rfl) h (fun _ => rfl) (fun v11 h => ?_)
  exact x_X8_feeOfExcerpt_6 _ _ _ _ _ _ _ _ _ h
def f_X8_fee (M : xM) (a1 a2 a3 a4 a5 : Int32) : Option Int32 :=
  xb (f_X8_errorOfExcerpt M a1 a2 a3 a4 a5) fun v2 =>
  xl v2 fun v3 =>
  if v3 = 0 then (
    xb (f_X8_feeOfExcerpt M a1 a2 a3 a4 a5) fun v4 =>
    some v4)
  else (
    some v3)
set_option maxHeartbeats 1000000 in
theorem x_X8_fee {ξ : xX} {M : xM} {a1 a2 a3 a4 a5 : Int32} {z : Int32} (h : f_X8_fee M a1 a2 a3 a4 a5 = some z) : X ξ mX8_fee 0 [.ref 0, .int a1, .int a2, .int a3, .int a4, .int a5] [] SH M 0 0 (xr (some (.int z)) SH M) := by
  rw [f_X8_fee] at h
  refine X_aload_n (x := 0) dX8_fee_0 rfl ?_
  refine X_iload_n (x := a1) dX8_fee_1 rfl ?_
  refine X_iload_n (x := a2) dX8_fee_2 rfl ?_
  refine X_iload_n (x := a3) dX8_fee_3 rfl ?_
  refine X_iload (x := a4) dX8_fee_4 rfl ?_
  refine X_iload (x := a5) dX8_fee_6 rfl ?_
  refine X_vP (μ' := mX8_errorOfExcerpt) [.int a1, .int a2, .int a3, .int a4, .int a5] [] kL_RX8_144 kM_X8_errorOfExcerpt rv_0 rfl rfl rfl dX8_fee_8 h (fun _ hv => x_X8_errorOfExcerpt hv) (fun v2 h => ?_)
  refine X_istoreL (fun v3 => [.ref 0, .int a1, .int a2, .int a3, .int a4, .int a5, .int v3]) dX8_fee_11 (Nat.le_of_ble_eq_true rfl) (Nat.le_of_ble_eq_true rfl) (xcat1_of rfl) h (fun _ => rfl) (fun v3 h => ?_)
  refine X_iload (x := v3) dX8_fee_13 rfl ?_
  refine X_if_eq 23 dX8_fee_15 (by decide) h (fun h => ?_) (fun h => ?_)
  · refine X_aload_n (x := 0) dX8_fee_23 rfl ?_
    refine X_iload_n (x := a1) dX8_fee_24 rfl ?_
    refine X_iload_n (x := a2) dX8_fee_25 rfl ?_
    refine X_iload_n (x := a3) dX8_fee_26 rfl ?_
    refine X_iload (x := a4) dX8_fee_27 rfl ?_
    refine X_iload (x := a5) dX8_fee_29 rfl ?_
    refine X_vP (μ' := mX8_feeOfExcerpt) [.int a1, .int a2, .int a3, .int a4, .int a5] [] kL_RX8_230 kM_X8_feeOfExcerpt rv_0 rfl rfl rfl dX8_fee_31 h (fun _ hv => x_X8_feeOfExcerpt hv) (fun v4 h => ?_)
    exact X_retP dX8_fee_34 rfl (Nat.le_refl _) (Nat.le_refl _) h
  · refine X_iload (x := v3) dX8_fee_18 rfl ?_
    refine X_goto 34 dX8_fee_20 (by decide) ?_
    exact X_retP dX8_fee_34 rfl (Nat.le_refl _) (Nat.le_refl _) h
def f_X8_income (M : xM) (a1 : Int32) : Option Int32 :=
  xb (f_X8_isPerson a1) fun v1 =>
  if v1 = 0 then (
    some (-2))
  else (
    xb (f_X6_get 16 17 16 M a1 0) fun v2 =>
    some v2)
set_option maxHeartbeats 1000000 in
theorem x_X8_income {ξ : xX} {M : xM} {a1 : Int32} {z : Int32} (h : f_X8_income M a1 = some z) : X ξ mX8_income 0 [.ref 0, .int a1] [] SH M 0 0 (xr (some (.int z)) SH M) := by
  rw [f_X8_income] at h
  refine X_iload_n (x := a1) dX8_income_0 rfl ?_
  refine X_sP (μ' := mX8_isPerson) [.int a1] [] kL_RX8_122 kM_X8_isPerson rfl rfl rfl dX8_income_1 h (fun _ hv => x_X8_isPerson hv) (fun v1 h => ?_)
  refine X_if_eq 22 dX8_income_4 (by decide) h (fun h => ?_) (fun h => ?_)
  · refine X_bipush (-2) dX8_income_22 rfl ?_
    exact X_retP dX8_income_24 rfl (Nat.le_refl _) (Nat.le_refl _) h
  · refine X_aload_n (x := 0) dX8_income_7 rfl ?_
    refine X_get (v := .ref 1) kF_RX8_10 sh_0 rfl rfl dX8_income_8 ?_
    refine X_get (v := .ref 16) kF_RX8_233 sh_1 rfl rfl dX8_income_11 ?_
    refine X_iload_n (x := a1) dX8_income_14 rfl ?_
    refine X_iconst 0 dX8_income_15 rfl ?_
    refine X_vP (μ' := mX6_get) [.int a1, .int 0] [] kL_RX8_98 kM_X6_get rv_16 rfl rfl rfl dX8_income_16 h (fun _ hv => x_X6_get xT_16 hv) (fun v2 h => ?_)
    refine X_goto 24 dX8_income_19 (by decide) ?_
    exact X_retP dX8_income_24 rfl (Nat.le_refl _) (Nat.le_refl _) h
def f_X8_paid (M : xM) (a1 : Int32) : Option Int32 :=
  xb (f_X8_isPerson a1) fun v1 =>
  if v1 = 0 then (
    some (-2))
  else (
    xb (f_X6_get 16 17 16 M a1 1) fun v2 =>
    some v2)
set_option maxHeartbeats 1000000 in
theorem x_X8_paid {ξ : xX} {M : xM} {a1 : Int32} {z : Int32} (h : f_X8_paid M a1 = some z) : X ξ mX8_paid 0 [.ref 0, .int a1] [] SH M 0 0 (xr (some (.int z)) SH M) := by
  rw [f_X8_paid] at h
  refine X_iload_n (x := a1) dX8_paid_0 rfl ?_
  refine X_sP (μ' := mX8_isPerson) [.int a1] [] kL_RX8_122 kM_X8_isPerson rfl rfl rfl dX8_paid_1 h (fun _ hv => x_X8_isPerson hv) (fun v1 h => ?_)
  refine X_if_eq 22 dX8_paid_4 (by decide) h (fun h => ?_) (fun h => ?_)
  · refine X_bipush (-2) dX8_paid_22 rfl ?_
    exact X_retP dX8_paid_24 rfl (Nat.le_refl _) (Nat.le_refl _) h
  · refine X_aload_n (x := 0) dX8_paid_7 rfl ?_
    refine X_get (v := .ref 1) kF_RX8_10 sh_0 rfl rfl dX8_paid_8 ?_
    refine X_get (v := .ref 16) kF_RX8_233 sh_1 rfl rfl dX8_paid_11 ?_
    refine X_iload_n (x := a1) dX8_paid_14 rfl ?_
    refine X_iconst 1 dX8_paid_15 rfl ?_
    refine X_vP (μ' := mX6_get) [.int a1, .int 1] [] kL_RX8_98 kM_X6_get rv_16 rfl rfl rfl dX8_paid_16 h (fun _ hv => x_X6_get xT_16 hv) (fun v2 h => ?_)
    refine X_goto 24 dX8_paid_19 (by decide) ?_
    exact X_retP dX8_paid_24 rfl (Nat.le_refl _) (Nat.le_refl _) h
def f_X8_comesBefore (M : xM) (a1 a2 : Int32) : Option Int32 :=
  xb (f_X6_get 14 15 160 M a1 7) fun v4 =>
  xb (f_X6_get 14 15 160 M a2 7) fun v5 =>
  xl (v4 - v5) fun v6 =>
  if v6 = 0 then (
    xb (f_X6_get 14 15 160 M a1 5) fun v7 =>
    xb (f_X6_get 14 15 160 M a2 5) fun v8 =>
    xl (v7 - v8) fun v9 =>
    if v9 = 0 then (
      xb (f_X6_get 14 15 160 M a1 6) fun v10 =>
      xb (f_X6_get 14 15 160 M a2 6) fun v11 =>
      xl (v10 - v11) fun v12 =>
      if v12 = 0 then (
        if a2 ≤ a1 then (
          some 0)
        else (
          some 1))
      else (
        if v12 ≤ 0 then (
          some 0)
        else (
          some 1)))
    else (
      if v9 ≤ 0 then (
        some 0)
      else (
        some 1)))
  else (
    if 0 ≤ v6 then (
      some 0)
    else (
      some 1))
set_option maxHeartbeats 1000000 in
theorem x_X8_comesBefore {ξ : xX} {M : xM} {a1 a2 : Int32} {z : Int32} (h : f_X8_comesBefore M a1 a2 = some z) : X ξ mX8_comesBefore 0 [.ref 0, .int a1, .int a2] [] SH M 0 0 (xr (some (.int z)) SH M) := by
  rw [f_X8_comesBefore] at h
  refine X_aload_n (x := 0) dX8_comesBefore_0 rfl ?_
  refine X_get (v := .ref 1) kF_RX8_10 sh_0 rfl rfl dX8_comesBefore_1 ?_
  refine X_get (v := .ref 14) kF_RX8_148 sh_1 rfl rfl dX8_comesBefore_4 ?_
  refine X_iload_n (x := a1) dX8_comesBefore_7 rfl ?_
  refine X_bipush 7 dX8_comesBefore_8 rfl ?_
  refine X_vP (μ' := mX6_get) [.int a1, .int 7] [] kL_RX8_98 kM_X6_get rv_14 rfl rfl rfl dX8_comesBefore_10 h (fun _ hv => x_X6_get xT_14 hv) (fun v4 h => ?_)
  refine X_aload_n (x := 0) dX8_comesBefore_13 rfl ?_
  refine X_get (v := .ref 1) kF_RX8_10 sh_0 rfl rfl dX8_comesBefore_14 ?_
  refine X_get (v := .ref 14) kF_RX8_148 sh_1 rfl rfl dX8_comesBefore_17 ?_
  refine X_iload_n (x := a2) dX8_comesBefore_20 rfl ?_
  refine X_bipush 7 dX8_comesBefore_21 rfl ?_
  refine X_vP (μ' := mX6_get) [.int a2, .int 7] [.int v4] kL_RX8_98 kM_X6_get rv_14 rfl rfl rfl dX8_comesBefore_23 h (fun _ hv => x_X6_get xT_14 hv) (fun v5 h => ?_)
  refine X_isub dX8_comesBefore_26 ?_
  refine X_istoreL_n (fun v6 => [.ref 0, .int a1, .int a2, .int v6]) dX8_comesBefore_27 (Nat.le_of_ble_eq_true rfl) (Nat.le_of_ble_eq_true rfl) (xcat1_of rfl) h (fun _ => rfl) (fun v6 h => ?_)
  refine X_iload_n (x := v6) dX8_comesBefore_28 rfl ?_
  refine X_if_eq 42 dX8_comesBefore_29 (by decide) h (fun h => ?_) (fun h => ?_)
  · refine X_aload_n (x := 0) dX8_comesBefore_42 rfl ?_
    refine X_get (v := .ref 1) kF_RX8_10 sh_0 rfl rfl dX8_comesBefore_43 ?_
    refine X_get (v := .ref 14) kF_RX8_148 sh_1 rfl rfl dX8_comesBefore_46 ?_
    refine X_iload_n (x := a1) dX8_comesBefore_49 rfl ?_
    refine X_iconst 5 dX8_comesBefore_50 rfl ?_
    refine X_vP (μ' := mX6_get) [.int a1, .int 5] [] kL_RX8_98 kM_X6_get rv_14 rfl rfl rfl dX8_comesBefore_51 h (fun _ hv => x_X6_get xT_14 hv) (fun v7 h => ?_)
    refine X_aload_n (x := 0) dX8_comesBefore_54 rfl ?_
    refine X_get (v := .ref 1) kF_RX8_10 sh_0 rfl rfl dX8_comesBefore_55 ?_
    refine X_get (v := .ref 14) kF_RX8_148 sh_1 rfl rfl dX8_comesBefore_58 ?_
    refine X_iload_n (x := a2) dX8_comesBefore_61 rfl ?_
    refine X_iconst 5 dX8_comesBefore_62 rfl ?_
    refine X_vP (μ' := mX6_get) [.int a2, .int 5] [.int v7] kL_RX8_98 kM_X6_get rv_14 rfl rfl rfl dX8_comesBefore_63 h (fun _ hv => x_X6_get xT_14 hv) (fun v8 h => ?_)
    refine X_isub dX8_comesBefore_66 ?_
    refine X_istoreL (fun v9 => [.ref 0, .int a1, .int a2, .int v6, .int v9]) dX8_comesBefore_67 (Nat.le_of_ble_eq_true rfl) (Nat.le_of_ble_eq_true rfl) (xcat1_of rfl) h (fun _ => rfl) (fun v9 h => ?_)
    refine X_iload (x := v9) dX8_comesBefore_69 rfl ?_
    refine X_if_eq 85 dX8_comesBefore_71 (by decide) h (fun h => ?_) (fun h => ?_)
    · refine X_aload_n (x := 0) dX8_comesBefore_85 rfl ?_
      refine X_get (v := .ref 1) kF_RX8_10 sh_0 rfl rfl dX8_comesBefore_86 ?_
      refine X_get (v := .ref 14) kF_RX8_148 sh_1 rfl rfl dX8_comesBefore_89 ?_
      refine X_iload_n (x := a1) dX8_comesBefore_92 rfl ?_
      refine X_bipush 6 dX8_comesBefore_93 rfl ?_
      refine X_vP (μ' := mX6_get) [.int a1, .int 6] [] kL_RX8_98 kM_X6_get rv_14 rfl rfl rfl dX8_comesBefore_95 h (fun _ hv => x_X6_get xT_14 hv) (fun v10 h => ?_)
      refine X_aload_n (x := 0) dX8_comesBefore_98 rfl ?_
      refine X_get (v := .ref 1) kF_RX8_10 sh_0 rfl rfl dX8_comesBefore_99 ?_
      refine X_get (v := .ref 14) kF_RX8_148 sh_1 rfl rfl dX8_comesBefore_102 ?_
      refine X_iload_n (x := a2) dX8_comesBefore_105 rfl ?_
      refine X_bipush 6 dX8_comesBefore_106 rfl ?_
      refine X_vP (μ' := mX6_get) [.int a2, .int 6] [.int v10] kL_RX8_98 kM_X6_get rv_14 rfl rfl rfl dX8_comesBefore_108 h (fun _ hv => x_X6_get xT_14 hv) (fun v11 h => ?_)
      refine X_isub dX8_comesBefore_111 ?_
      refine X_istoreL (fun v12 => [.ref 0, .int a1, .int a2, .int v6, .int v9, .int v12]) dX8_comesBefore_112 (Nat.le_of_ble_eq_true rfl) (Nat.le_of_ble_eq_true rfl) (xcat1_of rfl) h (fun _ => rfl) (fun v12 h => ?_)
      refine X_iload (x := v12) dX8_comesBefore_114 rfl ?_
      refine X_if_eq 132 dX8_comesBefore_116 (by decide) h (fun h => ?_) (fun h => ?_)
      · refine X_iload_n (x := a1) dX8_comesBefore_132 rfl ?_
        refine X_iload_n (x := a2) dX8_comesBefore_133 rfl ?_
        refine X_icmp_ge 141 dX8_comesBefore_134 (by decide) h (fun h => ?_) (fun h => ?_)
        · refine X_iconst 0 dX8_comesBefore_141 rfl ?_
          exact X_retLP (by decide) dX8_comesBefore_142 rfl (Nat.le_refl _) (Nat.le_refl _) h
        · refine X_iconst 1 dX8_comesBefore_137 rfl ?_
          refine X_goto 142 dX8_comesBefore_138 (by decide) ?_
          exact X_retLP (by decide) dX8_comesBefore_142 rfl (Nat.le_refl _) (Nat.le_refl _) h
      · refine X_iload (x := v12) dX8_comesBefore_119 rfl ?_
        refine X_if_le 128 dX8_comesBefore_121 (by decide) h (fun h => ?_) (fun h => ?_)
        · refine X_iconst 0 dX8_comesBefore_128 rfl ?_
          refine X_goto 142 dX8_comesBefore_129 (by decide) ?_
          exact X_retLP (by decide) dX8_comesBefore_142 rfl (Nat.le_refl _) (Nat.le_refl _) h
        · refine X_iconst 1 dX8_comesBefore_124 rfl ?_
          refine X_goto 142 dX8_comesBefore_125 (by decide) ?_
          exact X_retLP (by decide) dX8_comesBefore_142 rfl (Nat.le_refl _) (Nat.le_refl _) h
    · refine X_iload (x := v9) dX8_comesBefore_74 rfl ?_
      refine X_if_le 83 dX8_comesBefore_76 (by decide) h (fun h => ?_) (fun h => ?_)
      · refine X_iconst 0 dX8_comesBefore_83 rfl ?_
        exact X_retLP (by decide) dX8_comesBefore_84 rfl (Nat.le_refl _) (Nat.le_refl _) h
      · refine X_iconst 1 dX8_comesBefore_79 rfl ?_
        refine X_goto 84 dX8_comesBefore_80 (by decide) ?_
        exact X_retLP (by decide) dX8_comesBefore_84 rfl (Nat.le_refl _) (Nat.le_refl _) h
  · refine X_iload_n (x := v6) dX8_comesBefore_32 rfl ?_
    refine X_if_ge 40 dX8_comesBefore_33 (by decide) h (fun h => ?_) (fun h => ?_)
    · refine X_iconst 0 dX8_comesBefore_40 rfl ?_
      exact X_retLP (by decide) dX8_comesBefore_41 rfl (Nat.le_refl _) (Nat.le_refl _) h
    · refine X_iconst 1 dX8_comesBefore_36 rfl ?_
      refine X_goto 41 dX8_comesBefore_37 (by decide) ?_
      exact X_retLP (by decide) dX8_comesBefore_41 rfl (Nat.le_refl _) (Nat.le_refl _) h
def f_X8_openAheadOf_38 (M : xM) (k4 : Int32 → Int32 → Int32 → Option Int32) (i1 : Int32) (i2 : Int32) (i3 : Int32) : Option Int32 :=
  xl (i3 + 1) fun v5 =>
  k4 i1 i2 v5
set_option maxHeartbeats 1000000 in
theorem x_X8_openAheadOf_38 {ξ : xX} {M : xM} {k4 : Int32 → Int32 → Int32 → Option Int32} {i1 : Int32} {i2 : Int32} {i3 : Int32} (hk4 : ∀ (j1 j2 j3 : Int32) (z : Int32), k4 j1 j2 j3 = some z → X ξ mX8_openAheadOf 4 [.ref 0, .int j1, .int j2, .int j3] [] SH M 0 0 (xr (some (.int z)) SH M)) {z : Int32} (h : f_X8_openAheadOf_38 M k4 i1 i2 i3 = some z) : X ξ mX8_openAheadOf 38 [.ref 0, .int i1, .int i2, .int i3] [] SH M 0 0 (xr (some (.int z)) SH M) := by
  rw [f_X8_openAheadOf_38] at h
  refine X_iincL (x := i3) 1 (fun v5 => [.ref 0, .int i1, .int i2, .int v5]) dX8_openAheadOf_38 rfl rfl (Nat.le_of_ble_eq_true rfl) (xcat1_of rfl) h (fun _ => rfl) (fun v5 h => ?_)
  refine X_goto 4 dX8_openAheadOf_41 (by decide) ?_
  exact hk4 _ _ _ _ h
def f_X8_openAheadOf_4 (M : xM) : Nat → Int32 → Int32 → Int32 → Option Int32
  | 0, _, _, _ => none
  | fu + 1, i1, i2, i3 =>
    if (M 14 2) ≤ i3 then (
      some i2)
    else (
      xb (f_X8_isOpen M i3) fun v6 =>
      if v6 = 0 then (
        f_X8_openAheadOf_38 M (f_X8_openAheadOf_4 M fu) i1 i2 i3)
      else (
        xb (f_X8_comesBefore M i3 i1) fun v7 =>
        if v7 = 0 then (
          f_X8_openAheadOf_38 M (f_X8_openAheadOf_4 M fu) i1 i2 i3)
        else (
          xl (i2 + 1) fun v8 =>
          f_X8_openAheadOf_38 M (f_X8_openAheadOf_4 M fu) i1 v8 i3)))
set_option maxHeartbeats 1000000 in
theorem x_X8_openAheadOf_4 {ξ : xX} {M : xM} : ∀ (fu : Nat) (i1 i2 i3 : Int32) (z : Int32), f_X8_openAheadOf_4 M fu i1 i2 i3 = some z → X ξ mX8_openAheadOf 4 [.ref 0, .int i1, .int i2, .int i3] [] SH M 0 0 (xr (some (.int z)) SH M) := by
  intro fu
  induction fu with
  | zero => intro i1 i2 i3 z h; rw [f_X8_openAheadOf_4] at h; cases h
  | succ fu ih =>
    intro i1 i2 i3 z h
    rw [f_X8_openAheadOf_4] at h
    refine X_iload_n (x := i3) dX8_openAheadOf_4 rfl ?_
    refine X_aload_n (x := 0) dX8_openAheadOf_5 rfl ?_
    refine X_get (v := .ref 1) kF_RX8_10 sh_0 rfl rfl dX8_openAheadOf_6 ?_
    refine X_get (v := .ref 14) kF_RX8_148 sh_1 rfl rfl dX8_openAheadOf_9 ?_
    refine X_get (v := .int (M 14 2)) kF_RX8_236 sh_14 rfl rfl dX8_openAheadOf_12 ?_
    refine X_icmp_ge 44 dX8_openAheadOf_15 (by decide) h (fun h => ?_) (fun h => ?_)
    · refine X_iload_n (x := i2) dX8_openAheadOf_44 rfl ?_
      exact X_retP dX8_openAheadOf_45 rfl (Nat.le_refl _) (Nat.le_refl _) h
    · refine X_aload_n (x := 0) dX8_openAheadOf_18 rfl ?_
      refine X_iload_n (x := i3) dX8_openAheadOf_19 rfl ?_
      refine X_vP (μ' := mX8_isOpen) [.int i3] [] kL_RX8_160 kM_X8_isOpen rv_0 rfl rfl rfl dX8_openAheadOf_20 h (fun _ hv => x_X8_isOpen hv) (fun v6 h => ?_)
      refine X_if_eq 38 dX8_openAheadOf_23 (by decide) h (fun h => ?_) (fun h => ?_)
      · exact x_X8_openAheadOf_38 ih h
      · refine X_aload_n (x := 0) dX8_openAheadOf_26 rfl ?_
        refine X_iload_n (x := i3) dX8_openAheadOf_27 rfl ?_
        refine X_iload_n (x := i1) dX8_openAheadOf_28 rfl ?_
        refine X_vP (μ' := mX8_comesBefore) [.int i3, .int i1] [] kL_RX8_347 kM_X8_comesBefore rv_0 rfl rfl rfl dX8_openAheadOf_29 h (fun _ hv => x_X8_comesBefore hv) (fun v7 h => ?_)
        refine X_if_eq 38 dX8_openAheadOf_32 (by decide) h (fun h => ?_) (fun h => ?_)
        · exact x_X8_openAheadOf_38 ih h
        · refine X_iincL (x := i2) 1 (fun v8 => [.ref 0, .int i1, .int v8, .int i3]) dX8_openAheadOf_35 rfl rfl (Nat.le_of_ble_eq_true rfl) (xcat1_of rfl) h (fun _ => rfl) (fun v8 h => ?_)
          exact x_X8_openAheadOf_38 ih h
def f_X8_openAheadOf (M : xM) (a1 : Int32) : Option Int32 :=
  xl (0 : Int32) fun v9 =>
  xl (0 : Int32) fun v10 =>
  f_X8_openAheadOf_4 M xFU a1 v9 v10
set_option maxHeartbeats 1000000 in
theorem x_X8_openAheadOf {ξ : xX} {M : xM} {a1 : Int32} {z : Int32} (h : f_X8_openAheadOf M a1 = some z) : X ξ mX8_openAheadOf 0 [.ref 0, .int a1] [] SH M 0 0 (xr (some (.int z)) SH M) := by
  rw [f_X8_openAheadOf] at h
  refine X_iconst 0 dX8_openAheadOf_0 rfl ?_
  refine X_istoreL_n (fun v9 => [.ref 0, .int a1, .int v9]) dX8_openAheadOf_1 (Nat.le_of_ble_eq_true rfl) (Nat.le_of_ble_eq_true rfl) (xcat1_of rfl) h (fun _ => rfl) (fun v9 h => ?_)
  refine X_iconst 0 dX8_openAheadOf_2 rfl ?_
  refine X_istoreL_n (fun v10 => [.ref 0, .int a1, .int v9, .int v10]) dX8_openAheadOf_3 (Nat.le_of_ble_eq_true rfl) (Nat.le_of_ble_eq_true rfl) (xcat1_of rfl) h (fun _ => rfl) (fun v10 h => ?_)
  exact x_X8_openAheadOf_4 _ _ _ _ _ h
def f_X8_next_42 (M : xM) (k9 : Int32 → Int32 → Option Int32) (i1 : Int32) (i2 : Int32) : Option Int32 :=
  xl (i2 + 1) fun v3 =>
  k9 i1 v3
set_option maxHeartbeats 1000000 in
theorem x_X8_next_42 {ξ : xX} {M : xM} {k9 : Int32 → Int32 → Option Int32} {i1 : Int32} {i2 : Int32} (hk9 : ∀ (j1 j2 : Int32) (z : Int32), k9 j1 j2 = some z → X ξ mX8_next 9 [.ref 0, .int j1, .int j2] [] SH M 0 0 (xr (some (.int z)) SH M)) {z : Int32} (h : f_X8_next_42 M k9 i1 i2 = some z) : X ξ mX8_next 42 [.ref 0, .int i1, .int i2] [] SH M 0 0 (xr (some (.int z)) SH M) := by
  rw [f_X8_next_42] at h
  refine X_iincL (x := i2) 1 (fun v3 => [.ref 0, .int i1, .int v3]) dX8_next_42 rfl rfl (Nat.le_of_ble_eq_true rfl) (xcat1_of rfl) h (fun _ => rfl) (fun v3 h => ?_)
  refine X_goto 9 dX8_next_45 (by decide) ?_
  exact hk9 _ _ _ h
def f_X8_next_9 (M : xM) : Nat → Int32 → Int32 → Option Int32
  | 0, _, _ => none
  | fu + 1, i1, i2 =>
    if (M 14 2) ≤ i2 then (
      some (-6))
    else (
      xb (f_X8_isOpen M i2) fun v4 =>
      if v4 = 0 then (
        f_X8_next_42 M (f_X8_next_9 M fu) i1 i2)
      else (
        xb (f_X8_openAheadOf M i2) fun v5 =>
        if v5 = i1 then (
          some i2)
        else (
          f_X8_next_42 M (f_X8_next_9 M fu) i1 i2)))
set_option maxHeartbeats 1000000 in
theorem x_X8_next_9 {ξ : xX} {M : xM} : ∀ (fu : Nat) (i1 i2 : Int32) (z : Int32), f_X8_next_9 M fu i1 i2 = some z → X ξ mX8_next 9 [.ref 0, .int i1, .int i2] [] SH M 0 0 (xr (some (.int z)) SH M) := by
  intro fu
  induction fu with
  | zero => intro i1 i2 z h; rw [f_X8_next_9] at h; cases h
  | succ fu ih =>
    intro i1 i2 z h
    rw [f_X8_next_9] at h
    refine X_iload_n (x := i2) dX8_next_9 rfl ?_
    refine X_aload_n (x := 0) dX8_next_10 rfl ?_
    refine X_get (v := .ref 1) kF_RX8_10 sh_0 rfl rfl dX8_next_11 ?_
    refine X_get (v := .ref 14) kF_RX8_148 sh_1 rfl rfl dX8_next_14 ?_
    refine X_get (v := .int (M 14 2)) kF_RX8_236 sh_14 rfl rfl dX8_next_17 ?_
    refine X_icmp_ge 48 dX8_next_20 (by decide) h (fun h => ?_) (fun h => ?_)
    · refine X_bipush (-6) dX8_next_48 rfl ?_
      exact X_retP dX8_next_50 rfl (Nat.le_refl _) (Nat.le_refl _) h
    · refine X_aload_n (x := 0) dX8_next_23 rfl ?_
      refine X_iload_n (x := i2) dX8_next_24 rfl ?_
      refine X_vP (μ' := mX8_isOpen) [.int i2] [] kL_RX8_160 kM_X8_isOpen rv_0 rfl rfl rfl dX8_next_25 h (fun _ hv => x_X8_isOpen hv) (fun v4 h => ?_)
      refine X_if_eq 42 dX8_next_28 (by decide) h (fun h => ?_) (fun h => ?_)
      · exact x_X8_next_42 ih h
      · refine X_aload_n (x := 0) dX8_next_31 rfl ?_
        refine X_iload_n (x := i2) dX8_next_32 rfl ?_
        refine X_vP (μ' := mX8_openAheadOf) [.int i2] [] kL_RX8_239 kM_X8_openAheadOf rv_0 rfl rfl rfl dX8_next_33 h (fun _ hv => x_X8_openAheadOf hv) (fun v5 h => ?_)
        refine X_iload_n (x := i1) dX8_next_36 rfl ?_
        refine X_icmp_ne 42 dX8_next_37 (by decide) h (fun h => ?_) (fun h => ?_)
        · exact x_X8_next_42 ih h
        · refine X_iload_n (x := i2) dX8_next_40 rfl ?_
          exact X_retP dX8_next_41 rfl (Nat.le_refl _) (Nat.le_refl _) h
def f_X8_next (M : xM) (a1 : Int32) : Option Int32 :=
  if 0 ≤ a1 then (
    xl (0 : Int32) fun v6 =>
    f_X8_next_9 M xFU a1 v6)
  else (
    some (-2))
set_option maxHeartbeats 1000000 in
theorem x_X8_next {ξ : xX} {M : xM} {a1 : Int32} {z : Int32} (h : f_X8_next M a1 = some z) : X ξ mX8_next 0 [.ref 0, .int a1] [] SH M 0 0 (xr (some (.int z)) SH M) := by
  rw [f_X8_next] at h
  refine X_iload_n (x := a1) dX8_next_0 rfl ?_
  refine X_if_ge 7 dX8_next_1 (by decide) h (fun h => ?_) (fun h => ?_)
  · refine X_iconst 0 dX8_next_7 rfl ?_
    refine X_istoreL_n (fun v6 => [.ref 0, .int a1, .int v6]) dX8_next_8 (Nat.le_of_ble_eq_true rfl) (Nat.le_of_ble_eq_true rfl) (xcat1_of rfl) h (fun _ => rfl) (fun v6 h => ?_)
    exact x_X8_next_9 _ _ _ _ h
  · refine X_bipush (-2) dX8_next_4 rfl ?_
    exact X_retP dX8_next_6 rfl (Nat.le_refl _) (Nat.le_refl _) h
def f_X8_total (M : xM) (a1 : Int32) : Option Int32 :=
  if a1 = 0 then (
    some (M 1 8))
  else (
    if a1 = 1 then (
      some (M 2 2))
    else (
      if a1 = 2 then (
        some (M 4 2))
      else (
        if a1 = 3 then (
          some (M 6 2))
        else (
          if a1 = 4 then (
            some (M 10 2))
          else (
            if a1 = 5 then (
              some (M 12 2))
            else (
              if a1 = 6 then (
                some (M 14 2))
              else (
                if a1 = 7 then (
                  xb (f_X6_countOf 14 15 160 M 0 0) fun v1 =>
                  some v1)
                else (
                  if a1 = 8 then (
                    xb (f_X6_countOf 14 15 160 M 0 1) fun v2 =>
                    some v2)
                  else (
                    if a1 = 9 then (
                      xb (f_X6_countOf 14 15 160 M 0 2) fun v3 =>
                      some v3)
                    else (
                      if a1 = 10 then (
                        xb (f_X6_countOf 14 15 160 M 0 3) fun v4 =>
                        some v4)
                      else (
                        if a1 = 11 then (
                          some (M 1 9))
                        else (
                          if a1 = 12 then (
                            some (M 18 2))
                          else (
                            if a1 = 13 then (
                              some (M 141 2))
                            else (
                              some (-2)))))))))))))))
set_option maxHeartbeats 1000000 in
theorem x_X8_total {ξ : xX} {M : xM} {a1 : Int32} {z : Int32} (h : f_X8_total M a1 = some z) : X ξ mX8_total 0 [.ref 0, .int a1] [] SH M 0 0 (xr (some (.int z)) SH M) := by
  rw [f_X8_total] at h
  refine X_iload_n (x := a1) dX8_total_0 rfl ?_
  by_cases e0 : a1 = 0
  · rw [if_pos e0] at h
    refine X_tsIn 0 72 e0 dX8_total_1 (by decide) (by decide) rfl (by decide) ?_
    refine X_aload_n (x := 0) dX8_total_72 rfl ?_
    refine X_get (v := .ref 1) kF_RX8_10 sh_0 rfl rfl dX8_total_73 ?_
    refine X_get (v := .int (M 1 8)) kF_RX8_151 sh_1 rfl rfl dX8_total_76 ?_
    exact X_retP dX8_total_79 rfl (Nat.le_refl _) (Nat.le_refl _) h
  rw [if_neg e0] at h
  by_cases e1 : a1 = 1
  · rw [if_pos e1] at h
    refine X_tsIn 1 80 e1 dX8_total_1 (by decide) (by decide) rfl (by decide) ?_
    refine X_aload_n (x := 0) dX8_total_80 rfl ?_
    refine X_get (v := .ref 1) kF_RX8_10 sh_0 rfl rfl dX8_total_81 ?_
    refine X_get (v := .ref 2) kF_RX8_65 sh_1 rfl rfl dX8_total_84 ?_
    refine X_get (v := .int (M 2 2)) kF_RX8_236 sh_2 rfl rfl dX8_total_87 ?_
    exact X_retP dX8_total_90 rfl (Nat.le_refl _) (Nat.le_refl _) h
  rw [if_neg e1] at h
  by_cases e2 : a1 = 2
  · rw [if_pos e2] at h
    refine X_tsIn 2 91 e2 dX8_total_1 (by decide) (by decide) rfl (by decide) ?_
    refine X_aload_n (x := 0) dX8_total_91 rfl ?_
    refine X_get (v := .ref 1) kF_RX8_10 sh_0 rfl rfl dX8_total_92 ?_
    refine X_get (v := .ref 4) kF_RX8_91 sh_1 rfl rfl dX8_total_95 ?_
    refine X_get (v := .int (M 4 2)) kF_RX8_236 sh_4 rfl rfl dX8_total_98 ?_
    exact X_retP dX8_total_101 rfl (Nat.le_refl _) (Nat.le_refl _) h
  rw [if_neg e2] at h
  by_cases e3 : a1 = 3
  · rw [if_pos e3] at h
    refine X_tsIn 3 102 e3 dX8_total_1 (by decide) (by decide) rfl (by decide) ?_
    refine X_aload_n (x := 0) dX8_total_102 rfl ?_
    refine X_get (v := .ref 1) kF_RX8_10 sh_0 rfl rfl dX8_total_103 ?_
    refine X_get (v := .ref 6) kF_RX8_109 sh_1 rfl rfl dX8_total_106 ?_
    refine X_get (v := .int (M 6 2)) kF_RX8_236 sh_6 rfl rfl dX8_total_109 ?_
    exact X_retP dX8_total_112 rfl (Nat.le_refl _) (Nat.le_refl _) h
  rw [if_neg e3] at h
  by_cases e4 : a1 = 4
  · rw [if_pos e4] at h
    refine X_tsIn 4 113 e4 dX8_total_1 (by decide) (by decide) rfl (by decide) ?_
    refine X_aload_n (x := 0) dX8_total_113 rfl ?_
    refine X_get (v := .ref 1) kF_RX8_10 sh_0 rfl rfl dX8_total_114 ?_
    refine X_get (v := .ref 10) kF_RX8_215 sh_1 rfl rfl dX8_total_117 ?_
    refine X_get (v := .int (M 10 2)) kF_RX8_236 sh_10 rfl rfl dX8_total_120 ?_
    exact X_retP dX8_total_123 rfl (Nat.le_refl _) (Nat.le_refl _) h
  rw [if_neg e4] at h
  by_cases e5 : a1 = 5
  · rw [if_pos e5] at h
    refine X_tsIn 5 124 e5 dX8_total_1 (by decide) (by decide) rfl (by decide) ?_
    refine X_aload_n (x := 0) dX8_total_124 rfl ?_
    refine X_get (v := .ref 1) kF_RX8_10 sh_0 rfl rfl dX8_total_125 ?_
    refine X_get (v := .ref 12) kF_RX8_138 sh_1 rfl rfl dX8_total_128 ?_
    refine X_get (v := .int (M 12 2)) kF_RX8_236 sh_12 rfl rfl dX8_total_131 ?_
    exact X_retP dX8_total_134 rfl (Nat.le_refl _) (Nat.le_refl _) h
  rw [if_neg e5] at h
  by_cases e6 : a1 = 6
  · rw [if_pos e6] at h
    refine X_tsIn 6 135 e6 dX8_total_1 (by decide) (by decide) rfl (by decide) ?_
    refine X_aload_n (x := 0) dX8_total_135 rfl ?_
    refine X_get (v := .ref 1) kF_RX8_10 sh_0 rfl rfl dX8_total_136 ?_
    refine X_get (v := .ref 14) kF_RX8_148 sh_1 rfl rfl dX8_total_139 ?_
    refine X_get (v := .int (M 14 2)) kF_RX8_236 sh_14 rfl rfl dX8_total_142 ?_
    exact X_retP dX8_total_145 rfl (Nat.le_refl _) (Nat.le_refl _) h
  rw [if_neg e6] at h
  by_cases e7 : a1 = 7
  · rw [if_pos e7] at h
    refine X_tsIn 7 146 e7 dX8_total_1 (by decide) (by decide) rfl (by decide) ?_
    refine X_aload_n (x := 0) dX8_total_146 rfl ?_
    refine X_get (v := .ref 1) kF_RX8_10 sh_0 rfl rfl dX8_total_147 ?_
    refine X_get (v := .ref 14) kF_RX8_148 sh_1 rfl rfl dX8_total_150 ?_
    refine X_iconst 0 dX8_total_153 rfl ?_
    refine X_iconst 0 dX8_total_154 rfl ?_
    refine X_vP (μ' := mX6_countOf) [.int 0, .int 0] [] kL_RX8_141 kM_X6_countOf rv_14 rfl rfl rfl dX8_total_155 h (fun _ hv => x_X6_countOf xT_14 hv) (fun v1 h => ?_)
    exact X_retP dX8_total_158 rfl (Nat.le_refl _) (Nat.le_refl _) h
  rw [if_neg e7] at h
  by_cases e8 : a1 = 8
  · rw [if_pos e8] at h
    refine X_tsIn 8 159 e8 dX8_total_1 (by decide) (by decide) rfl (by decide) ?_
    refine X_aload_n (x := 0) dX8_total_159 rfl ?_
    refine X_get (v := .ref 1) kF_RX8_10 sh_0 rfl rfl dX8_total_160 ?_
    refine X_get (v := .ref 14) kF_RX8_148 sh_1 rfl rfl dX8_total_163 ?_
    refine X_iconst 0 dX8_total_166 rfl ?_
    refine X_iconst 1 dX8_total_167 rfl ?_
    refine X_vP (μ' := mX6_countOf) [.int 0, .int 1] [] kL_RX8_141 kM_X6_countOf rv_14 rfl rfl rfl dX8_total_168 h (fun _ hv => x_X6_countOf xT_14 hv) (fun v2 h => ?_)
    exact X_retP dX8_total_171 rfl (Nat.le_refl _) (Nat.le_refl _) h
  rw [if_neg e8] at h
  by_cases e9 : a1 = 9
  · rw [if_pos e9] at h
    refine X_tsIn 9 172 e9 dX8_total_1 (by decide) (by decide) rfl (by decide) ?_
    refine X_aload_n (x := 0) dX8_total_172 rfl ?_
    refine X_get (v := .ref 1) kF_RX8_10 sh_0 rfl rfl dX8_total_173 ?_
    refine X_get (v := .ref 14) kF_RX8_148 sh_1 rfl rfl dX8_total_176 ?_
    refine X_iconst 0 dX8_total_179 rfl ?_
    refine X_iconst 2 dX8_total_180 rfl ?_
    refine X_vP (μ' := mX6_countOf) [.int 0, .int 2] [] kL_RX8_141 kM_X6_countOf rv_14 rfl rfl rfl dX8_total_181 h (fun _ hv => x_X6_countOf xT_14 hv) (fun v3 h => ?_)
    exact X_retP dX8_total_184 rfl (Nat.le_refl _) (Nat.le_refl _) h
  rw [if_neg e9] at h
  by_cases e10 : a1 = 10
  · rw [if_pos e10] at h
    refine X_tsIn 10 185 e10 dX8_total_1 (by decide) (by decide) rfl (by decide) ?_
    refine X_aload_n (x := 0) dX8_total_185 rfl ?_
    refine X_get (v := .ref 1) kF_RX8_10 sh_0 rfl rfl dX8_total_186 ?_
    refine X_get (v := .ref 14) kF_RX8_148 sh_1 rfl rfl dX8_total_189 ?_
    refine X_iconst 0 dX8_total_192 rfl ?_
    refine X_iconst 3 dX8_total_193 rfl ?_
    refine X_vP (μ' := mX6_countOf) [.int 0, .int 3] [] kL_RX8_141 kM_X6_countOf rv_14 rfl rfl rfl dX8_total_194 h (fun _ hv => x_X6_countOf xT_14 hv) (fun v4 h => ?_)
    exact X_retP dX8_total_197 rfl (Nat.le_refl _) (Nat.le_refl _) h
  rw [if_neg e10] at h
  by_cases e11 : a1 = 11
  · rw [if_pos e11] at h
    refine X_tsIn 11 198 e11 dX8_total_1 (by decide) (by decide) rfl (by decide) ?_
    refine X_aload_n (x := 0) dX8_total_198 rfl ?_
    refine X_get (v := .ref 1) kF_RX8_10 sh_0 rfl rfl dX8_total_199 ?_
    refine X_get (v := .int (M 1 9)) kF_RX8_242 sh_1 rfl rfl dX8_total_202 ?_
    exact X_retP dX8_total_205 rfl (Nat.le_refl _) (Nat.le_refl _) h
  rw [if_neg e11] at h
  by_cases e12 : a1 = 12
  · rw [if_pos e12] at h
    refine X_tsIn 12 206 e12 dX8_total_1 (by decide) (by decide) rfl (by decide) ?_
    refine X_aload_n (x := 0) dX8_total_206 rfl ?_
    refine X_get (v := .ref 18) kF_RX8_19 sh_0 rfl rfl dX8_total_207 ?_
    refine X_get (v := .int (M 18 2)) kF_RX8_188 sh_18 rfl rfl dX8_total_210 ?_
    exact X_retP dX8_total_213 rfl (Nat.le_refl _) (Nat.le_refl _) h
  rw [if_neg e12] at h
  by_cases e13 : a1 = 13
  · rw [if_pos e13] at h
    refine X_tsIn 13 214 e13 dX8_total_1 (by decide) (by decide) rfl (by decide) ?_
    refine X_aload_n (x := 0) dX8_total_214 rfl ?_
    refine X_get (v := .ref 141) kF_RX8_36 sh_0 rfl rfl dX8_total_215 ?_
    refine X_get (v := .int (M 141 2)) kF_RX8_173 sh_141 rfl rfl dX8_total_218 ?_
    exact X_retP dX8_total_221 rfl (Nat.le_refl _) (Nat.le_refl _) h
  rw [if_neg e13] at h
  refine X_tsOut 222 dX8_total_1 (xsw_out (lo := 0) 14 (lt_s (lt_s (lt_s (lt_s (lt_s (lt_s (lt_s (lt_s (lt_s (lt_s (lt_s (lt_s (lt_s (lt_s lt_0 (xne (c := 0) rfl e0)) (xne (c := 1) rfl e1)) (xne (c := 2) rfl e2)) (xne (c := 3) rfl e3)) (xne (c := 4) rfl e4)) (xne (c := 5) rfl e5)) (xne (c := 6) rfl e6)) (xne (c := 7) rfl e7)) (xne (c := 8) rfl e8)) (xne (c := 9) rfl e9)) (xne (c := 10) rfl e10)) (xne (c := 11) rfl e11)) (xne (c := 12) rfl e12)) (xne (c := 13) rfl e13))) (by decide) ?_
  refine X_bipush (-2) dX8_total_222 rfl ?_
  exact X_retP dX8_total_224 rfl (Nat.le_refl _) (Nat.le_refl _) h
def f_X8_heard (M : xM) (a1 a2 a3 a4 a5 : Int32) : Option Int32 :=
  xb (f_X6_has 2 3 56 M a1) fun v1 =>
  if v1 = 0 then (
    some (-1))
  else (
    xb (f_X6_has 4 5 24 M a2) fun v2 =>
    if v2 = 0 then (
      some (-1))
    else (
      xb (f_X8_hasTrack M a1 a5) fun v3 =>
      if v3 = 0 then (
        some (-1))
      else (
        xb (f_X8_canPlay M a2 a3) fun v4 =>
        if v4 = 0 then (
          some (-2))
        else (
          xb (f_X8_isSide a4) fun v5 =>
          if v5 = 0 then (
            some (-2))
          else (
            xb (f_X8_isSameKind M a1 a2) fun v6 =>
            if v6 = 0 then (
              some (-3))
            else (
              xb (f_X8_captureNow M a1 a2 a3 a4 a5) fun v7 =>
              some v7))))))
set_option maxHeartbeats 1000000 in
theorem x_X8_heard {ξ : xX} {M : xM} {a1 a2 a3 a4 a5 : Int32} {z : Int32} (h : f_X8_heard M a1 a2 a3 a4 a5 = some z) : X ξ mX8_heard 0 [.ref 0, .int a1, .int a2, .int a3, .int a4, .int a5] [] SH M 0 0 (xr (some (.int z)) SH M) := by
  rw [f_X8_heard] at h
  refine X_aload_n (x := 0) dX8_heard_0 rfl ?_
  refine X_get (v := .ref 1) kF_RX8_10 sh_0 rfl rfl dX8_heard_1 ?_
  refine X_get (v := .ref 2) kF_RX8_65 sh_1 rfl rfl dX8_heard_4 ?_
  refine X_iload_n (x := a1) dX8_heard_7 rfl ?_
  refine X_vP (μ' := mX6_has) [.int a1] [] kL_RX8_94 kM_X6_has rv_2 rfl rfl rfl dX8_heard_8 h (fun _ hv => x_X6_has xT_2 hv) (fun v1 h => ?_)
  refine X_if_eq 38 dX8_heard_11 (by decide) h (fun h => ?_) (fun h => ?_)
  · refine X_iconst (-1) dX8_heard_38 rfl ?_
    exact X_retP dX8_heard_39 rfl (Nat.le_refl _) (Nat.le_refl _) h
  · refine X_aload_n (x := 0) dX8_heard_14 rfl ?_
    refine X_get (v := .ref 1) kF_RX8_10 sh_0 rfl rfl dX8_heard_15 ?_
    refine X_get (v := .ref 4) kF_RX8_91 sh_1 rfl rfl dX8_heard_18 ?_
    refine X_iload_n (x := a2) dX8_heard_21 rfl ?_
    refine X_vP (μ' := mX6_has) [.int a2] [] kL_RX8_94 kM_X6_has rv_4 rfl rfl rfl dX8_heard_22 h (fun _ hv => x_X6_has xT_4 hv) (fun v2 h => ?_)
    refine X_if_eq 38 dX8_heard_25 (by decide) h (fun h => ?_) (fun h => ?_)
    · refine X_iconst (-1) dX8_heard_38 rfl ?_
      exact X_retP dX8_heard_39 rfl (Nat.le_refl _) (Nat.le_refl _) h
    · refine X_aload_n (x := 0) dX8_heard_28 rfl ?_
      refine X_iload_n (x := a1) dX8_heard_29 rfl ?_
      refine X_iload (x := a5) dX8_heard_30 rfl ?_
      refine X_vP (μ' := mX8_hasTrack) [.int a1, .int a5] [] kL_RX8_218 kM_X8_hasTrack rv_0 rfl rfl rfl dX8_heard_32 h (fun _ hv => x_X8_hasTrack hv) (fun v3 h => ?_)
      refine X_if_ne 40 dX8_heard_35 (by decide) h (fun h => ?_) (fun h => ?_)
      · refine X_aload_n (x := 0) dX8_heard_40 rfl ?_
        refine X_iload_n (x := a2) dX8_heard_41 rfl ?_
        refine X_iload_n (x := a3) dX8_heard_42 rfl ?_
        refine X_vP (μ' := mX8_canPlay) [.int a2, .int a3] [] kL_RX8_245 kM_X8_canPlay rv_0 rfl rfl rfl dX8_heard_43 h (fun _ hv => x_X8_canPlay hv) (fun v4 h => ?_)
        refine X_if_eq 57 dX8_heard_46 (by decide) h (fun h => ?_) (fun h => ?_)
        · refine X_bipush (-2) dX8_heard_57 rfl ?_
          exact X_retP dX8_heard_59 rfl (Nat.le_refl _) (Nat.le_refl _) h
        · refine X_iload (x := a4) dX8_heard_49 rfl ?_
          refine X_sP (μ' := mX8_isSide) [.int a4] [] kL_RX8_248 kM_X8_isSide rfl rfl rfl dX8_heard_51 h (fun _ hv => x_X8_isSide hv) (fun v5 h => ?_)
          refine X_if_ne 60 dX8_heard_54 (by decide) h (fun h => ?_) (fun h => ?_)
          · refine X_aload_n (x := 0) dX8_heard_60 rfl ?_
            refine X_iload_n (x := a1) dX8_heard_61 rfl ?_
            refine X_iload_n (x := a2) dX8_heard_62 rfl ?_
            refine X_vP (μ' := mX8_isSameKind) [.int a1, .int a2] [] kL_RX8_251 kM_X8_isSameKind rv_0 rfl rfl rfl dX8_heard_63 h (fun _ hv => x_X8_isSameKind hv) (fun v6 h => ?_)
            refine X_if_ne 72 dX8_heard_66 (by decide) h (fun h => ?_) (fun h => ?_)
            · refine X_aload_n (x := 0) dX8_heard_72 rfl ?_
              refine X_iload_n (x := a1) dX8_heard_73 rfl ?_
              refine X_iload_n (x := a2) dX8_heard_74 rfl ?_
              refine X_iload_n (x := a3) dX8_heard_75 rfl ?_
              refine X_iload (x := a4) dX8_heard_76 rfl ?_
              refine X_iload (x := a5) dX8_heard_78 rfl ?_
              refine X_vP (μ' := mX8_captureNow) [.int a1, .int a2, .int a3, .int a4, .int a5] [] kL_RX8_254 kM_X8_captureNow rv_0 rfl rfl rfl dX8_heard_80 h (fun _ hv => x_X8_captureNow hv) (fun v7 h => ?_)
              exact X_retP dX8_heard_83 rfl (Nat.le_refl _) (Nat.le_refl _) h
            · refine X_bipush (-3) dX8_heard_69 rfl ?_
              exact X_retP dX8_heard_71 rfl (Nat.le_refl _) (Nat.le_refl _) h
          · refine X_bipush (-2) dX8_heard_57 rfl ?_
            exact X_retP dX8_heard_59 rfl (Nat.le_refl _) (Nat.le_refl _) h
      · refine X_iconst (-1) dX8_heard_38 rfl ?_
        exact X_retP dX8_heard_39 rfl (Nat.le_refl _) (Nat.le_refl _) h
def f_X8_duration (M : xM) (a1 a2 : Int32) : Option Int32 :=
  xb (f_X6_has 2 3 56 M a1) fun v1 =>
  if v1 = 0 then (
    some (-1))
  else (
    xb (f_X6_get 2 3 56 M a1 0) fun v2 =>
    xb (f_X2_numberOfSpeed v2 a2) fun v3 =>
    if 0 ≤ v3 then (
      xb (f_X8_secondsOfPass M a1 a2) fun v4 =>
      some v4)
    else (
      some (-2)))
set_option maxHeartbeats 1000000 in
theorem x_X8_duration {ξ : xX} {M : xM} {a1 a2 : Int32} {z : Int32} (h : f_X8_duration M a1 a2 = some z) : X ξ mX8_duration 0 [.ref 0, .int a1, .int a2] [] SH M 0 0 (xr (some (.int z)) SH M) := by
  rw [f_X8_duration] at h
  refine X_aload_n (x := 0) dX8_duration_0 rfl ?_
  refine X_get (v := .ref 1) kF_RX8_10 sh_0 rfl rfl dX8_duration_1 ?_
  refine X_get (v := .ref 2) kF_RX8_65 sh_1 rfl rfl dX8_duration_4 ?_
  refine X_iload_n (x := a1) dX8_duration_7 rfl ?_
  refine X_vP (μ' := mX6_has) [.int a1] [] kL_RX8_94 kM_X6_has rv_2 rfl rfl rfl dX8_duration_8 h (fun _ hv => x_X6_has xT_2 hv) (fun v1 h => ?_)
  refine X_if_ne 16 dX8_duration_11 (by decide) h (fun h => ?_) (fun h => ?_)
  · refine X_aload_n (x := 0) dX8_duration_16 rfl ?_
    refine X_get (v := .ref 1) kF_RX8_10 sh_0 rfl rfl dX8_duration_17 ?_
    refine X_get (v := .ref 2) kF_RX8_65 sh_1 rfl rfl dX8_duration_20 ?_
    refine X_iload_n (x := a1) dX8_duration_23 rfl ?_
    refine X_iconst 0 dX8_duration_24 rfl ?_
    refine X_vP (μ' := mX6_get) [.int a1, .int 0] [] kL_RX8_98 kM_X6_get rv_2 rfl rfl rfl dX8_duration_25 h (fun _ hv => x_X6_get xT_2 hv) (fun v2 h => ?_)
    refine X_iload_n (x := a2) dX8_duration_28 rfl ?_
    refine X_sP (μ' := mX2_numberOfSpeed) [.int v2, .int a2] [] kL_RX8_57 kM_X2_numberOfSpeed rfl rfl rfl dX8_duration_29 h (fun _ hv => x_X2_numberOfSpeed hv) (fun v3 h => ?_)
    refine X_if_ge 38 dX8_duration_32 (by decide) h (fun h => ?_) (fun h => ?_)
    · refine X_aload_n (x := 0) dX8_duration_38 rfl ?_
      refine X_iload_n (x := a1) dX8_duration_39 rfl ?_
      refine X_iload_n (x := a2) dX8_duration_40 rfl ?_
      refine X_vP (μ' := mX8_secondsOfPass) [.int a1, .int a2] [] kL_RX8_257 kM_X8_secondsOfPass rv_0 rfl rfl rfl dX8_duration_41 h (fun _ hv => x_X8_secondsOfPass hv) (fun v4 h => ?_)
      exact X_retP dX8_duration_44 rfl (Nat.le_refl _) (Nat.le_refl _) h
    · refine X_bipush (-2) dX8_duration_35 rfl ?_
      exact X_retP dX8_duration_37 rfl (Nat.le_refl _) (Nat.le_refl _) h
  · refine X_iconst (-1) dX8_duration_14 rfl ?_
    exact X_retP dX8_duration_15 rfl (Nat.le_refl _) (Nat.le_refl _) h
