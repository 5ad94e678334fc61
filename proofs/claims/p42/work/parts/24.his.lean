def f_X1_stateAt (M : xM) (a1 : Int32) : Option (Option Nat) :=
  if a1 < 0 then (
    some none)
  else (
    if 5 ≤ a1 then (
      some none)
    else (
      xgd (xin a1 5) <|
      some (xHist a1)))
set_option maxHeartbeats 1000000 in
theorem x_X1_stateAt {ξ : xX} {M : xM} {a1 : Int32} {z : (Option Nat)} (h : f_X1_stateAt M a1 = some z) : X ξ mX1_stateAt 0 [.ref 18, .int a1] [] SH M 0 0 (xr (some (va_rf z)) SH M) := by
  rw [f_X1_stateAt] at h
  refine X_iload_n (x := a1) dX1_stateAt_0 rfl ?_
  refine X_if_lt 22 dX1_stateAt_1 (by decide) h (fun h => ?_) (fun h => ?_)
  · refine X_null dX1_stateAt_22 ?_
    exact X_retR (r := none) dX1_stateAt_23 ⟨_, rfl⟩ (Nat.le_refl _) (Nat.le_refl _) h
  · refine X_iload_n (x := a1) dX1_stateAt_4 rfl ?_
    refine X_aload_n (x := 18) dX1_stateAt_5 rfl ?_
    refine X_get (v := .ref 19) kF_RX1_11 sh_18 rfl rfl dX1_stateAt_6 ?_
    refine X_alen 5 sh_19 rfl dX1_stateAt_9 ?_
    refine X_icmp_ge 22 dX1_stateAt_10 (by decide) h (fun h => ?_) (fun h => ?_)
    · refine X_null dX1_stateAt_22 ?_
      exact X_retR (r := none) dX1_stateAt_23 ⟨_, rfl⟩ (Nat.le_refl _) (Nat.le_refl _) h
    · refine X_aload_n (x := 18) dX1_stateAt_13 rfl ?_
      refine X_get (v := .ref 19) kF_RX1_11 sh_18 rfl rfl dX1_stateAt_14 ?_
      refine X_iload_n (x := a1) dX1_stateAt_17 rfl ?_
      obtain ⟨hi, h⟩ := xgd_some h
      refine X_aald (xHist a1) sh_19 hi rfl dX1_stateAt_18 ?_
      refine X_goto 23 dX1_stateAt_19 (by decide) ?_
      exact X_retR (r := (xHist a1)) dX1_stateAt_23 ⟨_, rfl⟩ (Nat.le_refl _) (Nat.le_refl _) h
def f_X5_copyFrom (b o : Nat) (M : xM) : Option xM :=
  xb (f_X6_copyFrom (b + 1) (b + 2) 56 (o + 1) (o + 2) 56 M) fun M1 =>
  xb (f_X6_copyFrom (b + 3) (b + 4) 24 (o + 3) (o + 4) 24 M1) fun M2 =>
  xb (f_X6_copyFrom (b + 5) (b + 6) 96 (o + 5) (o + 6) 96 M2) fun M3 =>
  xb (f_X6_copyFrom (b + 7) (b + 8) 256 (o + 7) (o + 8) 256 M3) fun M4 =>
  xb (f_X6_copyFrom (b + 9) (b + 10) 264 (o + 9) (o + 10) 264 M4) fun M5 =>
  xb (f_X6_copyFrom (b + 11) (b + 12) 120 (o + 11) (o + 12) 120 M5) fun M6 =>
  xb (f_X6_copyFrom (b + 13) (b + 14) 160 (o + 13) (o + 14) 160 M6) fun M7 =>
  xb (f_X6_copyFrom (b + 15) (b + 16) 16 (o + 15) (o + 16) 16 M7) fun M8 =>
  xl (xw M8 b 8 (M8 o 8)) fun M9 =>
  xl (xw M9 b 9 (M9 o 9)) fun M10 =>
  some M10
set_option maxHeartbeats 1000000 in
theorem x_X5_copyFrom {ξ : xX} {b o : Nat} {M : xM} (hb : xSta b) (ho : xSta o) {z : xM} (h : f_X5_copyFrom b o M = some z) : X ξ mX5_copyFrom 0 [.ref b, .ref o] [] SH M 0 0 (xr none SH z) := by
  rw [f_X5_copyFrom] at h
  refine X_aload_n (x := b) dX5_copyFrom_0 rfl ?_
  refine X_get (v := .ref (b + 1)) kF_RX5_14 hb.1 rfl rfl dX5_copyFrom_1 ?_
  refine X_aload_n (x := o) dX5_copyFrom_4 rfl ?_
  refine X_get (v := .ref (o + 1)) kF_RX5_14 ho.1 rfl rfl dX5_copyFrom_5 ?_
  refine X_vV (μ' := mX6_copyFrom) [.ref (o + 1)] [] kL_RX5_45 kM_X6_copyFrom ⟨_, _, _, hb.2.1.1, rfl, rfl⟩ rfl rfl rfl dX5_copyFrom_8 h (fun _ hv => x_X6_copyFrom hb.2.1 ho.2.1 hv) (fun M1 h => ?_)
  refine X_aload_n (x := b) dX5_copyFrom_11 rfl ?_
  refine X_get (v := .ref (b + 3)) kF_RX5_20 hb.1 rfl rfl dX5_copyFrom_12 ?_
  refine X_aload_n (x := o) dX5_copyFrom_15 rfl ?_
  refine X_get (v := .ref (o + 3)) kF_RX5_20 ho.1 rfl rfl dX5_copyFrom_16 ?_
  refine X_vV (μ' := mX6_copyFrom) [.ref (o + 3)] [] kL_RX5_45 kM_X6_copyFrom ⟨_, _, _, hb.2.2.1.1, rfl, rfl⟩ rfl rfl rfl dX5_copyFrom_19 h (fun _ hv => x_X6_copyFrom hb.2.2.1 ho.2.2.1 hv) (fun M2 h => ?_)
  refine X_aload_n (x := b) dX5_copyFrom_22 rfl ?_
  refine X_get (v := .ref (b + 5)) kF_RX5_23 hb.1 rfl rfl dX5_copyFrom_23 ?_
  refine X_aload_n (x := o) dX5_copyFrom_26 rfl ?_
  refine X_get (v := .ref (o + 5)) kF_RX5_23 ho.1 rfl rfl dX5_copyFrom_27 ?_
  refine X_vV (μ' := mX6_copyFrom) [.ref (o + 5)] [] kL_RX5_45 kM_X6_copyFrom ⟨_, _, _, hb.2.2.2.1.1, rfl, rfl⟩ rfl rfl rfl dX5_copyFrom_30 h (fun _ hv => x_X6_copyFrom hb.2.2.2.1 ho.2.2.2.1 hv) (fun M3 h => ?_)
  refine X_aload_n (x := b) dX5_copyFrom_33 rfl ?_
  refine X_get (v := .ref (b + 7)) kF_RX5_26 hb.1 rfl rfl dX5_copyFrom_34 ?_
  refine X_aload_n (x := o) dX5_copyFrom_37 rfl ?_
  refine X_get (v := .ref (o + 7)) kF_RX5_26 ho.1 rfl rfl dX5_copyFrom_38 ?_
  refine X_vV (μ' := mX6_copyFrom) [.ref (o + 7)] [] kL_RX5_45 kM_X6_copyFrom ⟨_, _, _, hb.2.2.2.2.1.1, rfl, rfl⟩ rfl rfl rfl dX5_copyFrom_41 h (fun _ hv => x_X6_copyFrom hb.2.2.2.2.1 ho.2.2.2.2.1 hv) (fun M4 h => ?_)
  refine X_aload_n (x := b) dX5_copyFrom_44 rfl ?_
  refine X_get (v := .ref (b + 9)) kF_RX5_29 hb.1 rfl rfl dX5_copyFrom_45 ?_
  refine X_aload_n (x := o) dX5_copyFrom_48 rfl ?_
  refine X_get (v := .ref (o + 9)) kF_RX5_29 ho.1 rfl rfl dX5_copyFrom_49 ?_
  refine X_vV (μ' := mX6_copyFrom) [.ref (o + 9)] [] kL_RX5_45 kM_X6_copyFrom ⟨_, _, _, hb.2.2.2.2.2.1.1, rfl, rfl⟩ rfl rfl rfl dX5_copyFrom_52 h (fun _ hv => x_X6_copyFrom hb.2.2.2.2.2.1 ho.2.2.2.2.2.1 hv) (fun M5 h => ?_)
  refine X_aload_n (x := b) dX5_copyFrom_55 rfl ?_
  refine X_get (v := .ref (b + 11)) kF_RX5_32 hb.1 rfl rfl dX5_copyFrom_56 ?_
  refine X_aload_n (x := o) dX5_copyFrom_59 rfl ?_
  refine X_get (v := .ref (o + 11)) kF_RX5_32 ho.1 rfl rfl dX5_copyFrom_60 ?_
  refine X_vV (μ' := mX6_copyFrom) [.ref (o + 11)] [] kL_RX5_45 kM_X6_copyFrom ⟨_, _, _, hb.2.2.2.2.2.2.1.1, rfl, rfl⟩ rfl rfl rfl dX5_copyFrom_63 h (fun _ hv => x_X6_copyFrom hb.2.2.2.2.2.2.1 ho.2.2.2.2.2.2.1 hv) (fun M6 h => ?_)
  refine X_aload_n (x := b) dX5_copyFrom_66 rfl ?_
  refine X_get (v := .ref (b + 13)) kF_RX5_35 hb.1 rfl rfl dX5_copyFrom_67 ?_
  refine X_aload_n (x := o) dX5_copyFrom_70 rfl ?_
  refine X_get (v := .ref (o + 13)) kF_RX5_35 ho.1 rfl rfl dX5_copyFrom_71 ?_
  refine X_vV (μ' := mX6_copyFrom) [.ref (o + 13)] [] kL_RX5_45 kM_X6_copyFrom ⟨_, _, _, hb.2.2.2.2.2.2.2.1.1, rfl, rfl⟩ rfl rfl rfl dX5_copyFrom_74 h (fun _ hv => x_X6_copyFrom hb.2.2.2.2.2.2.2.1 ho.2.2.2.2.2.2.2.1 hv) (fun M7 h => ?_)
  refine X_aload_n (x := b) dX5_copyFrom_77 rfl ?_
  refine X_get (v := .ref (b + 15)) kF_RX5_38 hb.1 rfl rfl dX5_copyFrom_78 ?_
  refine X_aload_n (x := o) dX5_copyFrom_81 rfl ?_
  refine X_get (v := .ref (o + 15)) kF_RX5_38 ho.1 rfl rfl dX5_copyFrom_82 ?_
  refine X_vV (μ' := mX6_copyFrom) [.ref (o + 15)] [] kL_RX5_45 kM_X6_copyFrom ⟨_, _, _, hb.2.2.2.2.2.2.2.2.1, rfl, rfl⟩ rfl rfl rfl dX5_copyFrom_85 h (fun _ hv => x_X6_copyFrom hb.2.2.2.2.2.2.2.2 ho.2.2.2.2.2.2.2.2 hv) (fun M8 h => ?_)
  refine X_aload_n (x := b) dX5_copyFrom_88 rfl ?_
  refine X_aload_n (x := o) dX5_copyFrom_89 rfl ?_
  refine X_get (v := .int (M8 o 8)) kF_RX5_49 ho.1 rfl rfl dX5_copyFrom_90 ?_
  refine X_putI kF_RX5_49 hb.1 rfl rfl rfl dX5_copyFrom_93 h (fun M9 h => ?_)
  refine X_aload_n (x := b) dX5_copyFrom_96 rfl ?_
  refine X_aload_n (x := o) dX5_copyFrom_97 rfl ?_
  refine X_get (v := .int (M9 o 9)) kF_RX5_52 ho.1 rfl rfl dX5_copyFrom_98 ?_
  refine X_putI kF_RX5_52 hb.1 rfl rfl rfl dX5_copyFrom_101 h (fun M10 h => ?_)
  exact X_retV dX5_copyFrom_104 rfl (Nat.le_refl _) (Nat.le_refl _) h
def f_X1_keep_39 (M : xM) (s1 : Int32) : Option xM :=
  xl (xw M 18 1 s1) fun M1 =>
  xl (xw M1 18 2 (xmn ((M1 18 2) + 1) 5)) fun M2 =>
  some M2
set_option maxHeartbeats 1000000 in
theorem x_X1_keep_39 {ξ : xX} {M : xM} {s1 : Int32} {z : xM} (h : f_X1_keep_39 M s1 = some z) : X ξ mX1_keep 39 [.ref 18, .ref 1] [.int s1, .ref 18] SH M 0 0 (xr none SH z) := by
  rw [f_X1_keep_39] at h
  refine X_putI kF_RX1_16 sh_18 rfl rfl rfl dX1_keep_39 h (fun M1 h => ?_)
  refine X_aload_n (x := 18) dX1_keep_42 rfl ?_
  refine X_aload_n (x := 18) dX1_keep_43 rfl ?_
  refine X_get (v := .int (M1 18 2)) kF_RX1_28 sh_18 rfl rfl dX1_keep_44 ?_
  refine X_iconst 1 dX1_keep_47 rfl ?_
  refine X_iadd dX1_keep_48 ?_
  refine X_iconst 5 dX1_keep_49 rfl ?_
  refine X_min kJ_RX1_31 (Nat.le_of_ble_eq_true rfl) (Nat.le_of_ble_eq_true rfl) (Nat.le_refl _) (Nat.le_refl _) dX1_keep_50 ?_
  refine X_putI kF_RX1_28 sh_18 rfl rfl rfl dX1_keep_53 h (fun M2 h => ?_)
  exact X_retV dX1_keep_56 rfl (Nat.le_refl _) (Nat.le_refl _) h
def f_X1_keep_18 (M : xM) : Option xM :=
  if 5 ≤ ((M 18 1) + 1) then (
    f_X1_keep_39 M 0)
  else (
    f_X1_keep_39 M ((M 18 1) + 1))
set_option maxHeartbeats 1000000 in
theorem x_X1_keep_18 {ξ : xX} {M : xM} {z : xM} (h : f_X1_keep_18 M = some z) : X ξ mX1_keep 18 [.ref 18, .ref 1] [] SH M 0 0 (xr none SH z) := by
  rw [f_X1_keep_18] at h
  refine X_aload_n (x := 18) dX1_keep_18 rfl ?_
  refine X_aload_n (x := 18) dX1_keep_19 rfl ?_
  refine X_get (v := .int (M 18 1)) kF_RX1_16 sh_18 rfl rfl dX1_keep_20 ?_
  refine X_iconst 1 dX1_keep_23 rfl ?_
  refine X_iadd dX1_keep_24 ?_
  refine X_iconst 5 dX1_keep_25 rfl ?_
  refine X_icmp_ge 38 dX1_keep_26 (by decide) h (fun h => ?_) (fun h => ?_)
  · refine X_iconst 0 dX1_keep_38 rfl ?_
    exact x_X1_keep_39 h
  · refine X_aload_n (x := 18) dX1_keep_29 rfl ?_
    refine X_get (v := .int (M 18 1)) kF_RX1_16 sh_18 rfl rfl dX1_keep_30 ?_
    refine X_iconst 1 dX1_keep_33 rfl ?_
    refine X_iadd dX1_keep_34 ?_
    refine X_goto 39 dX1_keep_35 (by decide) ?_
    exact x_X1_keep_39 h
def f_X1_keep (M : xM) : Option xM :=
  xb (f_X1_stateAt M (M 18 1)) fun r => xo r (
    f_X1_keep_18 M)
  (fun q3 => xgd (xStaB q3) <|
    xb (f_X5_copyFrom q3 1 M) fun M4 =>
    f_X1_keep_18 M4)
set_option maxHeartbeats 1000000 in
theorem x_X1_keep {ξ : xX} {M : xM} {z : xM} (h : f_X1_keep M = some z) : X ξ mX1_keep 0 [.ref 18, .ref 1] [] SH M 0 0 (xr none SH z) := by
  rw [f_X1_keep] at h
  refine X_aload_n (x := 18) dX1_keep_0 rfl ?_
  refine X_aload_n (x := 18) dX1_keep_1 rfl ?_
  refine X_get (v := .int (M 18 1)) kF_RX1_16 sh_18 rfl rfl dX1_keep_2 ?_
  refine X_vR (μ' := mX1_stateAt) [.int (M 18 1)] [] kL_RX1_20 kM_X1_stateAt rv_18 rfl rfl rfl dX1_keep_5 h (fun _ hv => x_X1_stateAt hv) (fun h => ?_) (fun q3 h => ?_)
  · refine X_astore_nN [.ref 18, .ref 1, .null] dX1_keep_8 (Nat.le_of_ble_eq_true rfl) (Nat.le_of_ble_eq_true rfl) (xcat1_of rfl) rfl ?_
    refine X_aload_nN dX1_keep_9 rfl ?_
    refine X_ifnullN 18 dX1_keep_10 (by decide) ?_
    refine X_cut 2 ?_
    exact x_X1_keep_18 h
  · obtain ⟨hq3, h⟩ := xgd_some h
    have hq3 := xSta_of hq3
    refine X_astore_n [.ref 18, .ref 1, .ref q3] dX1_keep_8 (Nat.le_of_ble_eq_true rfl) (Nat.le_of_ble_eq_true rfl) (xcat1_of rfl) rfl ?_
    refine X_aload_n (x := q3) dX1_keep_9 rfl ?_
    refine X_ifnull dX1_keep_10 ?_
    refine X_aload_n (x := q3) dX1_keep_13 rfl ?_
    refine X_aload_n (x := 1) dX1_keep_14 rfl ?_
    refine X_vV (μ' := mX5_copyFrom) [.ref 1] [] kL_RX1_24 kM_X5_copyFrom ⟨_, _, _, hq3.1, rfl, rfl⟩ rfl rfl rfl dX1_keep_15 h (fun _ hv => x_X5_copyFrom hq3 xSta_1 hv) (fun M4 h => ?_)
    refine X_cut 2 ?_
    exact x_X1_keep_18 h
def f_X1_takeBack_18 (M : xM) (s1 : Int32) : Option xM :=
  xl (xw M 18 1 s1) fun M1 =>
  xl (xw M1 18 2 (xmx ((M1 18 2) - 1) 0)) fun M2 =>
  xb (f_X1_stateAt M2 (M2 18 1)) fun r => xo r (
    some M2)
  (fun q3 => xgd (xStaB q3) <|
    xb (f_X5_copyFrom 1 q3 M2) fun M4 =>
    some M4)
set_option maxHeartbeats 1000000 in
theorem x_X1_takeBack_18 {ξ : xX} {M : xM} {s1 : Int32} {z : xM} (h : f_X1_takeBack_18 M s1 = some z) : X ξ mX1_takeBack 18 [.ref 18, .ref 1] [.int s1, .ref 18] SH M 0 0 (xr none SH z) := by
  rw [f_X1_takeBack_18] at h
  refine X_putI kF_RX1_16 sh_18 rfl rfl rfl dX1_takeBack_18 h (fun M1 h => ?_)
  refine X_aload_n (x := 18) dX1_takeBack_21 rfl ?_
  refine X_aload_n (x := 18) dX1_takeBack_22 rfl ?_
  refine X_get (v := .int (M1 18 2)) kF_RX1_28 sh_18 rfl rfl dX1_takeBack_23 ?_
  refine X_iconst 1 dX1_takeBack_26 rfl ?_
  refine X_isub dX1_takeBack_27 ?_
  refine X_iconst 0 dX1_takeBack_28 rfl ?_
  refine X_max kJ_RX1_37 (Nat.le_of_ble_eq_true rfl) (Nat.le_of_ble_eq_true rfl) (Nat.le_refl _) (Nat.le_refl _) dX1_takeBack_29 ?_
  refine X_putI kF_RX1_28 sh_18 rfl rfl rfl dX1_takeBack_32 h (fun M2 h => ?_)
  refine X_aload_n (x := 18) dX1_takeBack_35 rfl ?_
  refine X_aload_n (x := 18) dX1_takeBack_36 rfl ?_
  refine X_get (v := .int (M2 18 1)) kF_RX1_16 sh_18 rfl rfl dX1_takeBack_37 ?_
  refine X_vR (μ' := mX1_stateAt) [.int (M2 18 1)] [] kL_RX1_20 kM_X1_stateAt rv_18 rfl rfl rfl dX1_takeBack_40 h (fun _ hv => x_X1_stateAt hv) (fun h => ?_) (fun q3 h => ?_)
  · refine X_astore_nN [.ref 18, .ref 1, .null] dX1_takeBack_43 (Nat.le_of_ble_eq_true rfl) (Nat.le_of_ble_eq_true rfl) (xcat1_of rfl) rfl ?_
    refine X_aload_nN dX1_takeBack_44 rfl ?_
    refine X_ifnullN 53 dX1_takeBack_45 (by decide) ?_
    exact X_retV dX1_takeBack_53 rfl (Nat.le_refl _) (Nat.le_refl _) h
  · obtain ⟨hq3, h⟩ := xgd_some h
    have hq3 := xSta_of hq3
    refine X_astore_n [.ref 18, .ref 1, .ref q3] dX1_takeBack_43 (Nat.le_of_ble_eq_true rfl) (Nat.le_of_ble_eq_true rfl) (xcat1_of rfl) rfl ?_
    refine X_aload_n (x := q3) dX1_takeBack_44 rfl ?_
    refine X_ifnull dX1_takeBack_45 ?_
    refine X_aload_n (x := 1) dX1_takeBack_48 rfl ?_
    refine X_aload_n (x := q3) dX1_takeBack_49 rfl ?_
    refine X_vV (μ' := mX5_copyFrom) [.ref q3] [] kL_RX1_24 kM_X5_copyFrom rv_1 rfl rfl rfl dX1_takeBack_50 h (fun _ hv => x_X5_copyFrom xSta_1 hq3 hv) (fun M4 h => ?_)
    exact X_retV dX1_takeBack_53 rfl (Nat.le_refl _) (Nat.le_refl _) h
def f_X1_takeBack (M : xM) : Option xM :=
  if (M 18 1) ≤ 0 then (
    f_X1_takeBack_18 M 4)
  else (
    f_X1_takeBack_18 M ((M 18 1) - 1))
set_option maxHeartbeats 1000000 in
theorem x_X1_takeBack {ξ : xX} {M : xM} {z : xM} (h : f_X1_takeBack M = some z) : X ξ mX1_takeBack 0 [.ref 18, .ref 1] [] SH M 0 0 (xr none SH z) := by
  rw [f_X1_takeBack] at h
  refine X_aload_n (x := 18) dX1_takeBack_0 rfl ?_
  refine X_aload_n (x := 18) dX1_takeBack_1 rfl ?_
  refine X_get (v := .int (M 18 1)) kF_RX1_16 sh_18 rfl rfl dX1_takeBack_2 ?_
  refine X_if_le 17 dX1_takeBack_5 (by decide) h (fun h => ?_) (fun h => ?_)
  · refine X_iconst 4 dX1_takeBack_17 rfl ?_
    exact x_X1_takeBack_18 h
  · refine X_aload_n (x := 18) dX1_takeBack_8 rfl ?_
    refine X_get (v := .int (M 18 1)) kF_RX1_16 sh_18 rfl rfl dX1_takeBack_9 ?_
    refine X_iconst 1 dX1_takeBack_12 rfl ?_
    refine X_isub dX1_takeBack_13 ?_
    refine X_goto 18 dX1_takeBack_14 (by decide) ?_
    exact x_X1_takeBack_18 h
