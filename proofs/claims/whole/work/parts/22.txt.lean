def f_X7_put (M : xM) (a1 : Int32) : Option (Int32 × xM) :=
  if (M 141 2) < 0 then (
    some (0, M))
  else (
    if (M 141 2) < 80 then (
      xgd (xin (M 141 2) 80) <| xl (xw M 142 (M 141 2).toNatClampNeg a1) fun M1 =>
      xl (xw M1 141 2 ((M1 141 2) + 1)) fun M2 =>
      some (1, M2))
    else (
      some (0, M)))
set_option maxHeartbeats 1000000 in
theorem x_X7_put {ξ : xX} {M : xM} {a1 : Int32} {z : (Int32 × xM)} (h : f_X7_put M a1 = some z) : X ξ mX7_put 0 [.ref 141, .int a1] [] SH M 0 0 (xr (some (.int z.1)) SH z.2) := by
  rw [f_X7_put] at h
  refine X_aload_n (x := 141) dX7_put_0 rfl ?_
  refine X_get (v := .int (M 141 2)) kF_RX7_18 sh_141 rfl rfl dX7_put_1 ?_
  refine X_if_lt 19 dX7_put_4 (by decide) h (fun h => ?_) (fun h => ?_)
  · refine X_iconst 0 dX7_put_19 rfl ?_
    exact X_retL (by decide) dX7_put_20 rfl (Nat.le_refl _) (Nat.le_refl _) h
  · refine X_aload_n (x := 141) dX7_put_7 rfl ?_
    refine X_get (v := .int (M 141 2)) kF_RX7_18 sh_141 rfl rfl dX7_put_8 ?_
    refine X_aload_n (x := 141) dX7_put_11 rfl ?_
    refine X_get (v := .ref 142) kF_RX7_11 sh_141 rfl rfl dX7_put_12 ?_
    refine X_alen 80 sh_142 rfl dX7_put_15 ?_
    refine X_icmp_lt 21 dX7_put_16 (by decide) h (fun h => ?_) (fun h => ?_)
    · refine X_aload_n (x := 141) dX7_put_21 rfl ?_
      refine X_get (v := .ref 142) kF_RX7_11 sh_141 rfl rfl dX7_put_22 ?_
      refine X_aload_n (x := 141) dX7_put_25 rfl ?_
      refine X_get (v := .int (M 141 2)) kF_RX7_18 sh_141 rfl rfl dX7_put_26 ?_
      refine X_iload_n (x := a1) dX7_put_29 rfl ?_
      refine X_iast sh_142 dX7_put_30 h (fun M1 h => ?_)
      refine X_aload_n (x := 141) dX7_put_31 rfl ?_
      refine X_dup dX7_put_32 rfl ?_
      refine X_get (v := .int (M1 141 2)) kF_RX7_18 sh_141 rfl rfl dX7_put_33 ?_
      refine X_iconst 1 dX7_put_36 rfl ?_
      refine X_iadd dX7_put_37 ?_
      refine X_putI kF_RX7_18 sh_141 rfl rfl rfl dX7_put_38 h (fun M2 h => ?_)
      refine X_iconst 1 dX7_put_41 rfl ?_
      exact X_retL (by decide) dX7_put_42 rfl (Nat.le_refl _) (Nat.le_refl _) h
    · refine X_iconst 0 dX7_put_19 rfl ?_
      exact X_retL (by decide) dX7_put_20 rfl (Nat.le_refl _) (Nat.le_refl _) h
def f_X7_byteAt (M : xM) (a1 : Int32) : Option Int32 :=
  if a1 < 0 then (
    some (-1))
  else (
    if (M 141 2) ≤ a1 then (
      some (-1))
    else (
      if 80 ≤ a1 then (
        some (-1))
      else (
        xgd (xin a1 80) <|
        some (M 142 a1.toNatClampNeg))))
set_option maxHeartbeats 1000000 in
theorem x_X7_byteAt {ξ : xX} {M : xM} {a1 : Int32} {z : Int32} (h : f_X7_byteAt M a1 = some z) : X ξ mX7_byteAt 0 [.ref 141, .int a1] [] SH M 0 0 (xr (some (.int z)) SH M) := by
  rw [f_X7_byteAt] at h
  refine X_iload_n (x := a1) dX7_byteAt_0 rfl ?_
  refine X_if_lt 30 dX7_byteAt_1 (by decide) h (fun h => ?_) (fun h => ?_)
  · refine X_iconst (-1) dX7_byteAt_30 rfl ?_
    exact X_retP dX7_byteAt_31 rfl (Nat.le_refl _) (Nat.le_refl _) h
  · refine X_iload_n (x := a1) dX7_byteAt_4 rfl ?_
    refine X_aload_n (x := 141) dX7_byteAt_5 rfl ?_
    refine X_get (v := .int (M 141 2)) kF_RX7_18 sh_141 rfl rfl dX7_byteAt_6 ?_
    refine X_icmp_ge 30 dX7_byteAt_9 (by decide) h (fun h => ?_) (fun h => ?_)
    · refine X_iconst (-1) dX7_byteAt_30 rfl ?_
      exact X_retP dX7_byteAt_31 rfl (Nat.le_refl _) (Nat.le_refl _) h
    · refine X_iload_n (x := a1) dX7_byteAt_12 rfl ?_
      refine X_aload_n (x := 141) dX7_byteAt_13 rfl ?_
      refine X_get (v := .ref 142) kF_RX7_11 sh_141 rfl rfl dX7_byteAt_14 ?_
      refine X_alen 80 sh_142 rfl dX7_byteAt_17 ?_
      refine X_icmp_ge 30 dX7_byteAt_18 (by decide) h (fun h => ?_) (fun h => ?_)
      · refine X_iconst (-1) dX7_byteAt_30 rfl ?_
        exact X_retP dX7_byteAt_31 rfl (Nat.le_refl _) (Nat.le_refl _) h
      · refine X_aload_n (x := 141) dX7_byteAt_21 rfl ?_
        refine X_get (v := .ref 142) kF_RX7_11 sh_141 rfl rfl dX7_byteAt_22 ?_
        refine X_iload_n (x := a1) dX7_byteAt_25 rfl ?_
        refine X_iald sh_142 dX7_byteAt_26 h (fun h => ?_)
        refine X_goto 31 dX7_byteAt_27 (by decide) ?_
        exact X_retP dX7_byteAt_31 rfl (Nat.le_refl _) (Nat.le_refl _) h
def f_X7_number (M : xM) (a1 : Int32) : Option Int32 :=
  if a1 < 0 then (
    some 0)
  else (
    if 4 ≤ a1 then (
      some 0)
    else (
      xgd (xin a1 4) <|
      some (M 143 a1.toNatClampNeg)))
set_option maxHeartbeats 1000000 in
theorem x_X7_number {ξ : xX} {M : xM} {a1 : Int32} {z : Int32} (h : f_X7_number M a1 = some z) : X ξ mX7_number 0 [.ref 141, .int a1] [] SH M 0 0 (xr (some (.int z)) SH M) := by
  rw [f_X7_number] at h
  refine X_iload_n (x := a1) dX7_number_0 rfl ?_
  refine X_if_lt 22 dX7_number_1 (by decide) h (fun h => ?_) (fun h => ?_)
  · refine X_iconst 0 dX7_number_22 rfl ?_
    exact X_retP dX7_number_23 rfl (Nat.le_refl _) (Nat.le_refl _) h
  · refine X_iload_n (x := a1) dX7_number_4 rfl ?_
    refine X_aload_n (x := 141) dX7_number_5 rfl ?_
    refine X_get (v := .ref 143) kF_RX7_15 sh_141 rfl rfl dX7_number_6 ?_
    refine X_alen 4 sh_143 rfl dX7_number_9 ?_
    refine X_icmp_ge 22 dX7_number_10 (by decide) h (fun h => ?_) (fun h => ?_)
    · refine X_iconst 0 dX7_number_22 rfl ?_
      exact X_retP dX7_number_23 rfl (Nat.le_refl _) (Nat.le_refl _) h
    · refine X_aload_n (x := 141) dX7_number_13 rfl ?_
      refine X_get (v := .ref 143) kF_RX7_15 sh_141 rfl rfl dX7_number_14 ?_
      refine X_iload_n (x := a1) dX7_number_17 rfl ?_
      refine X_iald sh_143 dX7_number_18 h (fun h => ?_)
      refine X_goto 23 dX7_number_19 (by decide) ?_
      exact X_retP dX7_number_23 rfl (Nat.le_refl _) (Nat.le_refl _) h
def f_X7_faultAt (a1 : Int32) : Option Int32 :=
  some ((-1) - a1)
set_option maxHeartbeats 1000000 in
theorem x_X7_faultAt {ξ : xX} {M : xM} {a1 : Int32} {z : Int32} (h : f_X7_faultAt a1 = some z) : X ξ mX7_faultAt 0 [.int a1] [] SH M 0 0 (xr (some (.int z)) SH M) := by
  rw [f_X7_faultAt] at h
  refine X_iconst (-1) dX7_faultAt_0 rfl ?_
  refine X_iload_n (x := a1) dX7_faultAt_1 rfl ?_
  refine X_isub dX7_faultAt_2 ?_
  exact X_retP dX7_faultAt_3 rfl (Nat.le_refl _) (Nat.le_refl _) h
def f_X7_endOfDigits_16 (M : xM) : Nat → Int32 → Int32 → Option Int32
  | 0, _, _ => none
  | fu + 1, i1, i2 =>
    if (i1 + 3) ≤ i2 then (
      some i2)
    else (
      xb (f_X7_byteAt M i2) fun v3 =>
      if v3 < 48 then (
        some i2)
      else (
        xb (f_X7_byteAt M i2) fun v4 =>
        if 57 < v4 then (
          some i2)
        else (
          xl (i2 + 1) fun v5 =>
          (f_X7_endOfDigits_16 M fu) i1 v5)))
set_option maxHeartbeats 1000000 in
theorem x_X7_endOfDigits_16 {ξ : xX} {M : xM} : ∀ (fu : Nat) (i1 i2 : Int32) (z : Int32), f_X7_endOfDigits_16 M fu i1 i2 = some z → X ξ mX7_endOfDigits 16 [.ref 141, .int i1, .int i2] [] SH M 0 0 (xr (some (.int z)) SH M) := by
  intro fu
  induction fu with
  | zero => intro i1 i2 z h; rw [f_X7_endOfDigits_16] at h; cases h
  | succ fu ih =>
    intro i1 i2 z h
    rw [f_X7_endOfDigits_16] at h
    refine X_iload_n (x := i2) dX7_endOfDigits_16 rfl ?_
    refine X_iload_n (x := i1) dX7_endOfDigits_17 rfl ?_
    refine X_iconst 3 dX7_endOfDigits_18 rfl ?_
    refine X_iadd dX7_endOfDigits_19 ?_
    refine X_icmp_ge 49 dX7_endOfDigits_20 (by decide) h (fun h => ?_) (fun h => ?_)
    · refine X_iload_n (x := i2) dX7_endOfDigits_49 rfl ?_
      exact X_retP dX7_endOfDigits_50 rfl (Nat.le_refl _) (Nat.le_refl _) h
    · refine X_aload_n (x := 141) dX7_endOfDigits_23 rfl ?_
      refine X_iload_n (x := i2) dX7_endOfDigits_24 rfl ?_
      refine X_vP (μ' := mX7_byteAt) [.int i2] [] kL_RX7_26 kM_X7_byteAt rv_141 rfl rfl rfl dX7_endOfDigits_25 h (fun _ hv => x_X7_byteAt hv) (fun v3 h => ?_)
      refine X_bipush 48 dX7_endOfDigits_28 rfl ?_
      refine X_icmp_lt 49 dX7_endOfDigits_30 (by decide) h (fun h => ?_) (fun h => ?_)
      · refine X_iload_n (x := i2) dX7_endOfDigits_49 rfl ?_
        exact X_retP dX7_endOfDigits_50 rfl (Nat.le_refl _) (Nat.le_refl _) h
      · refine X_aload_n (x := 141) dX7_endOfDigits_33 rfl ?_
        refine X_iload_n (x := i2) dX7_endOfDigits_34 rfl ?_
        refine X_vP (μ' := mX7_byteAt) [.int i2] [] kL_RX7_26 kM_X7_byteAt rv_141 rfl rfl rfl dX7_endOfDigits_35 h (fun _ hv => x_X7_byteAt hv) (fun v4 h => ?_)
        refine X_bipush 57 dX7_endOfDigits_38 rfl ?_
        refine X_icmp_gt 49 dX7_endOfDigits_40 (by decide) h (fun h => ?_) (fun h => ?_)
        · refine X_iload_n (x := i2) dX7_endOfDigits_49 rfl ?_
          exact X_retP dX7_endOfDigits_50 rfl (Nat.le_refl _) (Nat.le_refl _) h
        · refine X_iincL (x := i2) 1 (fun v5 => [.ref 141, .int i1, .int v5]) dX7_endOfDigits_43 rfl rfl (Nat.le_of_ble_eq_true rfl) (xcat1_of rfl) h (fun _ => rfl) (fun v5 h => ?_)
          refine X_goto 16 dX7_endOfDigits_46 (by decide) ?_
          exact ih _ _ _ h
def f_X7_endOfDigits (M : xM) (a1 : Int32) : Option Int32 :=
  xb (f_X7_byteAt M a1) fun v6 =>
  if v6 = 48 then (
    some (a1 + 1))
  else (
    xl a1 fun v7 =>
    f_X7_endOfDigits_16 M xFU a1 v7)
set_option maxHeartbeats 1000000 in
theorem x_X7_endOfDigits {ξ : xX} {M : xM} {a1 : Int32} {z : Int32} (h : f_X7_endOfDigits M a1 = some z) : X ξ mX7_endOfDigits 0 [.ref 141, .int a1] [] SH M 0 0 (xr (some (.int z)) SH M) := by
  rw [f_X7_endOfDigits] at h
  refine X_aload_n (x := 141) dX7_endOfDigits_0 rfl ?_
  refine X_iload_n (x := a1) dX7_endOfDigits_1 rfl ?_
  refine X_vP (μ' := mX7_byteAt) [.int a1] [] kL_RX7_26 kM_X7_byteAt rv_141 rfl rfl rfl dX7_endOfDigits_2 h (fun _ hv => x_X7_byteAt hv) (fun v6 h => ?_)
  refine X_bipush 48 dX7_endOfDigits_5 rfl ?_
  refine X_icmp_ne 14 dX7_endOfDigits_7 (by decide) h (fun h => ?_) (fun h => ?_)
  · refine X_iload_n (x := a1) dX7_endOfDigits_14 rfl ?_
    refine X_istoreL_n (fun v7 => [.ref 141, .int a1, .int v7]) dX7_endOfDigits_15 (Nat.le_of_ble_eq_true rfl) (Nat.le_of_ble_eq_true rfl) (xcat1_of rfl) h (fun _ => rfl) (fun v7 h => ?_)
    exact x_X7_endOfDigits_16 _ _ _ _ h
  · refine X_iload_n (x := a1) dX7_endOfDigits_10 rfl ?_
    refine X_iconst 1 dX7_endOfDigits_11 rfl ?_
    refine X_iadd dX7_endOfDigits_12 ?_
    exact X_retP dX7_endOfDigits_13 rfl (Nat.le_refl _) (Nat.le_refl _) h
def f_X7_valueOfDigits_5 (M : xM) : Nat → Int32 → Int32 → Int32 → Int32 → Option Int32
  | 0, _, _, _, _ => none
  | fu + 1, i1, i2, i3, i4 =>
    if i2 ≤ i4 then (
      some i3)
    else (
      xb (f_X7_byteAt M i4) fun v5 =>
      xl (((i3 * 10) + v5) - 48) fun v6 =>
      xl (i4 + 1) fun v7 =>
      (f_X7_valueOfDigits_5 M fu) i1 i2 v6 v7)
set_option maxHeartbeats 1000000 in
theorem x_X7_valueOfDigits_5 {ξ : xX} {M : xM} : ∀ (fu : Nat) (i1 i2 i3 i4 : Int32) (z : Int32), f_X7_valueOfDigits_5 M fu i1 i2 i3 i4 = some z → X ξ mX7_valueOfDigits 5 [.ref 141, .int i1, .int i2, .int i3, .int i4] [] SH M 0 0 (xr (some (.int z)) SH M) := by
  intro fu
  induction fu with
  | zero => intro i1 i2 i3 i4 z h; rw [f_X7_valueOfDigits_5] at h; cases h
  | succ fu ih =>
    intro i1 i2 i3 i4 z h
    rw [f_X7_valueOfDigits_5] at h
    refine X_iload (x := i4) dX7_valueOfDigits_5 rfl ?_
    refine X_iload_n (x := i2) dX7_valueOfDigits_7 rfl ?_
    refine X_icmp_ge 32 dX7_valueOfDigits_8 (by decide) h (fun h => ?_) (fun h => ?_)
    · refine X_iload_n (x := i3) dX7_valueOfDigits_32 rfl ?_
      exact X_retP dX7_valueOfDigits_33 rfl (Nat.le_refl _) (Nat.le_refl _) h
    · refine X_iload_n (x := i3) dX7_valueOfDigits_11 rfl ?_
      refine X_bipush 10 dX7_valueOfDigits_12 rfl ?_
      refine X_imul dX7_valueOfDigits_14 ?_
      refine X_aload_n (x := 141) dX7_valueOfDigits_15 rfl ?_
      refine X_iload (x := i4) dX7_valueOfDigits_16 rfl ?_
      refine X_vP (μ' := mX7_byteAt) [.int i4] [.int (i3 * 10)] kL_RX7_26 kM_X7_byteAt rv_141 rfl rfl rfl dX7_valueOfDigits_18 h (fun _ hv => x_X7_byteAt hv) (fun v5 h => ?_)
      refine X_iadd dX7_valueOfDigits_21 ?_
      refine X_bipush 48 dX7_valueOfDigits_22 rfl ?_
      refine X_isub dX7_valueOfDigits_24 ?_
      refine X_istoreL_n (fun v6 => [.ref 141, .int i1, .int i2, .int v6, .int i4]) dX7_valueOfDigits_25 (Nat.le_of_ble_eq_true rfl) (Nat.le_of_ble_eq_true rfl) (xcat1_of rfl) h (fun _ => rfl) (fun v6 h => ?_)
      refine X_iincL (x := i4) 1 (fun v7 => [.ref 141, .int i1, .int i2, .int v6, .int v7]) dX7_valueOfDigits_26 rfl rfl (Nat.le_of_ble_eq_true rfl) (xcat1_of rfl) h (fun _ => rfl) (fun v7 h => ?_)
      refine X_goto 5 dX7_valueOfDigits_29 (by decide) ?_
      exact ih _ _ _ _ _ h
def f_X7_valueOfDigits (M : xM) (a1 a2 : Int32) : Option Int32 :=
  xl (0 : Int32) fun v8 =>
  xl a1 fun v9 =>
  f_X7_valueOfDigits_5 M xFU a1 a2 v8 v9
set_option maxHeartbeats 1000000 in
theorem x_X7_valueOfDigits {ξ : xX} {M : xM} {a1 a2 : Int32} {z : Int32} (h : f_X7_valueOfDigits M a1 a2 = some z) : X ξ mX7_valueOfDigits 0 [.ref 141, .int a1, .int a2] [] SH M 0 0 (xr (some (.int z)) SH M) := by
  rw [f_X7_valueOfDigits] at h
  refine X_iconst 0 dX7_valueOfDigits_0 rfl ?_
  refine X_istoreL_n (fun v8 => [.ref 141, .int a1, .int a2, .int v8]) dX7_valueOfDigits_1 (Nat.le_of_ble_eq_true rfl) (Nat.le_of_ble_eq_true rfl) (xcat1_of rfl) h (fun _ => rfl) (fun v8 h => ?_)
  refine X_iload_n (x := a1) dX7_valueOfDigits_2 rfl ?_
  refine X_istoreL (fun v9 => [.ref 141, .int a1, .int a2, .int v8, .int v9]) dX7_valueOfDigits_3 (Nat.le_of_ble_eq_true rfl) (Nat.le_of_ble_eq_true rfl) (xcat1_of rfl) h (fun _ => rfl) (fun v9 h => ?_)
  exact x_X7_valueOfDigits_5 _ _ _ _ _ _ h
def f_X7_readNumber_64 (M : xM) (i1 : Int32) (i2 : Int32) (i3 : Int32) (i4 : Int32) (i5 : Int32) (i6 : Int32) (i7 : Int32) (i8 : Int32) : Option (Int32 × xM) :=
  xb (f_X7_faultAt i6) fun v4 =>
  some (v4, M)
set_option maxHeartbeats 1000000 in
theorem x_X7_readNumber_64 {ξ : xX} {M : xM} {i1 : Int32} {i2 : Int32} {i3 : Int32} {i4 : Int32} {i5 : Int32} {i6 : Int32} {i7 : Int32} {i8 : Int32} {z : (Int32 × xM)} (h : f_X7_readNumber_64 M i1 i2 i3 i4 i5 i6 i7 i8 = some z) : X ξ mX7_readNumber 64 [.ref 141, .int i1, .int i2, .int i3, .int i4, .int i5, .int i6, .int i7, .int i8] [] SH M 0 0 (xr (some (.int z.1)) SH z.2) := by
  rw [f_X7_readNumber_64] at h
  refine X_iload (x := i6) dX7_readNumber_64 rfl ?_
  refine X_sP (μ' := mX7_faultAt) [.int i6] [] kL_RX7_36 kM_X7_faultAt rfl rfl rfl dX7_readNumber_66 h (fun _ hv => x_X7_faultAt hv) (fun v4 h => ?_)
  exact X_retI dX7_readNumber_69 rfl (Nat.le_refl _) (Nat.le_refl _) h
def f_X7_readNumber (M : xM) (a1 a2 a3 a4 a5 : Int32) : Option (Int32 × xM) :=
  if 0 ≤ a1 then (
    xb (f_X7_byteAt M a1) fun v5 =>
    if v5 = a2 then (
      xl (a1 + 1) fun v6 =>
      xb (f_X7_endOfDigits M v6) fun v7 =>
      xl v7 fun v8 =>
      xb (f_X7_valueOfDigits M v6 v8) fun v9 =>
      xl v9 fun v10 =>
      if v8 = v6 then (
        f_X7_readNumber_64 M a1 a2 a3 a4 a5 v6 v8 v10)
      else (
        if v10 < a4 then (
          f_X7_readNumber_64 M a1 a2 a3 a4 a5 v6 v8 v10)
        else (
          if v10 ≤ a5 then (
            if a3 < 0 then (
              some (v8, M))
            else (
              if 4 ≤ a3 then (
                some (v8, M))
              else (
                xgd (xin a3 4) <| xl (xw M 143 a3.toNatClampNeg v10) fun M11 =>
                some (v8, M11))))
          else (
            f_X7_readNumber_64 M a1 a2 a3 a4 a5 v6 v8 v10))))
    else (
      xb (f_X7_faultAt a1) fun v12 =>
      some (v12, M)))
  else (
    some (a1, M))
set_option maxHeartbeats 1000000 in
theorem x_X7_readNumber {ξ : xX} {M : xM} {a1 a2 a3 a4 a5 : Int32} {z : (Int32 × xM)} (h : f_X7_readNumber M a1 a2 a3 a4 a5 = some z) : X ξ mX7_readNumber 0 [.ref 141, .int a1, .int a2, .int a3, .int a4, .int a5] [] SH M 0 0 (xr (some (.int z.1)) SH z.2) := by
  rw [f_X7_readNumber] at h
  refine X_iload_n (x := a1) dX7_readNumber_0 rfl ?_
  refine X_if_ge 6 dX7_readNumber_1 (by decide) h (fun h => ?_) (fun h => ?_)
  · refine X_aload_n (x := 141) dX7_readNumber_6 rfl ?_
    refine X_iload_n (x := a1) dX7_readNumber_7 rfl ?_
    refine X_vP (μ' := mX7_byteAt) [.int a1] [] kL_RX7_26 kM_X7_byteAt rv_141 rfl rfl rfl dX7_readNumber_8 h (fun _ hv => x_X7_byteAt hv) (fun v5 h => ?_)
    refine X_iload_n (x := a2) dX7_readNumber_11 rfl ?_
    refine X_icmp_eq 20 dX7_readNumber_12 (by decide) h (fun h => ?_) (fun h => ?_)
    · refine X_iload_n (x := a1) dX7_readNumber_20 rfl ?_
      refine X_iconst 1 dX7_readNumber_21 rfl ?_
      refine X_iadd dX7_readNumber_22 ?_
      refine X_istoreL (fun v6 => [.ref 141, .int a1, .int a2, .int a3, .int a4, .int a5, .int v6]) dX7_readNumber_23 (Nat.le_of_ble_eq_true rfl) (Nat.le_of_ble_eq_true rfl) (xcat1_of rfl) h (fun _ => rfl) (fun v6 h => ?_)
      refine X_aload_n (x := 141) dX7_readNumber_25 rfl ?_
      refine X_iload (x := v6) dX7_readNumber_26 rfl ?_
      refine X_vP (μ' := mX7_endOfDigits) [.int v6] [] kL_RX7_39 kM_X7_endOfDigits rv_141 rfl rfl rfl dX7_readNumber_28 h (fun _ hv => x_X7_endOfDigits hv) (fun v7 h => ?_)
      refine X_istoreL (fun v8 => [.ref 141, .int a1, .int a2, .int a3, .int a4, .int a5, .int v6, .int v8]) dX7_readNumber_31 (Nat.le_of_ble_eq_true rfl) (Nat.le_of_ble_eq_true rfl) (xcat1_of rfl) h (fun _ => rfl) (fun v8 h => ?_)
      refine X_aload_n (x := 141) dX7_readNumber_33 rfl ?_
      refine X_iload (x := v6) dX7_readNumber_34 rfl ?_
      refine X_iload (x := v8) dX7_readNumber_36 rfl ?_
      refine X_vP (μ' := mX7_valueOfDigits) [.int v6, .int v8] [] kL_RX7_42 kM_X7_valueOfDigits rv_141 rfl rfl rfl dX7_readNumber_38 h (fun _ hv => x_X7_valueOfDigits hv) (fun v9 h => ?_)
      refine X_istoreL (fun v10 => [.ref 141, .int a1, .int a2, .int a3, .int a4, .int a5, .int v6, .int v8, .int v10]) dX7_readNumber_41 (Nat.le_of_ble_eq_true rfl) (Nat.le_of_ble_eq_true rfl) (xcat1_of rfl) h (fun _ => rfl) (fun v10 h => ?_)
      refine X_iload (x := v8) dX7_readNumber_43 rfl ?_
      refine X_iload (x := v6) dX7_readNumber_45 rfl ?_
      refine X_icmp_eq 64 dX7_readNumber_47 (by decide) h (fun h => ?_) (fun h => ?_)
      · exact x_X7_readNumber_64 h
      · refine X_iload (x := v10) dX7_readNumber_50 rfl ?_
        refine X_iload (x := a4) dX7_readNumber_52 rfl ?_
        refine X_icmp_lt 64 dX7_readNumber_54 (by decide) h (fun h => ?_) (fun h => ?_)
        · exact x_X7_readNumber_64 h
        · refine X_iload (x := v10) dX7_readNumber_57 rfl ?_
          refine X_iload (x := a5) dX7_readNumber_59 rfl ?_
          refine X_icmp_le 70 dX7_readNumber_61 (by decide) h (fun h => ?_) (fun h => ?_)
          · refine X_iload_n (x := a3) dX7_readNumber_70 rfl ?_
            refine X_if_lt 91 dX7_readNumber_71 (by decide) h (fun h => ?_) (fun h => ?_)
            · refine X_iload (x := v8) dX7_readNumber_91 rfl ?_
              exact X_retI dX7_readNumber_93 rfl (Nat.le_refl _) (Nat.le_refl _) h
            · refine X_iload_n (x := a3) dX7_readNumber_74 rfl ?_
              refine X_aload_n (x := 141) dX7_readNumber_75 rfl ?_
              refine X_get (v := .ref 143) kF_RX7_15 sh_141 rfl rfl dX7_readNumber_76 ?_
              refine X_alen 4 sh_143 rfl dX7_readNumber_79 ?_
              refine X_icmp_ge 91 dX7_readNumber_80 (by decide) h (fun h => ?_) (fun h => ?_)
              · refine X_iload (x := v8) dX7_readNumber_91 rfl ?_
                exact X_retI dX7_readNumber_93 rfl (Nat.le_refl _) (Nat.le_refl _) h
              · refine X_aload_n (x := 141) dX7_readNumber_83 rfl ?_
                refine X_get (v := .ref 143) kF_RX7_15 sh_141 rfl rfl dX7_readNumber_84 ?_
                refine X_iload_n (x := a3) dX7_readNumber_87 rfl ?_
                refine X_iload (x := v10) dX7_readNumber_88 rfl ?_
                refine X_iast sh_143 dX7_readNumber_90 h (fun M11 h => ?_)
                refine X_iload (x := v8) dX7_readNumber_91 rfl ?_
                exact X_retI dX7_readNumber_93 rfl (Nat.le_refl _) (Nat.le_refl _) h
          · exact x_X7_readNumber_64 h
    · refine X_iload_n (x := a1) dX7_readNumber_15 rfl ?_
      refine X_sP (μ' := mX7_faultAt) [.int a1] [] kL_RX7_36 kM_X7_faultAt rfl rfl rfl dX7_readNumber_16 h (fun _ hv => x_X7_faultAt hv) (fun v12 h => ?_)
      exact X_retI dX7_readNumber_19 rfl (Nat.le_refl _) (Nat.le_refl _) h
  · refine X_iload_n (x := a1) dX7_readNumber_4 rfl ?_
    exact X_retI dX7_readNumber_5 rfl (Nat.le_refl _) (Nat.le_refl _) h
def f_X7_readEnd (M : xM) (a1 : Int32) : Option Int32 :=
  if 0 ≤ a1 then (
    xb (f_X7_byteAt M a1) fun v1 =>
    if v1 = 59 then (
      some (a1 + 1))
    else (
      xb (f_X7_faultAt a1) fun v2 =>
      some v2))
  else (
    some a1)
set_option maxHeartbeats 1000000 in
theorem x_X7_readEnd {ξ : xX} {M : xM} {a1 : Int32} {z : Int32} (h : f_X7_readEnd M a1 = some z) : X ξ mX7_readEnd 0 [.ref 141, .int a1] [] SH M 0 0 (xr (some (.int z)) SH M) := by
  rw [f_X7_readEnd] at h
  refine X_iload_n (x := a1) dX7_readEnd_0 rfl ?_
  refine X_if_ge 6 dX7_readEnd_1 (by decide) h (fun h => ?_) (fun h => ?_)
  · refine X_aload_n (x := 141) dX7_readEnd_6 rfl ?_
    refine X_iload_n (x := a1) dX7_readEnd_7 rfl ?_
    refine X_vP (μ' := mX7_byteAt) [.int a1] [] kL_RX7_26 kM_X7_byteAt rv_141 rfl rfl rfl dX7_readEnd_8 h (fun _ hv => x_X7_byteAt hv) (fun v1 h => ?_)
    refine X_bipush 59 dX7_readEnd_11 rfl ?_
    refine X_icmp_ne 22 dX7_readEnd_13 (by decide) h (fun h => ?_) (fun h => ?_)
    · refine X_iload_n (x := a1) dX7_readEnd_22 rfl ?_
      refine X_sP (μ' := mX7_faultAt) [.int a1] [] kL_RX7_36 kM_X7_faultAt rfl rfl rfl dX7_readEnd_23 h (fun _ hv => x_X7_faultAt hv) (fun v2 h => ?_)
      exact X_retP dX7_readEnd_26 rfl (Nat.le_refl _) (Nat.le_refl _) h
    · refine X_iload_n (x := a1) dX7_readEnd_16 rfl ?_
      refine X_iconst 1 dX7_readEnd_17 rfl ?_
      refine X_iadd dX7_readEnd_18 ?_
      refine X_goto 26 dX7_readEnd_19 (by decide) ?_
      exact X_retP dX7_readEnd_26 rfl (Nat.le_refl _) (Nat.le_refl _) h
  · refine X_iload_n (x := a1) dX7_readEnd_4 rfl ?_
    exact X_retP dX7_readEnd_5 rfl (Nat.le_refl _) (Nat.le_refl _) h
def f_X7_readAct (M : xM) (a1 : Int32) : Option (Int32 × xM) :=
  xb (f_X7_byteAt M a1) fun v2 =>
  if v2 = 97 then (
    xb2 (f_X7_readNumber M a1 97 0 0 15) fun v3 M4 =>
    xb (f_X7_readEnd M4 v3) fun v5 =>
    some (v5, M4))
  else (
    if v2 = 100 then (
      xb2 (f_X7_readNumber M a1 100 0 1 99) fun v6 M7 =>
      xb (f_X7_readEnd M7 v6) fun v8 =>
      some (v8, M7))
    else (
      if v2 = 116 then (
        xb2 (f_X7_readNumber M a1 116 0 0 7) fun v9 M10 =>
        xb2 (f_X7_readNumber M10 v9 109 1 0 3) fun v11 M12 =>
        xl v11 fun v13 =>
        xb2 (f_X7_readNumber M12 v13 118 2 1 380) fun v14 M15 =>
        xb2 (f_X7_readNumber M15 v14 115 3 0 1) fun v16 M17 =>
        xb (f_X7_readEnd M17 v16) fun v18 =>
        some (v18, M17))
      else (
        xb (f_X7_faultAt a1) fun v19 =>
        some (v19, M))))
set_option maxHeartbeats 1000000 in
theorem x_X7_readAct {ξ : xX} {M : xM} {a1 : Int32} {z : (Int32 × xM)} (h : f_X7_readAct M a1 = some z) : X ξ mX7_readAct 0 [.ref 141, .int a1] [] SH M 0 0 (xr (some (.int z.1)) SH z.2) := by
  rw [f_X7_readAct] at h
  refine X_aload_n (x := 141) dX7_readAct_0 rfl ?_
  refine X_iload_n (x := a1) dX7_readAct_1 rfl ?_
  refine X_vP (μ' := mX7_byteAt) [.int a1] [] kL_RX7_26 kM_X7_byteAt rv_141 rfl rfl rfl dX7_readAct_2 h (fun _ hv => x_X7_byteAt hv) (fun v2 h => ?_)
  by_cases e0 : v2 = 97
  · rw [if_pos e0] at h
    refine X_lsw (off := 82) 87 dX7_readAct_5 (by decide) (by rw [e0] <;> rfl) (by decide) ?_
    refine X_aload_n (x := 141) dX7_readAct_87 rfl ?_
    refine X_aload_n (x := 141) dX7_readAct_88 rfl ?_
    refine X_iload_n (x := a1) dX7_readAct_89 rfl ?_
    refine X_bipush 97 dX7_readAct_90 rfl ?_
    refine X_iconst 0 dX7_readAct_92 rfl ?_
    refine X_iconst 0 dX7_readAct_93 rfl ?_
    refine X_bipush 15 dX7_readAct_94 rfl ?_
    refine X_vI (μ' := mX7_readNumber) [.int a1, .int 97, .int 0, .int 0, .int 15] [.ref 141] kL_RX7_29 kM_X7_readNumber rv_141 rfl rfl rfl dX7_readAct_96 h (fun _ hv => x_X7_readNumber hv) (fun v3 M4 h => ?_)
    refine X_vP (μ' := mX7_readEnd) [.int v3] [] kL_RX7_33 kM_X7_readEnd rv_141 rfl rfl rfl dX7_readAct_99 h (fun _ hv => x_X7_readEnd hv) (fun v5 h => ?_)
    exact X_retI dX7_readAct_102 rfl (Nat.le_refl _) (Nat.le_refl _) h
  rw [if_neg e0] at h
  by_cases e1 : v2 = 100
  · rw [if_pos e1] at h
    refine X_lsw (off := 98) 103 dX7_readAct_5 (by decide) (by rw [e1] <;> rfl) (by decide) ?_
    refine X_aload_n (x := 141) dX7_readAct_103 rfl ?_
    refine X_aload_n (x := 141) dX7_readAct_104 rfl ?_
    refine X_iload_n (x := a1) dX7_readAct_105 rfl ?_
    refine X_bipush 100 dX7_readAct_106 rfl ?_
    refine X_iconst 0 dX7_readAct_108 rfl ?_
    refine X_iconst 1 dX7_readAct_109 rfl ?_
    refine X_bipush 99 dX7_readAct_110 rfl ?_
    refine X_vI (μ' := mX7_readNumber) [.int a1, .int 100, .int 0, .int 1, .int 99] [.ref 141] kL_RX7_29 kM_X7_readNumber rv_141 rfl rfl rfl dX7_readAct_112 h (fun _ hv => x_X7_readNumber hv) (fun v6 M7 h => ?_)
    refine X_vP (μ' := mX7_readEnd) [.int v6] [] kL_RX7_33 kM_X7_readEnd rv_141 rfl rfl rfl dX7_readAct_115 h (fun _ hv => x_X7_readEnd hv) (fun v8 h => ?_)
    exact X_retI dX7_readAct_118 rfl (Nat.le_refl _) (Nat.le_refl _) h
  rw [if_neg e1] at h
  by_cases e2 : v2 = 116
  · rw [if_pos e2] at h
    refine X_lsw (off := 35) 40 dX7_readAct_5 (by decide) (by rw [e2] <;> rfl) (by decide) ?_
    refine X_aload_n (x := 141) dX7_readAct_40 rfl ?_
    refine X_aload_n (x := 141) dX7_readAct_41 rfl ?_
    refine X_iload_n (x := a1) dX7_readAct_42 rfl ?_
    refine X_bipush 116 dX7_readAct_43 rfl ?_
    refine X_iconst 0 dX7_readAct_45 rfl ?_
    refine X_iconst 0 dX7_readAct_46 rfl ?_
    refine X_bipush 7 dX7_readAct_47 rfl ?_
    refine X_vI (μ' := mX7_readNumber) [.int a1, .int 116, .int 0, .int 0, .int 7] [.ref 141] kL_RX7_29 kM_X7_readNumber rv_141 rfl rfl rfl dX7_readAct_49 h (fun _ hv => x_X7_readNumber hv) (fun v9 M10 h => ?_)
    refine X_bipush 109 dX7_readAct_52 rfl ?_
    refine X_iconst 1 dX7_readAct_54 rfl ?_
    refine X_iconst 0 dX7_readAct_55 rfl ?_
    refine X_iconst 3 dX7_readAct_56 rfl ?_
    refine X_vI (μ' := mX7_readNumber) [.int v9, .int 109, .int 1, .int 0, .int 3] [] kL_RX7_29 kM_X7_readNumber rv_141 rfl rfl rfl dX7_readAct_57 h (fun _ hv => x_X7_readNumber hv) (fun v11 M12 h => ?_)
    refine X_istoreL_n (fun v13 => [.ref 141, .int a1, .int v13]) dX7_readAct_60 (Nat.le_of_ble_eq_true rfl) (Nat.le_of_ble_eq_true rfl) (xcat1_of rfl) h (fun _ => rfl) (fun v13 h => ?_)
    refine X_aload_n (x := 141) dX7_readAct_61 rfl ?_
    refine X_aload_n (x := 141) dX7_readAct_62 rfl ?_
    refine X_aload_n (x := 141) dX7_readAct_63 rfl ?_
    refine X_iload_n (x := v13) dX7_readAct_64 rfl ?_
    refine X_bipush 118 dX7_readAct_65 rfl ?_
    refine X_iconst 2 dX7_readAct_67 rfl ?_
    refine X_iconst 1 dX7_readAct_68 rfl ?_
    refine X_sipush 380 dX7_readAct_69 rfl ?_
    refine X_vI (μ' := mX7_readNumber) [.int v13, .int 118, .int 2, .int 1, .int 380] [.ref 141, .ref 141] kL_RX7_29 kM_X7_readNumber rv_141 rfl rfl rfl dX7_readAct_72 h (fun _ hv => x_X7_readNumber hv) (fun v14 M15 h => ?_)
    refine X_bipush 115 dX7_readAct_75 rfl ?_
    refine X_iconst 3 dX7_readAct_77 rfl ?_
    refine X_iconst 0 dX7_readAct_78 rfl ?_
    refine X_iconst 1 dX7_readAct_79 rfl ?_
    refine X_vI (μ' := mX7_readNumber) [.int v14, .int 115, .int 3, .int 0, .int 1] [.ref 141] kL_RX7_29 kM_X7_readNumber rv_141 rfl rfl rfl dX7_readAct_80 h (fun _ hv => x_X7_readNumber hv) (fun v16 M17 h => ?_)
    refine X_vP (μ' := mX7_readEnd) [.int v16] [] kL_RX7_33 kM_X7_readEnd rv_141 rfl rfl rfl dX7_readAct_83 h (fun _ hv => x_X7_readEnd hv) (fun v18 h => ?_)
    exact X_retI dX7_readAct_86 rfl (Nat.le_refl _) (Nat.le_refl _) h
  rw [if_neg e2] at h
  refine X_lsw (off := 114) 119 dX7_readAct_5 (by decide) (by show Op.lookupswitch.offset [(97, 82), (100, 98), (116, 35)] 114 _ = _; refine (lv_osw (k := 97) e0 rfl).trans ?_; refine (lv_osw (k := 100) e1 rfl).trans ?_; refine (lv_osw (k := 116) e2 rfl).trans ?_; rfl) (by decide) ?_
  refine X_iload_n (x := a1) dX7_readAct_119 rfl ?_
  refine X_sP (μ' := mX7_faultAt) [.int a1] [] kL_RX7_36 kM_X7_faultAt rfl rfl rfl dX7_readAct_120 h (fun _ hv => x_X7_faultAt hv) (fun v19 h => ?_)
  exact X_retI dX7_readAct_123 rfl (Nat.le_refl _) (Nat.le_refl _) h
def f_X7_findFault_2 : Nat → xM → Int32 → Option (Int32 × xM)
  | 0, _, _ => none
  | fu + 1, M, i1 =>
    if (M 141 2) ≤ i1 then (
      some ((-6), M))
    else (
      xb2 (f_X7_readAct M i1) fun v4 M5 =>
      xl v4 fun v6 =>
      if i1 < v6 then (
        xl v6 fun v7 =>
        (f_X7_findFault_2 fu) M5 v7)
      else (
        some (((-1) - v6), M5)))
set_option maxHeartbeats 1000000 in
theorem x_X7_findFault_2 {ξ : xX} : ∀ (fu : Nat) (M : xM) (i1 : Int32) (z : (Int32 × xM)), f_X7_findFault_2 fu M i1 = some z → X ξ mX7_findFault 2 [.ref 141, .int i1] [] SH M 0 0 (xr (some (.int z.1)) SH z.2) := by
  intro fu
  induction fu with
  | zero => intro M i1 z h; rw [f_X7_findFault_2] at h; cases h
  | succ fu ih =>
    intro M i1 z h
    rw [f_X7_findFault_2] at h
    refine X_iload_n (x := i1) dX7_findFault_2 rfl ?_
    refine X_aload_n (x := 141) dX7_findFault_3 rfl ?_
    refine X_get (v := .int (M 141 2)) kF_RX7_18 sh_141 rfl rfl dX7_findFault_4 ?_
    refine X_icmp_ge 30 dX7_findFault_7 (by decide) h (fun h => ?_) (fun h => ?_)
    · refine X_bipush (-6) dX7_findFault_30 rfl ?_
      exact X_retI dX7_findFault_32 rfl (Nat.le_refl _) (Nat.le_refl _) h
    · refine X_aload_n (x := 141) dX7_findFault_10 rfl ?_
      refine X_iload_n (x := i1) dX7_findFault_11 rfl ?_
      refine X_vI (μ' := mX7_readAct) [.int i1] [] kL_RX7_22 kM_X7_readAct rv_141 rfl rfl rfl dX7_findFault_12 h (fun _ hv => x_X7_readAct hv) (fun v4 M5 h => ?_)
      refine X_istoreL_n (fun v6 => [.ref 141, .int i1, .int v6]) dX7_findFault_15 (Nat.le_of_ble_eq_true rfl) (Nat.le_of_ble_eq_true rfl) (xcat1_of rfl) h (fun _ => rfl) (fun v6 h => ?_)
      refine X_iload_n (x := v6) dX7_findFault_16 rfl ?_
      refine X_iload_n (x := i1) dX7_findFault_17 rfl ?_
      refine X_icmp_gt 25 dX7_findFault_18 (by decide) h (fun h => ?_) (fun h => ?_)
      · refine X_iload_n (x := v6) dX7_findFault_25 rfl ?_
        refine X_istoreL_n (fun v7 => [.ref 141, .int v7, .int v6]) dX7_findFault_26 (Nat.le_of_ble_eq_true rfl) (Nat.le_of_ble_eq_true rfl) (xcat1_of rfl) h (fun _ => rfl) (fun v7 h => ?_)
        refine X_goto 2 dX7_findFault_27 (by decide) ?_
        refine X_cut 2 ?_
        exact ih _ _ _ h
      · refine X_iconst (-1) dX7_findFault_21 rfl ?_
        refine X_iload_n (x := v6) dX7_findFault_22 rfl ?_
        refine X_isub dX7_findFault_23 ?_
        exact X_retI dX7_findFault_24 rfl (Nat.le_refl _) (Nat.le_refl _) h
def f_X7_findFault (M : xM) : Option (Int32 × xM) :=
  xl (0 : Int32) fun v8 =>
  f_X7_findFault_2 xFU M v8
set_option maxHeartbeats 1000000 in
theorem x_X7_findFault {ξ : xX} {M : xM} {z : (Int32 × xM)} (h : f_X7_findFault M = some z) : X ξ mX7_findFault 0 [.ref 141] [] SH M 0 0 (xr (some (.int z.1)) SH z.2) := by
  rw [f_X7_findFault] at h
  refine X_iconst 0 dX7_findFault_0 rfl ?_
  refine X_istoreL_n (fun v8 => [.ref 141, .int v8]) dX7_findFault_1 (Nat.le_of_ble_eq_true rfl) (Nat.le_of_ble_eq_true rfl) (xcat1_of rfl) h (fun _ => rfl) (fun v8 h => ?_)
  exact x_X7_findFault_2 _ _ _ _ h
