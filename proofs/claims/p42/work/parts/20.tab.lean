def f_X6_copyFrom (t ct n u cu m : Nat) (M : xM) : Option xM :=
  xgd (xcpG 0 0 (xmn (Int32.ofNat n) (Int32.ofNat m)) m n) <| xl (xcp M cu ct (0 : Int32).toNatClampNeg (0 : Int32).toNatClampNeg (xmn (Int32.ofNat n) (Int32.ofNat m)).toNatClampNeg) fun M1 =>
  xl (xw M1 t 2 (M1 u 2)) fun M2 =>
  some M2
set_option maxHeartbeats 1000000 in
theorem x_X6_copyFrom {ξ : xX} {t ct n u cu m : Nat} {M : xM} (hT : xT t ct n) (hU : xT u cu m) {z : xM} (h : f_X6_copyFrom t ct n u cu m M = some z) : X ξ mX6_copyFrom 0 [.ref t, .ref u] [] SH M 0 0 (xr none SH z) := by
  rw [f_X6_copyFrom] at h
  refine X_aload_n (x := u) dX6_copyFrom_0 rfl ?_
  refine X_get (v := .ref cu) kF_RX6_13 hU.1 rfl rfl dX6_copyFrom_1 ?_
  refine X_iconst 0 dX6_copyFrom_4 rfl ?_
  refine X_aload_n (x := t) dX6_copyFrom_5 rfl ?_
  refine X_get (v := .ref ct) kF_RX6_13 hT.1 rfl rfl dX6_copyFrom_6 ?_
  refine X_iconst 0 dX6_copyFrom_9 rfl ?_
  refine X_aload_n (x := t) dX6_copyFrom_10 rfl ?_
  refine X_get (v := .ref ct) kF_RX6_13 hT.1 rfl rfl dX6_copyFrom_11 ?_
  refine X_alen (Int32.ofNat n) hT.2 rfl dX6_copyFrom_14 ?_
  refine X_aload_n (x := u) dX6_copyFrom_15 rfl ?_
  refine X_get (v := .ref cu) kF_RX6_13 hU.1 rfl rfl dX6_copyFrom_16 ?_
  refine X_alen (Int32.ofNat m) hU.2 rfl dX6_copyFrom_19 ?_
  refine X_min kJ_RX6_37 (Nat.le_of_ble_eq_true rfl) (Nat.le_of_ble_eq_true rfl) (Nat.le_refl _) (Nat.le_refl _) dX6_copyFrom_20 ?_
  refine X_copy kJ_RX6_40 (Nat.le_of_ble_eq_true rfl) (Nat.le_of_ble_eq_true rfl) hU.2 hT.2 dX6_copyFrom_23 h (fun M1 h => ?_)
  refine X_aload_n (x := t) dX6_copyFrom_26 rfl ?_
  refine X_aload_n (x := u) dX6_copyFrom_27 rfl ?_
  refine X_get (v := .int (M1 u 2)) kF_RX6_23 hU.1 rfl rfl dX6_copyFrom_28 ?_
  refine X_putI kF_RX6_23 hT.1 rfl rfl rfl dX6_copyFrom_31 h (fun M2 h => ?_)
  exact X_retV dX6_copyFrom_34 rfl (Nat.le_refl _) (Nat.le_refl _) h
def f_J6_bitCount_0f7a4 (a1 : Int32) : Option Int32 :=
  xl (a1 - ((((a1 : Int32).toUInt32 >>> ((1 : Int32).toUInt32 &&& Int32.toUInt32 31)).toInt32) &&& 1431655765)) fun v6 =>
  xl ((v6 &&& 858993459) + ((((v6 : Int32).toUInt32 >>> ((2 : Int32).toUInt32 &&& Int32.toUInt32 31)).toInt32) &&& 858993459)) fun v7 =>
  xl ((v7 + (((v7 : Int32).toUInt32 >>> ((4 : Int32).toUInt32 &&& Int32.toUInt32 31)).toInt32)) &&& 252645135) fun v8 =>
  xl (v8 + (((v8 : Int32).toUInt32 >>> ((8 : Int32).toUInt32 &&& Int32.toUInt32 31)).toInt32)) fun v9 =>
  xl (v9 + (((v9 : Int32).toUInt32 >>> ((16 : Int32).toUInt32 &&& Int32.toUInt32 31)).toInt32)) fun v10 =>
  some (v10 &&& 63)
set_option maxHeartbeats 1000000 in
theorem x_J6_bitCount_0f7a4 {ξ : xX} {M : xM} {a1 : Int32} {z : Int32} (h : f_J6_bitCount_0f7a4 a1 = some z) : X ξ mJ6_bitCount_0f7a4 0 [.int a1] [] SH M 0 0 (xr (some (.int z)) SH M) := by
  rw [f_J6_bitCount_0f7a4] at h
  refine X_iload_n (x := a1) dJ6_bitCount_0f7a4_0 rfl ?_
  refine X_iload_n (x := a1) dJ6_bitCount_0f7a4_1 rfl ?_
  refine X_iconst 1 dJ6_bitCount_0f7a4_2 rfl ?_
  refine X_iushr dJ6_bitCount_0f7a4_3 ?_
  refine X_ldcw 1431655765 kC_RJ6_265 dJ6_bitCount_0f7a4_4 ?_
  refine X_iand dJ6_bitCount_0f7a4_7 ?_
  refine X_isub dJ6_bitCount_0f7a4_8 ?_
  refine X_istoreL_n (fun v6 => [.int v6]) dJ6_bitCount_0f7a4_9 (Nat.le_of_ble_eq_true rfl) (Nat.le_of_ble_eq_true rfl) (xcat1_of rfl) h (fun _ => rfl) (fun v6 h => ?_)
  refine X_iload_n (x := v6) dJ6_bitCount_0f7a4_10 rfl ?_
  refine X_ldcw 858993459 kC_RJ6_266 dJ6_bitCount_0f7a4_11 ?_
  refine X_iand dJ6_bitCount_0f7a4_14 ?_
  refine X_iload_n (x := v6) dJ6_bitCount_0f7a4_15 rfl ?_
  refine X_iconst 2 dJ6_bitCount_0f7a4_16 rfl ?_
  refine X_iushr dJ6_bitCount_0f7a4_17 ?_
  refine X_ldcw 858993459 kC_RJ6_266 dJ6_bitCount_0f7a4_18 ?_
  refine X_iand dJ6_bitCount_0f7a4_21 ?_
  refine X_iadd dJ6_bitCount_0f7a4_22 ?_
  refine X_istoreL_n (fun v7 => [.int v7]) dJ6_bitCount_0f7a4_23 (Nat.le_of_ble_eq_true rfl) (Nat.le_of_ble_eq_true rfl) (xcat1_of rfl) h (fun _ => rfl) (fun v7 h => ?_)
  refine X_iload_n (x := v7) dJ6_bitCount_0f7a4_24 rfl ?_
  refine X_iload_n (x := v7) dJ6_bitCount_0f7a4_25 rfl ?_
  refine X_iconst 4 dJ6_bitCount_0f7a4_26 rfl ?_
  refine X_iushr dJ6_bitCount_0f7a4_27 ?_
  refine X_iadd dJ6_bitCount_0f7a4_28 ?_
  refine X_ldcw 252645135 kC_RJ6_267 dJ6_bitCount_0f7a4_29 ?_
  refine X_iand dJ6_bitCount_0f7a4_32 ?_
  refine X_istoreL_n (fun v8 => [.int v8]) dJ6_bitCount_0f7a4_33 (Nat.le_of_ble_eq_true rfl) (Nat.le_of_ble_eq_true rfl) (xcat1_of rfl) h (fun _ => rfl) (fun v8 h => ?_)
  refine X_iload_n (x := v8) dJ6_bitCount_0f7a4_34 rfl ?_
  refine X_iload_n (x := v8) dJ6_bitCount_0f7a4_35 rfl ?_
  refine X_bipush 8 dJ6_bitCount_0f7a4_36 rfl ?_
  refine X_iushr dJ6_bitCount_0f7a4_38 ?_
  refine X_iadd dJ6_bitCount_0f7a4_39 ?_
  refine X_istoreL_n (fun v9 => [.int v9]) dJ6_bitCount_0f7a4_40 (Nat.le_of_ble_eq_true rfl) (Nat.le_of_ble_eq_true rfl) (xcat1_of rfl) h (fun _ => rfl) (fun v9 h => ?_)
  refine X_iload_n (x := v9) dJ6_bitCount_0f7a4_41 rfl ?_
  refine X_iload_n (x := v9) dJ6_bitCount_0f7a4_42 rfl ?_
  refine X_bipush 16 dJ6_bitCount_0f7a4_43 rfl ?_
  refine X_iushr dJ6_bitCount_0f7a4_45 ?_
  refine X_iadd dJ6_bitCount_0f7a4_46 ?_
  refine X_istoreL_n (fun v10 => [.int v10]) dJ6_bitCount_0f7a4_47 (Nat.le_of_ble_eq_true rfl) (Nat.le_of_ble_eq_true rfl) (xcat1_of rfl) h (fun _ => rfl) (fun v10 h => ?_)
  refine X_iload_n (x := v10) dJ6_bitCount_0f7a4_48 rfl ?_
  refine X_bipush 63 dJ6_bitCount_0f7a4_49 rfl ?_
  refine X_iand dJ6_bitCount_0f7a4_51 ?_
  exact X_retP dJ6_bitCount_0f7a4_52 rfl (Nat.le_refl _) (Nat.le_refl _) h
def f_X6_has (t ct n : Nat) (M : xM) (a1 : Int32) : Option Int32 :=
  if a1 < 0 then (
    some 0)
  else (
    if (M t 2) ≤ a1 then (
      some 0)
    else (
      some 1))
set_option maxHeartbeats 1000000 in
theorem x_X6_has {ξ : xX} {t ct n : Nat} {M : xM} {a1 : Int32} (hT : xT t ct n) {z : Int32} (h : f_X6_has t ct n M a1 = some z) : X ξ mX6_has 0 [.ref t, .int a1] [] SH M 0 0 (xr (some (.int z)) SH M) := by
  rw [f_X6_has] at h
  refine X_iload_n (x := a1) dX6_has_0 rfl ?_
  refine X_if_lt 16 dX6_has_1 (by decide) h (fun h => ?_) (fun h => ?_)
  · refine X_iconst 0 dX6_has_16 rfl ?_
    exact X_retLP (by decide) dX6_has_17 rfl (Nat.le_refl _) (Nat.le_refl _) h
  · refine X_iload_n (x := a1) dX6_has_4 rfl ?_
    refine X_aload_n (x := t) dX6_has_5 rfl ?_
    refine X_get (v := .int (M t 2)) kF_RX6_23 hT.1 rfl rfl dX6_has_6 ?_
    refine X_icmp_ge 16 dX6_has_9 (by decide) h (fun h => ?_) (fun h => ?_)
    · refine X_iconst 0 dX6_has_16 rfl ?_
      exact X_retLP (by decide) dX6_has_17 rfl (Nat.le_refl _) (Nat.le_refl _) h
    · refine X_iconst 1 dX6_has_12 rfl ?_
      refine X_goto 17 dX6_has_13 (by decide) ?_
      exact X_retLP (by decide) dX6_has_17 rfl (Nat.le_refl _) (Nat.le_refl _) h
def f_X6_isFull (t ct n : Nat) (M : xM) : Option Int32 :=
  if (((M t 2) + 1) * (M t 1)) ≤ (Int32.ofNat n) then (
    some 0)
  else (
    some 1)
set_option maxHeartbeats 1000000 in
theorem x_X6_isFull {ξ : xX} {t ct n : Nat} {M : xM} (hT : xT t ct n) {z : Int32} (h : f_X6_isFull t ct n M = some z) : X ξ mX6_isFull 0 [.ref t] [] SH M 0 0 (xr (some (.int z)) SH M) := by
  rw [f_X6_isFull] at h
  refine X_aload_n (x := t) dX6_isFull_0 rfl ?_
  refine X_get (v := .int (M t 2)) kF_RX6_23 hT.1 rfl rfl dX6_isFull_1 ?_
  refine X_iconst 1 dX6_isFull_4 rfl ?_
  refine X_iadd dX6_isFull_5 ?_
  refine X_aload_n (x := t) dX6_isFull_6 rfl ?_
  refine X_get (v := .int (M t 1)) kF_RX6_19 hT.1 rfl rfl dX6_isFull_7 ?_
  refine X_imul dX6_isFull_10 ?_
  refine X_aload_n (x := t) dX6_isFull_11 rfl ?_
  refine X_get (v := .ref ct) kF_RX6_13 hT.1 rfl rfl dX6_isFull_12 ?_
  refine X_alen (Int32.ofNat n) hT.2 rfl dX6_isFull_15 ?_
  refine X_icmp_le 23 dX6_isFull_16 (by decide) h (fun h => ?_) (fun h => ?_)
  · refine X_iconst 0 dX6_isFull_23 rfl ?_
    exact X_retLP (by decide) dX6_isFull_24 rfl (Nat.le_refl _) (Nat.le_refl _) h
  · refine X_iconst 1 dX6_isFull_19 rfl ?_
    refine X_goto 24 dX6_isFull_20 (by decide) ?_
    exact X_retLP (by decide) dX6_isFull_24 rfl (Nat.le_refl _) (Nat.le_refl _) h
def f_X6_addRow_17 (t ct n : Nat) (M : xM) : Option (Int32 × xM) :=
  some (((M t 2) - 1), M)
set_option maxHeartbeats 1000000 in
theorem x_X6_addRow_17 {ξ : xX} {t ct n : Nat} {M : xM} (hT : xT t ct n) {z : (Int32 × xM)} (h : f_X6_addRow_17 t ct n M = some z) : X ξ mX6_addRow 17 [.ref t] [] SH M 0 0 (xr (some (.int z.1)) SH z.2) := by
  rw [f_X6_addRow_17] at h
  refine X_aload_n (x := t) dX6_addRow_17 rfl ?_
  refine X_get (v := .int (M t 2)) kF_RX6_23 hT.1 rfl rfl dX6_addRow_18 ?_
  refine X_iconst 1 dX6_addRow_21 rfl ?_
  refine X_isub dX6_addRow_22 ?_
  exact X_retI dX6_addRow_23 rfl (Nat.le_refl _) (Nat.le_refl _) h
def f_X6_addRow (t ct n : Nat) (M : xM) : Option (Int32 × xM) :=
  xb (f_X6_isFull t ct n M) fun v1 =>
  if v1 = 0 then (
    xl (xw M t 2 ((M t 2) + 1)) fun M2 =>
    f_X6_addRow_17 t ct n M2)
  else (
    f_X6_addRow_17 t ct n M)
set_option maxHeartbeats 1000000 in
theorem x_X6_addRow {ξ : xX} {t ct n : Nat} {M : xM} (hT : xT t ct n) {z : (Int32 × xM)} (h : f_X6_addRow t ct n M = some z) : X ξ mX6_addRow 0 [.ref t] [] SH M 0 0 (xr (some (.int z.1)) SH z.2) := by
  rw [f_X6_addRow] at h
  refine X_aload_n (x := t) dX6_addRow_0 rfl ?_
  refine X_vP (μ' := mX6_isFull) [] [] kL_RX6_26 kM_X6_isFull ⟨_, _, _, hT.1, rfl, rfl⟩ rfl rfl rfl dX6_addRow_1 h (fun _ hv => x_X6_isFull hT hv) (fun v1 h => ?_)
  refine X_if_ne 17 dX6_addRow_4 (by decide) h (fun h => ?_) (fun h => ?_)
  · exact x_X6_addRow_17 hT h
  · refine X_aload_n (x := t) dX6_addRow_7 rfl ?_
    refine X_dup dX6_addRow_8 rfl ?_
    refine X_get (v := .int (M t 2)) kF_RX6_23 hT.1 rfl rfl dX6_addRow_9 ?_
    refine X_iconst 1 dX6_addRow_12 rfl ?_
    refine X_iadd dX6_addRow_13 ?_
    refine X_putI kF_RX6_23 hT.1 rfl rfl rfl dX6_addRow_14 h (fun M2 h => ?_)
    exact x_X6_addRow_17 hT h
def f_X6_get (t ct n : Nat) (M : xM) (a1 a2 : Int32) : Option Int32 :=
  if a1 < 0 then (
    some 0)
  else (
    if (M t 2) ≤ a1 then (
      some 0)
    else (
      if a2 < 0 then (
        some 0)
      else (
        if a2 < (M t 1) then (
          xl ((a1 * (M t 1)) + a2) fun v2 =>
          if v2 < 0 then (
            some 0)
          else (
            if (Int32.ofNat n) ≤ v2 then (
              some 0)
            else (
              xgd (xin v2 n) <|
              some (M ct v2.toNatClampNeg))))
        else (
          some 0))))
set_option maxHeartbeats 1000000 in
theorem x_X6_get {ξ : xX} {t ct n : Nat} {M : xM} {a1 a2 : Int32} (hT : xT t ct n) {z : Int32} (h : f_X6_get t ct n M a1 a2 = some z) : X ξ mX6_get 0 [.ref t, .int a1, .int a2] [] SH M 0 0 (xr (some (.int z)) SH M) := by
  rw [f_X6_get] at h
  refine X_iload_n (x := a1) dX6_get_0 rfl ?_
  refine X_if_lt 24 dX6_get_1 (by decide) h (fun h => ?_) (fun h => ?_)
  · refine X_iconst 0 dX6_get_24 rfl ?_
    exact X_retP dX6_get_25 rfl (Nat.le_refl _) (Nat.le_refl _) h
  · refine X_iload_n (x := a1) dX6_get_4 rfl ?_
    refine X_aload_n (x := t) dX6_get_5 rfl ?_
    refine X_get (v := .int (M t 2)) kF_RX6_23 hT.1 rfl rfl dX6_get_6 ?_
    refine X_icmp_ge 24 dX6_get_9 (by decide) h (fun h => ?_) (fun h => ?_)
    · refine X_iconst 0 dX6_get_24 rfl ?_
      exact X_retP dX6_get_25 rfl (Nat.le_refl _) (Nat.le_refl _) h
    · refine X_iload_n (x := a2) dX6_get_12 rfl ?_
      refine X_if_lt 24 dX6_get_13 (by decide) h (fun h => ?_) (fun h => ?_)
      · refine X_iconst 0 dX6_get_24 rfl ?_
        exact X_retP dX6_get_25 rfl (Nat.le_refl _) (Nat.le_refl _) h
      · refine X_iload_n (x := a2) dX6_get_16 rfl ?_
        refine X_aload_n (x := t) dX6_get_17 rfl ?_
        refine X_get (v := .int (M t 1)) kF_RX6_19 hT.1 rfl rfl dX6_get_18 ?_
        refine X_icmp_lt 26 dX6_get_21 (by decide) h (fun h => ?_) (fun h => ?_)
        · refine X_iload_n (x := a1) dX6_get_26 rfl ?_
          refine X_aload_n (x := t) dX6_get_27 rfl ?_
          refine X_get (v := .int (M t 1)) kF_RX6_19 hT.1 rfl rfl dX6_get_28 ?_
          refine X_imul dX6_get_31 ?_
          refine X_iload_n (x := a2) dX6_get_32 rfl ?_
          refine X_iadd dX6_get_33 ?_
          refine X_istoreL_n (fun v2 => [.ref t, .int a1, .int a2, .int v2]) dX6_get_34 (Nat.le_of_ble_eq_true rfl) (Nat.le_of_ble_eq_true rfl) (xcat1_of rfl) h (fun _ => rfl) (fun v2 h => ?_)
          refine X_iload_n (x := v2) dX6_get_35 rfl ?_
          refine X_if_lt 57 dX6_get_36 (by decide) h (fun h => ?_) (fun h => ?_)
          · refine X_iconst 0 dX6_get_57 rfl ?_
            exact X_retP dX6_get_58 rfl (Nat.le_refl _) (Nat.le_refl _) h
          · refine X_iload_n (x := v2) dX6_get_39 rfl ?_
            refine X_aload_n (x := t) dX6_get_40 rfl ?_
            refine X_get (v := .ref ct) kF_RX6_13 hT.1 rfl rfl dX6_get_41 ?_
            refine X_alen (Int32.ofNat n) hT.2 rfl dX6_get_44 ?_
            refine X_icmp_ge 57 dX6_get_45 (by decide) h (fun h => ?_) (fun h => ?_)
            · refine X_iconst 0 dX6_get_57 rfl ?_
              exact X_retP dX6_get_58 rfl (Nat.le_refl _) (Nat.le_refl _) h
            · refine X_aload_n (x := t) dX6_get_48 rfl ?_
              refine X_get (v := .ref ct) kF_RX6_13 hT.1 rfl rfl dX6_get_49 ?_
              refine X_iload_n (x := v2) dX6_get_52 rfl ?_
              refine X_iald hT.2 dX6_get_53 h (fun h => ?_)
              refine X_goto 58 dX6_get_54 (by decide) ?_
              exact X_retP dX6_get_58 rfl (Nat.le_refl _) (Nat.le_refl _) h
        · refine X_iconst 0 dX6_get_24 rfl ?_
          exact X_retP dX6_get_25 rfl (Nat.le_refl _) (Nat.le_refl _) h
def f_X6_set (t ct n : Nat) (M : xM) (a1 a2 a3 : Int32) : Option xM :=
  if a1 < 0 then (
    some M)
  else (
    if (M t 2) ≤ a1 then (
      some M)
    else (
      if a2 < 0 then (
        some M)
      else (
        if a2 < (M t 1) then (
          xl ((a1 * (M t 1)) + a2) fun v2 =>
          if v2 < 0 then (
            some M)
          else (
            if (Int32.ofNat n) ≤ v2 then (
              some M)
            else (
              xgd (xin v2 n) <| xl (xw M ct v2.toNatClampNeg a3) fun M3 =>
              some M3)))
        else (
          some M))))
set_option maxHeartbeats 1000000 in
theorem x_X6_set {ξ : xX} {t ct n : Nat} {M : xM} {a1 a2 a3 : Int32} (hT : xT t ct n) {z : xM} (h : f_X6_set t ct n M a1 a2 a3 = some z) : X ξ mX6_set 0 [.ref t, .int a1, .int a2, .int a3] [] SH M 0 0 (xr none SH z) := by
  rw [f_X6_set] at h
  refine X_iload_n (x := a1) dX6_set_0 rfl ?_
  refine X_if_lt 24 dX6_set_1 (by decide) h (fun h => ?_) (fun h => ?_)
  · exact X_retV dX6_set_24 rfl (Nat.le_refl _) (Nat.le_refl _) h
  · refine X_iload_n (x := a1) dX6_set_4 rfl ?_
    refine X_aload_n (x := t) dX6_set_5 rfl ?_
    refine X_get (v := .int (M t 2)) kF_RX6_23 hT.1 rfl rfl dX6_set_6 ?_
    refine X_icmp_ge 24 dX6_set_9 (by decide) h (fun h => ?_) (fun h => ?_)
    · exact X_retV dX6_set_24 rfl (Nat.le_refl _) (Nat.le_refl _) h
    · refine X_iload_n (x := a2) dX6_set_12 rfl ?_
      refine X_if_lt 24 dX6_set_13 (by decide) h (fun h => ?_) (fun h => ?_)
      · exact X_retV dX6_set_24 rfl (Nat.le_refl _) (Nat.le_refl _) h
      · refine X_iload_n (x := a2) dX6_set_16 rfl ?_
        refine X_aload_n (x := t) dX6_set_17 rfl ?_
        refine X_get (v := .int (M t 1)) kF_RX6_19 hT.1 rfl rfl dX6_set_18 ?_
        refine X_icmp_lt 25 dX6_set_21 (by decide) h (fun h => ?_) (fun h => ?_)
        · refine X_iload_n (x := a1) dX6_set_25 rfl ?_
          refine X_aload_n (x := t) dX6_set_26 rfl ?_
          refine X_get (v := .int (M t 1)) kF_RX6_19 hT.1 rfl rfl dX6_set_27 ?_
          refine X_imul dX6_set_30 ?_
          refine X_iload_n (x := a2) dX6_set_31 rfl ?_
          refine X_iadd dX6_set_32 ?_
          refine X_istoreL (fun v2 => [.ref t, .int a1, .int a2, .int a3, .int v2]) dX6_set_33 (Nat.le_of_ble_eq_true rfl) (Nat.le_of_ble_eq_true rfl) (xcat1_of rfl) h (fun _ => rfl) (fun v2 h => ?_)
          refine X_iload (x := v2) dX6_set_35 rfl ?_
          refine X_if_lt 58 dX6_set_37 (by decide) h (fun h => ?_) (fun h => ?_)
          · exact X_retV dX6_set_58 rfl (Nat.le_refl _) (Nat.le_refl _) h
          · refine X_iload (x := v2) dX6_set_40 rfl ?_
            refine X_aload_n (x := t) dX6_set_42 rfl ?_
            refine X_get (v := .ref ct) kF_RX6_13 hT.1 rfl rfl dX6_set_43 ?_
            refine X_alen (Int32.ofNat n) hT.2 rfl dX6_set_46 ?_
            refine X_icmp_ge 58 dX6_set_47 (by decide) h (fun h => ?_) (fun h => ?_)
            · exact X_retV dX6_set_58 rfl (Nat.le_refl _) (Nat.le_refl _) h
            · refine X_aload_n (x := t) dX6_set_50 rfl ?_
              refine X_get (v := .ref ct) kF_RX6_13 hT.1 rfl rfl dX6_set_51 ?_
              refine X_iload (x := v2) dX6_set_54 rfl ?_
              refine X_iload_n (x := a3) dX6_set_56 rfl ?_
              refine X_iast hT.2 dX6_set_57 h (fun M3 h => ?_)
              exact X_retV dX6_set_58 rfl (Nat.le_refl _) (Nat.le_refl _) h
        · exact X_retV dX6_set_24 rfl (Nat.le_refl _) (Nat.le_refl _) h
def f_X6_add (t ct n : Nat) (M : xM) (a1 a2 a3 : Int32) : Option xM :=
  xb (f_X6_get t ct n M a1 a2) fun v1 =>
  xb (f_X6_set t ct n M a1 a2 (v1 + a3)) fun M2 =>
  some M2
set_option maxHeartbeats 1000000 in
theorem x_X6_add {ξ : xX} {t ct n : Nat} {M : xM} {a1 a2 a3 : Int32} (hT : xT t ct n) {z : xM} (h : f_X6_add t ct n M a1 a2 a3 = some z) : X ξ mX6_add 0 [.ref t, .int a1, .int a2, .int a3] [] SH M 0 0 (xr none SH z) := by
  rw [f_X6_add] at h
  refine X_aload_n (x := t) dX6_add_0 rfl ?_
  refine X_iload_n (x := a1) dX6_add_1 rfl ?_
  refine X_iload_n (x := a2) dX6_add_2 rfl ?_
  refine X_aload_n (x := t) dX6_add_3 rfl ?_
  refine X_iload_n (x := a1) dX6_add_4 rfl ?_
  refine X_iload_n (x := a2) dX6_add_5 rfl ?_
  refine X_vP (μ' := mX6_get) [.int a1, .int a2] [.int a2, .int a1, .ref t] kL_RX6_30 kM_X6_get ⟨_, _, _, hT.1, rfl, rfl⟩ rfl rfl rfl dX6_add_6 h (fun _ hv => x_X6_get hT hv) (fun v1 h => ?_)
  refine X_iload_n (x := a3) dX6_add_9 rfl ?_
  refine X_iadd dX6_add_10 ?_
  refine X_vV (μ' := mX6_set) [.int a1, .int a2, .int (v1 + a3)] [] kL_RX6_33 kM_X6_set ⟨_, _, _, hT.1, rfl, rfl⟩ rfl rfl rfl dX6_add_11 h (fun _ hv => x_X6_set hT hv) (fun M2 h => ?_)
  exact X_retV dX6_add_14 rfl (Nat.le_refl _) (Nat.le_refl _) h
def f_X6_countOf_28 (t ct n : Nat) (M : xM) (k5 : Int32 → Int32 → Int32 → Int32 → Option Int32) (i1 : Int32) (i2 : Int32) (i3 : Int32) (i4 : Int32) : Option Int32 :=
  xl (i4 + 1) fun v5 =>
  k5 i1 i2 i3 v5
set_option maxHeartbeats 1000000 in
theorem x_X6_countOf_28 {ξ : xX} {t ct n : Nat} {M : xM} {k5 : Int32 → Int32 → Int32 → Int32 → Option Int32} {i1 : Int32} {i2 : Int32} {i3 : Int32} {i4 : Int32} (hT : xT t ct n) (hk5 : ∀ (j1 j2 j3 j4 : Int32) (z : Int32), k5 j1 j2 j3 j4 = some z → X ξ mX6_countOf 5 [.ref t, .int j1, .int j2, .int j3, .int j4] [] SH M 0 0 (xr (some (.int z)) SH M)) {z : Int32} (h : f_X6_countOf_28 t ct n M k5 i1 i2 i3 i4 = some z) : X ξ mX6_countOf 28 [.ref t, .int i1, .int i2, .int i3, .int i4] [] SH M 0 0 (xr (some (.int z)) SH M) := by
  rw [f_X6_countOf_28] at h
  refine X_iincL (x := i4) 1 (fun v5 => [.ref t, .int i1, .int i2, .int i3, .int v5]) dX6_countOf_28 rfl rfl (Nat.le_of_ble_eq_true rfl) (xcat1_of rfl) h (fun _ => rfl) (fun v5 h => ?_)
  refine X_goto 5 dX6_countOf_31 (by decide) ?_
  exact hk5 _ _ _ _ _ h
def f_X6_countOf_5 (t ct n : Nat) (M : xM) : Nat → Int32 → Int32 → Int32 → Int32 → Option Int32
  | 0, _, _, _, _ => none
  | fu + 1, i1, i2, i3, i4 =>
    if (M t 2) ≤ i4 then (
      some i3)
    else (
      xb (f_X6_get t ct n M i4 i1) fun v6 =>
      if v6 = i2 then (
        xl (i3 + 1) fun v7 =>
        f_X6_countOf_28 t ct n M (f_X6_countOf_5 t ct n M fu) i1 i2 v7 i4)
      else (
        f_X6_countOf_28 t ct n M (f_X6_countOf_5 t ct n M fu) i1 i2 i3 i4))
set_option maxHeartbeats 1000000 in
theorem x_X6_countOf_5 {ξ : xX} {t ct n : Nat} {M : xM} (hT : xT t ct n) : ∀ (fu : Nat) (i1 i2 i3 i4 : Int32) (z : Int32), f_X6_countOf_5 t ct n M fu i1 i2 i3 i4 = some z → X ξ mX6_countOf 5 [.ref t, .int i1, .int i2, .int i3, .int i4] [] SH M 0 0 (xr (some (.int z)) SH M) := by
  intro fu
  induction fu with
  | zero => intro i1 i2 i3 i4 z h; rw [f_X6_countOf_5] at h; cases h
  | succ fu ih =>
    intro i1 i2 i3 i4 z h
    rw [f_X6_countOf_5] at h
    refine X_iload (x := i4) dX6_countOf_5 rfl ?_
    refine X_aload_n (x := t) dX6_countOf_7 rfl ?_
    refine X_get (v := .int (M t 2)) kF_RX6_23 hT.1 rfl rfl dX6_countOf_8 ?_
    refine X_icmp_ge 34 dX6_countOf_11 (by decide) h (fun h => ?_) (fun h => ?_)
    · refine X_iload_n (x := i3) dX6_countOf_34 rfl ?_
      exact X_retP dX6_countOf_35 rfl (Nat.le_refl _) (Nat.le_refl _) h
    · refine X_aload_n (x := t) dX6_countOf_14 rfl ?_
      refine X_iload (x := i4) dX6_countOf_15 rfl ?_
      refine X_iload_n (x := i1) dX6_countOf_17 rfl ?_
      refine X_vP (μ' := mX6_get) [.int i4, .int i1] [] kL_RX6_30 kM_X6_get ⟨_, _, _, hT.1, rfl, rfl⟩ rfl rfl rfl dX6_countOf_18 h (fun _ hv => x_X6_get hT hv) (fun v6 h => ?_)
      refine X_iload_n (x := i2) dX6_countOf_21 rfl ?_
      refine X_icmp_ne 28 dX6_countOf_22 (by decide) h (fun h => ?_) (fun h => ?_)
      · exact x_X6_countOf_28 hT ih h
      · refine X_iincL (x := i3) 1 (fun v7 => [.ref t, .int i1, .int i2, .int v7, .int i4]) dX6_countOf_25 rfl rfl (Nat.le_of_ble_eq_true rfl) (xcat1_of rfl) h (fun _ => rfl) (fun v7 h => ?_)
        exact x_X6_countOf_28 hT ih h
def f_X6_countOf (t ct n : Nat) (M : xM) (a1 a2 : Int32) : Option Int32 :=
  xl (0 : Int32) fun v8 =>
  xl (0 : Int32) fun v9 =>
  f_X6_countOf_5 t ct n M xFU a1 a2 v8 v9
set_option maxHeartbeats 1000000 in
theorem x_X6_countOf {ξ : xX} {t ct n : Nat} {M : xM} {a1 a2 : Int32} (hT : xT t ct n) {z : Int32} (h : f_X6_countOf t ct n M a1 a2 = some z) : X ξ mX6_countOf 0 [.ref t, .int a1, .int a2] [] SH M 0 0 (xr (some (.int z)) SH M) := by
  rw [f_X6_countOf] at h
  refine X_iconst 0 dX6_countOf_0 rfl ?_
  refine X_istoreL_n (fun v8 => [.ref t, .int a1, .int a2, .int v8]) dX6_countOf_1 (Nat.le_of_ble_eq_true rfl) (Nat.le_of_ble_eq_true rfl) (xcat1_of rfl) h (fun _ => rfl) (fun v8 h => ?_)
  refine X_iconst 0 dX6_countOf_2 rfl ?_
  refine X_istoreL (fun v9 => [.ref t, .int a1, .int a2, .int v8, .int v9]) dX6_countOf_3 (Nat.le_of_ble_eq_true rfl) (Nat.le_of_ble_eq_true rfl) (xcat1_of rfl) h (fun _ => rfl) (fun v9 h => ?_)
  exact x_X6_countOf_5 hT _ _ _ _ _ _ h
