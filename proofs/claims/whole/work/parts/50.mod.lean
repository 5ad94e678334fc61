def f_X9_in (a1 a2 a3 : Int32) : Option Int32 :=
  if a1 < a2 then (
    some 0)
  else (
    if a3 < a1 then (
      some 0)
    else (
      some 1))
set_option maxHeartbeats 1000000 in
theorem x_X9_in {ξ : xX} {M : xM} {a1 a2 a3 : Int32} {z : Int32} (h : f_X9_in a1 a2 a3 = some z) : X ξ mX9_in 0 [.int a1, .int a2, .int a3] [] SH M 0 0 (xr (some (.int z)) SH M) := by
  rw [f_X9_in] at h
  refine X_iload_n (x := a1) dX9_in_0 rfl ?_
  refine X_iload_n (x := a2) dX9_in_1 rfl ?_
  refine X_icmp_lt 14 dX9_in_2 (by decide) h (fun h => ?_) (fun h => ?_)
  · refine X_iconst 0 dX9_in_14 rfl ?_
    exact X_retLP (by decide) dX9_in_15 rfl (Nat.le_refl _) (Nat.le_refl _) h
  · refine X_iload_n (x := a1) dX9_in_5 rfl ?_
    refine X_iload_n (x := a3) dX9_in_6 rfl ?_
    refine X_icmp_gt 14 dX9_in_7 (by decide) h (fun h => ?_) (fun h => ?_)
    · refine X_iconst 0 dX9_in_14 rfl ?_
      exact X_retLP (by decide) dX9_in_15 rfl (Nat.le_refl _) (Nat.le_refl _) h
    · refine X_iconst 1 dX9_in_10 rfl ?_
      refine X_goto 15 dX9_in_11 (by decide) ?_
      exact X_retLP (by decide) dX9_in_15 rfl (Nat.le_refl _) (Nat.le_refl _) h
def f_X9_ones_4 : Nat → Int32 → Int32 → Int32 → Option Int32
  | 0, _, _, _ => none
  | fu + 1, i0, i1, i2 =>
    if i2 = 0 then (
      some i1)
    else (
      xl (i1 + 1) fun v5 =>
      xl (i2 &&& (i2 - 1)) fun v6 =>
      (f_X9_ones_4 fu) i0 v5 v6)
set_option maxHeartbeats 1000000 in
theorem x_X9_ones_4 {ξ : xX} {M : xM} : ∀ (fu : Nat) (i0 i1 i2 : Int32) (z : Int32), f_X9_ones_4 fu i0 i1 i2 = some z → X ξ mX9_ones 4 [.int i0, .int i1, .int i2] [] SH M 0 0 (xr (some (.int z)) SH M) := by
  intro fu
  induction fu with
  | zero => intro i0 i1 i2 z h; rw [f_X9_ones_4] at h; cases h
  | succ fu ih =>
    intro i0 i1 i2 z h
    rw [f_X9_ones_4] at h
    refine X_iload_n (x := i2) dX9_ones_4 rfl ?_
    refine X_if_eq 20 dX9_ones_5 (by decide) h (fun h => ?_) (fun h => ?_)
    · refine X_iload_n (x := i1) dX9_ones_20 rfl ?_
      exact X_retP dX9_ones_21 rfl (Nat.le_refl _) (Nat.le_refl _) h
    · refine X_iincL (x := i1) 1 (fun v5 => [.int i0, .int v5, .int i2]) dX9_ones_8 rfl rfl (Nat.le_of_ble_eq_true rfl) (xcat1_of rfl) h (fun _ => rfl) (fun v5 h => ?_)
      refine X_iload_n (x := i2) dX9_ones_11 rfl ?_
      refine X_iload_n (x := i2) dX9_ones_12 rfl ?_
      refine X_iconst 1 dX9_ones_13 rfl ?_
      refine X_isub dX9_ones_14 ?_
      refine X_iand dX9_ones_15 ?_
      refine X_istoreL_n (fun v6 => [.int i0, .int v5, .int v6]) dX9_ones_16 (Nat.le_of_ble_eq_true rfl) (Nat.le_of_ble_eq_true rfl) (xcat1_of rfl) h (fun _ => rfl) (fun v6 h => ?_)
      refine X_goto 4 dX9_ones_17 (by decide) ?_
      exact ih _ _ _ _ h
def f_X9_ones (a1 : Int32) : Option Int32 :=
  xl (0 : Int32) fun v7 =>
  xl a1 fun v8 =>
  f_X9_ones_4 xFU a1 v7 v8
set_option maxHeartbeats 1000000 in
theorem x_X9_ones {ξ : xX} {M : xM} {a1 : Int32} {z : Int32} (h : f_X9_ones a1 = some z) : X ξ mX9_ones 0 [.int a1] [] SH M 0 0 (xr (some (.int z)) SH M) := by
  rw [f_X9_ones] at h
  refine X_iconst 0 dX9_ones_0 rfl ?_
  refine X_istoreL_n (fun v7 => [.int a1, .int v7]) dX9_ones_1 (Nat.le_of_ble_eq_true rfl) (Nat.le_of_ble_eq_true rfl) (xcat1_of rfl) h (fun _ => rfl) (fun v7 h => ?_)
  refine X_iload_n (x := a1) dX9_ones_2 rfl ?_
  refine X_istoreL_n (fun v8 => [.int a1, .int v7, .int v8]) dX9_ones_3 (Nat.le_of_ble_eq_true rfl) (Nat.le_of_ble_eq_true rfl) (xcat1_of rfl) h (fun _ => rfl) (fun v8 h => ?_)
  exact x_X9_ones_4 _ _ _ _ _ h
def f_X9_record_51 : Nat → xM → Int32 → Option xM
  | 0, _, _ => none
  | fu + 1, M, i1 =>
    if 916 ≤ i1 then (
      xl (xw M 149 2 ((M 149 2) + 1)) fun M5 =>
      some M5)
    else (
      xgd (xin i1 916) <|
      xgd (xin ((916 * (M 149 2)) + i1) 4580) <| xl (xw M 151 ((916 * (M 149 2)) + i1).toNatClampNeg (M 150 i1.toNatClampNeg)) fun M6 =>
      xl (i1 + 1) fun v7 =>
      (f_X9_record_51 fu) M6 v7)
set_option maxHeartbeats 1000000 in
theorem x_X9_record_51 {ξ : xX} : ∀ (fu : Nat) (M : xM) (i1 : Int32) (z : xM), f_X9_record_51 fu M i1 = some z → X ξ mX9_record 51 [.ref 149, .int i1] [] SH M 0 0 (xr none SH z) := by
  intro fu
  induction fu with
  | zero => intro M i1 z h; rw [f_X9_record_51] at h; cases h
  | succ fu ih =>
    intro M i1 z h
    rw [f_X9_record_51] at h
    refine X_iload_n (x := i1) dX9_record_51 rfl ?_
    refine X_sipush 916 dX9_record_52 rfl ?_
    refine X_icmp_ge 85 dX9_record_55 (by decide) h (fun h => ?_) (fun h => ?_)
    · refine X_aload_n (x := 149) dX9_record_85 rfl ?_
      refine X_dup dX9_record_86 rfl ?_
      refine X_get (v := .int (M 149 2)) kF_RX9_38 sh_149 rfl rfl dX9_record_87 ?_
      refine X_iconst 1 dX9_record_90 rfl ?_
      refine X_iadd dX9_record_91 ?_
      refine X_putI kF_RX9_38 sh_149 rfl rfl rfl dX9_record_92 h (fun M5 h => ?_)
      exact X_retV dX9_record_95 rfl (Nat.le_refl _) (Nat.le_refl _) h
    · refine X_aload_n (x := 149) dX9_record_58 rfl ?_
      refine X_get (v := .ref 151) kF_RX9_13 sh_149 rfl rfl dX9_record_59 ?_
      refine X_sipush 916 dX9_record_62 rfl ?_
      refine X_aload_n (x := 149) dX9_record_65 rfl ?_
      refine X_get (v := .int (M 149 2)) kF_RX9_38 sh_149 rfl rfl dX9_record_66 ?_
      refine X_imul dX9_record_69 ?_
      refine X_iload_n (x := i1) dX9_record_70 rfl ?_
      refine X_iadd dX9_record_71 ?_
      refine X_aload_n (x := 149) dX9_record_72 rfl ?_
      refine X_get (v := .ref 150) kF_RX9_7 sh_149 rfl rfl dX9_record_73 ?_
      refine X_iload_n (x := i1) dX9_record_76 rfl ?_
      refine X_iald sh_150 dX9_record_77 h (fun h => ?_)
      refine X_iast sh_151 dX9_record_78 h (fun M6 h => ?_)
      refine X_iincL (x := i1) 1 (fun v7 => [.ref 149, .int v7]) dX9_record_79 rfl rfl (Nat.le_of_ble_eq_true rfl) (xcat1_of rfl) h (fun _ => rfl) (fun v7 h => ?_)
      refine X_goto 51 dX9_record_82 (by decide) ?_
      exact ih _ _ _ h
def f_X9_record_49 (M : xM) : Option xM :=
  xl (0 : Int32) fun v8 =>
  f_X9_record_51 xFU M v8
set_option maxHeartbeats 1000000 in
theorem x_X9_record_49 {ξ : xX} {M : xM} {z : xM} (h : f_X9_record_49 M = some z) : X ξ mX9_record 49 [.ref 149] [] SH M 0 0 (xr none SH z) := by
  rw [f_X9_record_49] at h
  refine X_iconst 0 dX9_record_49 rfl ?_
  refine X_istoreL_n (fun v8 => [.ref 149, .int v8]) dX9_record_50 (Nat.le_of_ble_eq_true rfl) (Nat.le_of_ble_eq_true rfl) (xcat1_of rfl) h (fun _ => rfl) (fun v8 h => ?_)
  exact x_X9_record_51 _ _ _ _ h
def f_X9_record_10 : Nat → xM → Int32 → Option xM
  | 0, _, _ => none
  | fu + 1, M, i1 =>
    if 3664 ≤ i1 then (
      xl (xw M 149 2 ((M 149 2) - 1)) fun M9 =>
      f_X9_record_49 M9)
    else (
      xgd (xin (i1 + 916) 4580) <|
      xgd (xin i1 4580) <| xl (xw M 151 i1.toNatClampNeg (M 151 (i1 + 916).toNatClampNeg)) fun M10 =>
      xl (i1 + 1) fun v11 =>
      (f_X9_record_10 fu) M10 v11)
set_option maxHeartbeats 1000000 in
theorem x_X9_record_10 {ξ : xX} : ∀ (fu : Nat) (M : xM) (i1 : Int32) (z : xM), f_X9_record_10 fu M i1 = some z → X ξ mX9_record 10 [.ref 149, .int i1] [] SH M 0 0 (xr none SH z) := by
  intro fu
  induction fu with
  | zero => intro M i1 z h; rw [f_X9_record_10] at h; cases h
  | succ fu ih =>
    intro M i1 z h
    rw [f_X9_record_10] at h
    refine X_iload_n (x := i1) dX9_record_10 rfl ?_
    refine X_sipush 3664 dX9_record_11 rfl ?_
    refine X_icmp_ge 39 dX9_record_14 (by decide) h (fun h => ?_) (fun h => ?_)
    · refine X_aload_n (x := 149) dX9_record_39 rfl ?_
      refine X_dup dX9_record_40 rfl ?_
      refine X_get (v := .int (M 149 2)) kF_RX9_38 sh_149 rfl rfl dX9_record_41 ?_
      refine X_iconst 1 dX9_record_44 rfl ?_
      refine X_isub dX9_record_45 ?_
      refine X_putI kF_RX9_38 sh_149 rfl rfl rfl dX9_record_46 h (fun M9 h => ?_)
      refine X_cut 1 ?_
      exact x_X9_record_49 h
    · refine X_aload_n (x := 149) dX9_record_17 rfl ?_
      refine X_get (v := .ref 151) kF_RX9_13 sh_149 rfl rfl dX9_record_18 ?_
      refine X_iload_n (x := i1) dX9_record_21 rfl ?_
      refine X_aload_n (x := 149) dX9_record_22 rfl ?_
      refine X_get (v := .ref 151) kF_RX9_13 sh_149 rfl rfl dX9_record_23 ?_
      refine X_iload_n (x := i1) dX9_record_26 rfl ?_
      refine X_sipush 916 dX9_record_27 rfl ?_
      refine X_iadd dX9_record_30 ?_
      refine X_iald sh_151 dX9_record_31 h (fun h => ?_)
      refine X_iast sh_151 dX9_record_32 h (fun M10 h => ?_)
      refine X_iincL (x := i1) 1 (fun v11 => [.ref 149, .int v11]) dX9_record_33 rfl rfl (Nat.le_of_ble_eq_true rfl) (xcat1_of rfl) h (fun _ => rfl) (fun v11 h => ?_)
      refine X_goto 10 dX9_record_36 (by decide) ?_
      exact ih _ _ _ h
def f_X9_record (M : xM) : Option xM :=
  if (M 149 2) = 5 then (
    xl (0 : Int32) fun v12 =>
    f_X9_record_10 xFU M v12)
  else (
    f_X9_record_49 M)
set_option maxHeartbeats 1000000 in
theorem x_X9_record {ξ : xX} {M : xM} {z : xM} (h : f_X9_record M = some z) : X ξ mX9_record 0 [.ref 149] [] SH M 0 0 (xr none SH z) := by
  rw [f_X9_record] at h
  refine X_aload_n (x := 149) dX9_record_0 rfl ?_
  refine X_get (v := .int (M 149 2)) kF_RX9_38 sh_149 rfl rfl dX9_record_1 ?_
  refine X_iconst 5 dX9_record_4 rfl ?_
  refine X_icmp_ne 49 dX9_record_5 (by decide) h (fun h => ?_) (fun h => ?_)
  · exact x_X9_record_49 h
  · refine X_iconst 0 dX9_record_8 rfl ?_
    refine X_istoreL_n (fun v12 => [.ref 149, .int v12]) dX9_record_9 (Nat.le_of_ble_eq_true rfl) (Nat.le_of_ble_eq_true rfl) (xcat1_of rfl) h (fun _ => rfl) (fun v12 h => ?_)
    exact x_X9_record_10 _ _ _ _ h
def f_X9_isOne (M : xM) (a1 a2 : Int32) : Option Int32 :=
  xgd (xin a1 916) <|
  xb (f_X9_in a2 0 ((M 150 a1.toNatClampNeg) - 1)) fun v1 =>
  xgd (xz v1) (some v1)
set_option maxHeartbeats 1000000 in
theorem x_X9_isOne {ξ : xX} {M : xM} {a1 a2 : Int32} {z : Int32} (h : f_X9_isOne M a1 a2 = some z) : X ξ mX9_isOne 0 [.ref 149, .int a1, .int a2] [] SH M 0 0 (xr (some (.int z)) SH M) := by
  rw [f_X9_isOne] at h
  refine X_iload_n (x := a2) dX9_isOne_0 rfl ?_
  refine X_iconst 0 dX9_isOne_1 rfl ?_
  refine X_aload_n (x := 149) dX9_isOne_2 rfl ?_
  refine X_get (v := .ref 150) kF_RX9_7 sh_149 rfl rfl dX9_isOne_3 ?_
  refine X_iload_n (x := a1) dX9_isOne_6 rfl ?_
  refine X_iald sh_150 dX9_isOne_7 h (fun h => ?_)
  refine X_iconst 1 dX9_isOne_8 rfl ?_
  refine X_isub dX9_isOne_9 ?_
  refine X_sP (μ' := mX9_in) [.int a2, .int 0, .int ((M 150 a1.toNatClampNeg) - 1)] [] kL_RX9_42 kM_X9_in rfl rfl rfl dX9_isOne_10 h (fun _ hv => x_X9_in hv) (fun v1 h => ?_)
  exact X_retZ dX9_isOne_13 rfl (Nat.le_refl _) (Nat.le_refl _) h
def f_X9_tracksOf (a1 : Int32) : Option Int32 :=
  if a1 = 0 then (
    some 1)
  else (
    if a1 = 1 then (
      some 2)
    else (
      some 4))
set_option maxHeartbeats 1000000 in
theorem x_X9_tracksOf {ξ : xX} {M : xM} {a1 : Int32} {z : Int32} (h : f_X9_tracksOf a1 = some z) : X ξ mX9_tracksOf 0 [.int a1] [] SH M 0 0 (xr (some (.int z)) SH M) := by
  rw [f_X9_tracksOf] at h
  refine X_iload_n (x := a1) dX9_tracksOf_0 rfl ?_
  refine X_if_ne 8 dX9_tracksOf_1 (by decide) h (fun h => ?_) (fun h => ?_)
  · refine X_iload_n (x := a1) dX9_tracksOf_8 rfl ?_
    refine X_iconst 1 dX9_tracksOf_9 rfl ?_
    refine X_icmp_ne 17 dX9_tracksOf_10 (by decide) h (fun h => ?_) (fun h => ?_)
    · refine X_iconst 4 dX9_tracksOf_17 rfl ?_
      exact X_retP dX9_tracksOf_18 rfl (Nat.le_refl _) (Nat.le_refl _) h
    · refine X_iconst 2 dX9_tracksOf_13 rfl ?_
      refine X_goto 18 dX9_tracksOf_14 (by decide) ?_
      exact X_retP dX9_tracksOf_18 rfl (Nat.le_refl _) (Nat.le_refl _) h
  · refine X_iconst 1 dX9_tracksOf_4 rfl ?_
    refine X_goto 18 dX9_tracksOf_5 (by decide) ?_
    exact X_retP dX9_tracksOf_18 rfl (Nat.le_refl _) (Nat.le_refl _) h
def f_X9_stripsOf (a1 a2 : Int32) : Option Int32 :=
  if a1 = 0 then (
    some 15)
  else (
    if a1 = 1 then (
      some ((3 : Int32) <<< (((2 * a2) : Int32) &&& 31)))
    else (
      some ((1 : Int32) <<< ((a2 : Int32) &&& 31))))
set_option maxHeartbeats 1000000 in
theorem x_X9_stripsOf {ξ : xX} {M : xM} {a1 a2 : Int32} {z : Int32} (h : f_X9_stripsOf a1 a2 = some z) : X ξ mX9_stripsOf 0 [.int a1, .int a2] [] SH M 0 0 (xr (some (.int z)) SH M) := by
  rw [f_X9_stripsOf] at h
  refine X_iload_n (x := a1) dX9_stripsOf_0 rfl ?_
  refine X_if_ne 9 dX9_stripsOf_1 (by decide) h (fun h => ?_) (fun h => ?_)
  · refine X_iload_n (x := a1) dX9_stripsOf_9 rfl ?_
    refine X_iconst 1 dX9_stripsOf_10 rfl ?_
    refine X_icmp_ne 22 dX9_stripsOf_11 (by decide) h (fun h => ?_) (fun h => ?_)
    · refine X_iconst 1 dX9_stripsOf_22 rfl ?_
      refine X_iload_n (x := a2) dX9_stripsOf_23 rfl ?_
      refine X_ishl dX9_stripsOf_24 ?_
      exact X_retP dX9_stripsOf_25 rfl (Nat.le_refl _) (Nat.le_refl _) h
    · refine X_iconst 3 dX9_stripsOf_14 rfl ?_
      refine X_iconst 2 dX9_stripsOf_15 rfl ?_
      refine X_iload_n (x := a2) dX9_stripsOf_16 rfl ?_
      refine X_imul dX9_stripsOf_17 ?_
      refine X_ishl dX9_stripsOf_18 ?_
      refine X_goto 25 dX9_stripsOf_19 (by decide) ?_
      exact X_retP dX9_stripsOf_25 rfl (Nat.le_refl _) (Nat.le_refl _) h
  · refine X_bipush 15 dX9_stripsOf_4 rfl ?_
    refine X_goto 25 dX9_stripsOf_6 (by decide) ?_
    exact X_retP dX9_stripsOf_25 rfl (Nat.le_refl _) (Nat.le_refl _) h
def f_X9_sideOf (a1 a2 : Int32) : Option Int32 :=
  if a1 = 0 then (
    some 0)
  else (
    if a1 = 1 then (
      some a2)
    else (
      if a1 = 2 then (
        some (a2 - a2 / 2 * 2))
      else (
        some (a2 / 2))))
set_option maxHeartbeats 1000000 in
theorem x_X9_sideOf {ξ : xX} {M : xM} {a1 a2 : Int32} {z : Int32} (h : f_X9_sideOf a1 a2 = some z) : X ξ mX9_sideOf 0 [.int a1, .int a2] [] SH M 0 0 (xr (some (.int z)) SH M) := by
  rw [f_X9_sideOf] at h
  refine X_iload_n (x := a1) dX9_sideOf_0 rfl ?_
  refine X_if_ne 8 dX9_sideOf_1 (by decide) h (fun h => ?_) (fun h => ?_)
  · refine X_iload_n (x := a1) dX9_sideOf_8 rfl ?_
    refine X_iconst 1 dX9_sideOf_9 rfl ?_
    refine X_icmp_ne 17 dX9_sideOf_10 (by decide) h (fun h => ?_) (fun h => ?_)
    · refine X_iload_n (x := a1) dX9_sideOf_17 rfl ?_
      refine X_iconst 2 dX9_sideOf_18 rfl ?_
      refine X_icmp_ne 28 dX9_sideOf_19 (by decide) h (fun h => ?_) (fun h => ?_)
      · refine X_iload_n (x := a2) dX9_sideOf_28 rfl ?_
        refine X_iconst 2 dX9_sideOf_29 rfl ?_
        refine X_idiv (by decide) dX9_sideOf_30 ?_
        exact X_retP dX9_sideOf_31 rfl (Nat.le_refl _) (Nat.le_refl _) h
      · refine X_iload_n (x := a2) dX9_sideOf_22 rfl ?_
        refine X_iconst 2 dX9_sideOf_23 rfl ?_
        refine X_irem (by decide) dX9_sideOf_24 ?_
        refine X_goto 31 dX9_sideOf_25 (by decide) ?_
        exact X_retP dX9_sideOf_31 rfl (Nat.le_refl _) (Nat.le_refl _) h
    · refine X_iload_n (x := a2) dX9_sideOf_13 rfl ?_
      refine X_goto 31 dX9_sideOf_14 (by decide) ?_
      exact X_retP dX9_sideOf_31 rfl (Nat.le_refl _) (Nat.le_refl _) h
  · refine X_iconst 0 dX9_sideOf_4 rfl ?_
    refine X_goto 31 dX9_sideOf_5 (by decide) ?_
    exact X_retP dX9_sideOf_31 rfl (Nat.le_refl _) (Nat.le_refl _) h
def f_X9_turned (a1 : Int32) : Option Int32 :=
  some ((((((a1 : Int32) <<< ((3 : Int32) &&& 31)) &&& 8) ||| (((a1 : Int32) <<< ((1 : Int32) &&& 31)) &&& 4)) ||| (((a1 : Int32) >>> ((1 : Int32) &&& 31)) &&& 2)) ||| (((a1 : Int32) >>> ((3 : Int32) &&& 31)) &&& 1))
set_option maxHeartbeats 1000000 in
theorem x_X9_turned {ξ : xX} {M : xM} {a1 : Int32} {z : Int32} (h : f_X9_turned a1 = some z) : X ξ mX9_turned 0 [.int a1] [] SH M 0 0 (xr (some (.int z)) SH M) := by
  rw [f_X9_turned] at h
  refine X_iload_n (x := a1) dX9_turned_0 rfl ?_
  refine X_iconst 3 dX9_turned_1 rfl ?_
  refine X_ishl dX9_turned_2 ?_
  refine X_bipush 8 dX9_turned_3 rfl ?_
  refine X_iand dX9_turned_5 ?_
  refine X_iload_n (x := a1) dX9_turned_6 rfl ?_
  refine X_iconst 1 dX9_turned_7 rfl ?_
  refine X_ishl dX9_turned_8 ?_
  refine X_iconst 4 dX9_turned_9 rfl ?_
  refine X_iand dX9_turned_10 ?_
  refine X_ior dX9_turned_11 ?_
  refine X_iload_n (x := a1) dX9_turned_12 rfl ?_
  refine X_iconst 1 dX9_turned_13 rfl ?_
  refine X_ishr dX9_turned_14 ?_
  refine X_iconst 2 dX9_turned_15 rfl ?_
  refine X_iand dX9_turned_16 ?_
  refine X_ior dX9_turned_17 ?_
  refine X_iload_n (x := a1) dX9_turned_18 rfl ?_
  refine X_iconst 3 dX9_turned_19 rfl ?_
  refine X_ishr dX9_turned_20 ?_
  refine X_iconst 1 dX9_turned_21 rfl ?_
  refine X_iand dX9_turned_22 ?_
  refine X_ior dX9_turned_23 ?_
  exact X_retP dX9_turned_24 rfl (Nat.le_refl _) (Nat.le_refl _) h
def f_X9_placeOfSpeed_27 (M : xM) (k2 : Int32 → Int32 → Int32 → Option Int32) (i1 : Int32) (i2 : Int32) (i3 : Int32) : Option Int32 :=
  xl (i3 + 1) fun v3 =>
  k2 i1 i2 v3
set_option maxHeartbeats 1000000 in
theorem x_X9_placeOfSpeed_27 {ξ : xX} {M : xM} {k2 : Int32 → Int32 → Int32 → Option Int32} {i1 : Int32} {i2 : Int32} {i3 : Int32} (hk2 : ∀ (j1 j2 j3 : Int32) (z : Int32), k2 j1 j2 j3 = some z → X ξ mX9_placeOfSpeed 2 [.ref 149, .int j1, .int j2, .int j3] [] SH M 0 0 (xr (some (.int z)) SH M)) {z : Int32} (h : f_X9_placeOfSpeed_27 M k2 i1 i2 i3 = some z) : X ξ mX9_placeOfSpeed 27 [.ref 149, .int i1, .int i2, .int i3] [] SH M 0 0 (xr (some (.int z)) SH M) := by
  rw [f_X9_placeOfSpeed_27] at h
  refine X_iincL (x := i3) 1 (fun v3 => [.ref 149, .int i1, .int i2, .int v3]) dX9_placeOfSpeed_27 rfl rfl (Nat.le_of_ble_eq_true rfl) (xcat1_of rfl) h (fun _ => rfl) (fun v3 h => ?_)
  refine X_goto 2 dX9_placeOfSpeed_30 (by decide) ?_
  exact hk2 _ _ _ _ h
def f_X9_placeOfSpeed_2 (M : xM) : Nat → Int32 → Int32 → Int32 → Option Int32
  | 0, _, _, _ => none
  | fu + 1, i1, i2, i3 =>
    if 3 ≤ i3 then (
      some (-1))
    else (
      if i2 ≤ 0 then (
        f_X9_placeOfSpeed_27 M (f_X9_placeOfSpeed_2 M fu) i1 i2 i3)
      else (
        xgd (xin ((3 * i1) + i3) 9) <|
        if (M 155 ((3 * i1) + i3).toNatClampNeg) = i2 then (
          some i3)
        else (
          f_X9_placeOfSpeed_27 M (f_X9_placeOfSpeed_2 M fu) i1 i2 i3)))
set_option maxHeartbeats 1000000 in
theorem x_X9_placeOfSpeed_2 {ξ : xX} {M : xM} : ∀ (fu : Nat) (i1 i2 i3 : Int32) (z : Int32), f_X9_placeOfSpeed_2 M fu i1 i2 i3 = some z → X ξ mX9_placeOfSpeed 2 [.ref 149, .int i1, .int i2, .int i3] [] SH M 0 0 (xr (some (.int z)) SH M) := by
  intro fu
  induction fu with
  | zero => intro i1 i2 i3 z h; rw [f_X9_placeOfSpeed_2] at h; cases h
  | succ fu ih =>
    intro i1 i2 i3 z h
    rw [f_X9_placeOfSpeed_2] at h
    refine X_iload_n (x := i3) dX9_placeOfSpeed_2 rfl ?_
    refine X_iconst 3 dX9_placeOfSpeed_3 rfl ?_
    refine X_icmp_ge 33 dX9_placeOfSpeed_4 (by decide) h (fun h => ?_) (fun h => ?_)
    · refine X_iconst (-1) dX9_placeOfSpeed_33 rfl ?_
      exact X_retP dX9_placeOfSpeed_34 rfl (Nat.le_refl _) (Nat.le_refl _) h
    · refine X_iload_n (x := i2) dX9_placeOfSpeed_7 rfl ?_
      refine X_if_le 27 dX9_placeOfSpeed_8 (by decide) h (fun h => ?_) (fun h => ?_)
      · exact x_X9_placeOfSpeed_27 ih h
      · refine X_aload_n (x := 149) dX9_placeOfSpeed_11 rfl ?_
        refine X_get (v := .ref 155) kF_RX9_26 sh_149 rfl rfl dX9_placeOfSpeed_12 ?_
        refine X_iconst 3 dX9_placeOfSpeed_15 rfl ?_
        refine X_iload_n (x := i1) dX9_placeOfSpeed_16 rfl ?_
        refine X_imul dX9_placeOfSpeed_17 ?_
        refine X_iload_n (x := i3) dX9_placeOfSpeed_18 rfl ?_
        refine X_iadd dX9_placeOfSpeed_19 ?_
        refine X_iald sh_155 dX9_placeOfSpeed_20 h (fun h => ?_)
        refine X_iload_n (x := i2) dX9_placeOfSpeed_21 rfl ?_
        refine X_icmp_ne 27 dX9_placeOfSpeed_22 (by decide) h (fun h => ?_) (fun h => ?_)
        · exact x_X9_placeOfSpeed_27 ih h
        · refine X_iload_n (x := i3) dX9_placeOfSpeed_25 rfl ?_
          exact X_retP dX9_placeOfSpeed_26 rfl (Nat.le_refl _) (Nat.le_refl _) h
def f_X9_placeOfSpeed (M : xM) (a1 a2 : Int32) : Option Int32 :=
  xl (0 : Int32) fun v4 =>
  f_X9_placeOfSpeed_2 M xFU a1 a2 v4
set_option maxHeartbeats 1000000 in
theorem x_X9_placeOfSpeed {ξ : xX} {M : xM} {a1 a2 : Int32} {z : Int32} (h : f_X9_placeOfSpeed M a1 a2 = some z) : X ξ mX9_placeOfSpeed 0 [.ref 149, .int a1, .int a2] [] SH M 0 0 (xr (some (.int z)) SH M) := by
  rw [f_X9_placeOfSpeed] at h
  refine X_iconst 0 dX9_placeOfSpeed_0 rfl ?_
  refine X_istoreL_n (fun v4 => [.ref 149, .int a1, .int a2, .int v4]) dX9_placeOfSpeed_1 (Nat.le_of_ble_eq_true rfl) (Nat.le_of_ble_eq_true rfl) (xcat1_of rfl) h (fun _ => rfl) (fun v4 h => ?_)
  exact x_X9_placeOfSpeed_2 _ _ _ _ _ h
def f_X9_hasLayout (M : xM) (a1 a2 : Int32) : Option Int32 :=
  xb (f_X9_in a2 0 3) fun v1 =>
  if v1 = 0 then (
    some 0)
  else (
    xgd (xin a1 3) <|
    if ((((M 156 a1.toNatClampNeg) : Int32) >>> ((a2 : Int32) &&& 31)) &&& 1) = 1 then (
      some 1)
    else (
      some 0))
set_option maxHeartbeats 1000000 in
theorem x_X9_hasLayout {ξ : xX} {M : xM} {a1 a2 : Int32} {z : Int32} (h : f_X9_hasLayout M a1 a2 = some z) : X ξ mX9_hasLayout 0 [.ref 149, .int a1, .int a2] [] SH M 0 0 (xr (some (.int z)) SH M) := by
  rw [f_X9_hasLayout] at h
  refine X_iload_n (x := a2) dX9_hasLayout_0 rfl ?_
  refine X_iconst 0 dX9_hasLayout_1 rfl ?_
  refine X_iconst 3 dX9_hasLayout_2 rfl ?_
  refine X_sP (μ' := mX9_in) [.int a2, .int 0, .int 3] [] kL_RX9_42 kM_X9_in rfl rfl rfl dX9_hasLayout_3 h (fun _ hv => x_X9_in hv) (fun v1 h => ?_)
  refine X_if_eq 27 dX9_hasLayout_6 (by decide) h (fun h => ?_) (fun h => ?_)
  · refine X_iconst 0 dX9_hasLayout_27 rfl ?_
    exact X_retLP (by decide) dX9_hasLayout_28 rfl (Nat.le_refl _) (Nat.le_refl _) h
  · refine X_aload_n (x := 149) dX9_hasLayout_9 rfl ?_
    refine X_get (v := .ref 156) kF_RX9_29 sh_149 rfl rfl dX9_hasLayout_10 ?_
    refine X_iload_n (x := a1) dX9_hasLayout_13 rfl ?_
    refine X_iald sh_156 dX9_hasLayout_14 h (fun h => ?_)
    refine X_iload_n (x := a2) dX9_hasLayout_15 rfl ?_
    refine X_ishr dX9_hasLayout_16 ?_
    refine X_iconst 1 dX9_hasLayout_17 rfl ?_
    refine X_iand dX9_hasLayout_18 ?_
    refine X_iconst 1 dX9_hasLayout_19 rfl ?_
    refine X_icmp_ne 27 dX9_hasLayout_20 (by decide) h (fun h => ?_) (fun h => ?_)
    · refine X_iconst 0 dX9_hasLayout_27 rfl ?_
      exact X_retLP (by decide) dX9_hasLayout_28 rfl (Nat.le_refl _) (Nat.le_refl _) h
    · refine X_iconst 1 dX9_hasLayout_23 rfl ?_
      refine X_goto 28 dX9_hasLayout_24 (by decide) ?_
      exact X_retLP (by decide) dX9_hasLayout_28 rfl (Nat.le_refl _) (Nat.le_refl _) h
def f_X9_hasSpeed (M : xM) (a1 a2 : Int32) : Option Int32 :=
  xl (64 + (5 * a1)) fun v3 =>
  xgd (xin v3 916) <|
  xb (f_X9_placeOfSpeed M (M 150 v3.toNatClampNeg) a2) fun v4 =>
  xl v4 fun v5 =>
  if v5 < 0 then (
    some 0)
  else (
    xgd (xin (v3 + 1) 916) <|
    if ((((M 150 (v3 + 1).toNatClampNeg) : Int32) >>> ((v5 : Int32) &&& 31)) &&& 1) = 1 then (
      some 1)
    else (
      some 0))
set_option maxHeartbeats 1000000 in
theorem x_X9_hasSpeed {ξ : xX} {M : xM} {a1 a2 : Int32} {z : Int32} (h : f_X9_hasSpeed M a1 a2 = some z) : X ξ mX9_hasSpeed 0 [.ref 149, .int a1, .int a2] [] SH M 0 0 (xr (some (.int z)) SH M) := by
  rw [f_X9_hasSpeed] at h
  refine X_bipush 64 dX9_hasSpeed_0 rfl ?_
  refine X_iconst 5 dX9_hasSpeed_2 rfl ?_
  refine X_iload_n (x := a1) dX9_hasSpeed_3 rfl ?_
  refine X_imul dX9_hasSpeed_4 ?_
  refine X_iadd dX9_hasSpeed_5 ?_
  refine X_istoreL_n (fun v3 => [.ref 149, .int a1, .int a2, .int v3]) dX9_hasSpeed_6 (Nat.le_of_ble_eq_true rfl) (Nat.le_of_ble_eq_true rfl) (xcat1_of rfl) h (fun _ => rfl) (fun v3 h => ?_)
  refine X_aload_n (x := 149) dX9_hasSpeed_7 rfl ?_
  refine X_aload_n (x := 149) dX9_hasSpeed_8 rfl ?_
  refine X_get (v := .ref 150) kF_RX9_7 sh_149 rfl rfl dX9_hasSpeed_9 ?_
  refine X_iload_n (x := v3) dX9_hasSpeed_12 rfl ?_
  refine X_iald sh_150 dX9_hasSpeed_13 h (fun h => ?_)
  refine X_iload_n (x := a2) dX9_hasSpeed_14 rfl ?_
  refine X_vP (μ' := mX9_placeOfSpeed) [.int (M 150 v3.toNatClampNeg), .int a2] [] kL_RX9_46 kM_X9_placeOfSpeed rv_149 rfl rfl rfl dX9_hasSpeed_15 h (fun _ hv => x_X9_placeOfSpeed hv) (fun v4 h => ?_)
  refine X_istoreL (fun v5 => [.ref 149, .int a1, .int a2, .int v3, .int v5]) dX9_hasSpeed_18 (Nat.le_of_ble_eq_true rfl) (Nat.le_of_ble_eq_true rfl) (xcat1_of rfl) h (fun _ => rfl) (fun v5 h => ?_)
  refine X_iload (x := v5) dX9_hasSpeed_20 rfl ?_
  refine X_if_lt 46 dX9_hasSpeed_22 (by decide) h (fun h => ?_) (fun h => ?_)
  · refine X_iconst 0 dX9_hasSpeed_46 rfl ?_
    exact X_retLP (by decide) dX9_hasSpeed_47 rfl (Nat.le_refl _) (Nat.le_refl _) h
  · refine X_aload_n (x := 149) dX9_hasSpeed_25 rfl ?_
    refine X_get (v := .ref 150) kF_RX9_7 sh_149 rfl rfl dX9_hasSpeed_26 ?_
    refine X_iload_n (x := v3) dX9_hasSpeed_29 rfl ?_
    refine X_iconst 1 dX9_hasSpeed_30 rfl ?_
    refine X_iadd dX9_hasSpeed_31 ?_
    refine X_iald sh_150 dX9_hasSpeed_32 h (fun h => ?_)
    refine X_iload (x := v5) dX9_hasSpeed_33 rfl ?_
    refine X_ishr dX9_hasSpeed_35 ?_
    refine X_iconst 1 dX9_hasSpeed_36 rfl ?_
    refine X_iand dX9_hasSpeed_37 ?_
    refine X_iconst 1 dX9_hasSpeed_38 rfl ?_
    refine X_icmp_ne 46 dX9_hasSpeed_39 (by decide) h (fun h => ?_) (fun h => ?_)
    · refine X_iconst 0 dX9_hasSpeed_46 rfl ?_
      exact X_retLP (by decide) dX9_hasSpeed_47 rfl (Nat.le_refl _) (Nat.le_refl _) h
    · refine X_iconst 1 dX9_hasSpeed_42 rfl ?_
      refine X_goto 47 dX9_hasSpeed_43 (by decide) ?_
      exact X_retLP (by decide) dX9_hasSpeed_47 rfl (Nat.le_refl _) (Nat.le_refl _) h
def f_X9_addCarrier (M : xM) (a1 a2 a3 a4 a5 : Int32) : Option (Int32 × xM) :=
  xb (f_X9_in a1 0 2) fun v2 =>
  if v2 = 0 then (
    some ((-2), M))
  else (
    xb (f_X9_placeOfSpeed M a1 a2) fun v3 =>
    if v3 < 0 then (
      some ((-2), M))
    else (
      xb (f_X9_hasLayout M a1 a3) fun v4 =>
      if v4 = 0 then (
        some ((-2), M))
      else (
        xb (f_X9_in a4 1 3600) fun v5 =>
        if v5 = 0 then (
          some ((-2), M))
        else (
          xb (f_X9_in a5 1 99) fun v6 =>
          if v6 = 0 then (
            some ((-2), M))
          else (
            xgd (xin 1 916) <|
            if (M 150 (1 : Int32).toNatClampNeg) = 8 then (
              some ((-4), M))
            else (
              xb (f_X9_record M) fun M7 =>
              xgd (xin 1 916) <|
              xl (24 + (5 * (M7 150 (1 : Int32).toNatClampNeg))) fun v8 =>
              xgd (xin v8 916) <| xl (xw M7 150 v8.toNatClampNeg a1) fun M9 =>
              xgd (xin (v8 + 1) 916) <| xl (xw M9 150 (v8 + 1).toNatClampNeg a2) fun M10 =>
              xgd (xin (v8 + 2) 916) <| xl (xw M10 150 (v8 + 2).toNatClampNeg a3) fun M11 =>
              xgd (xin (v8 + 3) 916) <| xl (xw M11 150 (v8 + 3).toNatClampNeg a4) fun M12 =>
              xgd (xin (v8 + 4) 916) <| xl (xw M12 150 (v8 + 4).toNatClampNeg a5) fun M13 =>
              xgd (xin 1 916) <|
              xgd (xin 1 916) <| xl (xw M13 150 (1 : Int32).toNatClampNeg ((M13 150 (1 : Int32).toNatClampNeg) + 1)) fun M14 =>
              xgd (xin 1 916) <|
              some (((M14 150 (1 : Int32).toNatClampNeg) - 1), M14)))))))
set_option maxHeartbeats 1000000 in
theorem x_X9_addCarrier {ξ : xX} {M : xM} {a1 a2 a3 a4 a5 : Int32} {z : (Int32 × xM)} (h : f_X9_addCarrier M a1 a2 a3 a4 a5 = some z) : X ξ mX9_addCarrier 0 [.ref 149, .int a1, .int a2, .int a3, .int a4, .int a5] [] SH M 0 0 (xr (some (.int z.1)) SH z.2) := by
  rw [f_X9_addCarrier] at h
  refine X_iload_n (x := a1) dX9_addCarrier_0 rfl ?_
  refine X_iconst 0 dX9_addCarrier_1 rfl ?_
  refine X_iconst 2 dX9_addCarrier_2 rfl ?_
  refine X_sP (μ' := mX9_in) [.int a1, .int 0, .int 2] [] kL_RX9_42 kM_X9_in rfl rfl rfl dX9_addCarrier_3 h (fun _ hv => x_X9_in hv) (fun v2 h => ?_)
  refine X_if_eq 50 dX9_addCarrier_6 (by decide) h (fun h => ?_) (fun h => ?_)
  · refine X_bipush (-2) dX9_addCarrier_50 rfl ?_
    exact X_retI dX9_addCarrier_52 rfl (Nat.le_refl _) (Nat.le_refl _) h
  · refine X_aload_n (x := 149) dX9_addCarrier_9 rfl ?_
    refine X_iload_n (x := a1) dX9_addCarrier_10 rfl ?_
    refine X_iload_n (x := a2) dX9_addCarrier_11 rfl ?_
    refine X_vP (μ' := mX9_placeOfSpeed) [.int a1, .int a2] [] kL_RX9_46 kM_X9_placeOfSpeed rv_149 rfl rfl rfl dX9_addCarrier_12 h (fun _ hv => x_X9_placeOfSpeed hv) (fun v3 h => ?_)
    refine X_if_lt 50 dX9_addCarrier_15 (by decide) h (fun h => ?_) (fun h => ?_)
    · refine X_bipush (-2) dX9_addCarrier_50 rfl ?_
      exact X_retI dX9_addCarrier_52 rfl (Nat.le_refl _) (Nat.le_refl _) h
    · refine X_aload_n (x := 149) dX9_addCarrier_18 rfl ?_
      refine X_iload_n (x := a1) dX9_addCarrier_19 rfl ?_
      refine X_iload_n (x := a3) dX9_addCarrier_20 rfl ?_
      refine X_vP (μ' := mX9_hasLayout) [.int a1, .int a3] [] kL_RX9_50 kM_X9_hasLayout rv_149 rfl rfl rfl dX9_addCarrier_21 h (fun _ hv => x_X9_hasLayout hv) (fun v4 h => ?_)
      refine X_if_eq 50 dX9_addCarrier_24 (by decide) h (fun h => ?_) (fun h => ?_)
      · refine X_bipush (-2) dX9_addCarrier_50 rfl ?_
        exact X_retI dX9_addCarrier_52 rfl (Nat.le_refl _) (Nat.le_refl _) h
      · refine X_iload (x := a4) dX9_addCarrier_27 rfl ?_
        refine X_iconst 1 dX9_addCarrier_29 rfl ?_
        refine X_sipush 3600 dX9_addCarrier_30 rfl ?_
        refine X_sP (μ' := mX9_in) [.int a4, .int 1, .int 3600] [] kL_RX9_42 kM_X9_in rfl rfl rfl dX9_addCarrier_33 h (fun _ hv => x_X9_in hv) (fun v5 h => ?_)
        refine X_if_eq 50 dX9_addCarrier_36 (by decide) h (fun h => ?_) (fun h => ?_)
        · refine X_bipush (-2) dX9_addCarrier_50 rfl ?_
          exact X_retI dX9_addCarrier_52 rfl (Nat.le_refl _) (Nat.le_refl _) h
        · refine X_iload (x := a5) dX9_addCarrier_39 rfl ?_
          refine X_iconst 1 dX9_addCarrier_41 rfl ?_
          refine X_bipush 99 dX9_addCarrier_42 rfl ?_
          refine X_sP (μ' := mX9_in) [.int a5, .int 1, .int 99] [] kL_RX9_42 kM_X9_in rfl rfl rfl dX9_addCarrier_44 h (fun _ hv => x_X9_in hv) (fun v6 h => ?_)
          refine X_if_ne 53 dX9_addCarrier_47 (by decide) h (fun h => ?_) (fun h => ?_)
          · refine X_aload_n (x := 149) dX9_addCarrier_53 rfl ?_
            refine X_get (v := .ref 150) kF_RX9_7 sh_149 rfl rfl dX9_addCarrier_54 ?_
            refine X_iconst 1 dX9_addCarrier_57 rfl ?_
            refine X_iald sh_150 dX9_addCarrier_58 h (fun h => ?_)
            refine X_bipush 8 dX9_addCarrier_59 rfl ?_
            refine X_icmp_ne 67 dX9_addCarrier_61 (by decide) h (fun h => ?_) (fun h => ?_)
            · refine X_aload_n (x := 149) dX9_addCarrier_67 rfl ?_
              refine X_vV (μ' := mX9_record) [] [] kL_RX9_54 kM_X9_record rv_149 rfl rfl rfl dX9_addCarrier_68 h (fun _ hv => x_X9_record hv) (fun M7 h => ?_)
              refine X_bipush 24 dX9_addCarrier_71 rfl ?_
              refine X_iconst 5 dX9_addCarrier_73 rfl ?_
              refine X_aload_n (x := 149) dX9_addCarrier_74 rfl ?_
              refine X_get (v := .ref 150) kF_RX9_7 sh_149 rfl rfl dX9_addCarrier_75 ?_
              refine X_iconst 1 dX9_addCarrier_78 rfl ?_
              refine X_iald sh_150 dX9_addCarrier_79 h (fun h => ?_)
              refine X_imul dX9_addCarrier_80 ?_
              refine X_iadd dX9_addCarrier_81 ?_
              refine X_istoreL (fun v8 => [.ref 149, .int a1, .int a2, .int a3, .int a4, .int a5, .int v8]) dX9_addCarrier_82 (Nat.le_of_ble_eq_true rfl) (Nat.le_of_ble_eq_true rfl) (xcat1_of rfl) h (fun _ => rfl) (fun v8 h => ?_)
              refine X_aload_n (x := 149) dX9_addCarrier_84 rfl ?_
              refine X_get (v := .ref 150) kF_RX9_7 sh_149 rfl rfl dX9_addCarrier_85 ?_
              refine X_iload (x := v8) dX9_addCarrier_88 rfl ?_
              refine X_iload_n (x := a1) dX9_addCarrier_90 rfl ?_
              refine X_iast sh_150 dX9_addCarrier_91 h (fun M9 h => ?_)
              refine X_aload_n (x := 149) dX9_addCarrier_92 rfl ?_
              refine X_get (v := .ref 150) kF_RX9_7 sh_149 rfl rfl dX9_addCarrier_93 ?_
              refine X_iload (x := v8) dX9_addCarrier_96 rfl ?_
              refine X_iconst 1 dX9_addCarrier_98 rfl ?_
              refine X_iadd dX9_addCarrier_99 ?_
              refine X_iload_n (x := a2) dX9_addCarrier_100 rfl ?_
              refine X_iast sh_150 dX9_addCarrier_101 h (fun M10 h => ?_)
              refine X_aload_n (x := 149) dX9_addCarrier_102 rfl ?_
              refine X_get (v := .ref 150) kF_RX9_7 sh_149 rfl rfl dX9_addCarrier_103 ?_
              refine X_iload (x := v8) dX9_addCarrier_106 rfl ?_
              refine X_iconst 2 dX9_addCarrier_108 rfl ?_
              refine X_iadd dX9_addCarrier_109 ?_
              refine X_iload_n (x := a3) dX9_addCarrier_110 rfl ?_
              refine X_iast sh_150 dX9_addCarrier_111 h (fun M11 h => ?_)
              refine X_aload_n (x := 149) dX9_addCarrier_112 rfl ?_
              refine X_get (v := .ref 150) kF_RX9_7 sh_149 rfl rfl dX9_addCarrier_113 ?_
              refine X_iload (x := v8) dX9_addCarrier_116 rfl ?_
              refine X_iconst 3 dX9_addCarrier_118 rfl ?_
              refine X_iadd dX9_addCarrier_119 ?_
              refine X_iload (x := a4) dX9_addCarrier_120 rfl ?_
              refine X_iast sh_150 dX9_addCarrier_122 h (fun M12 h => ?_)
              refine X_aload_n (x := 149) dX9_addCarrier_123 rfl ?_
              refine X_get (v := .ref 150) kF_RX9_7 sh_149 rfl rfl dX9_addCarrier_124 ?_
              refine X_iload (x := v8) dX9_addCarrier_127 rfl ?_
              refine X_iconst 4 dX9_addCarrier_129 rfl ?_
              refine X_iadd dX9_addCarrier_130 ?_
              refine X_iload (x := a5) dX9_addCarrier_131 rfl ?_
              refine X_iast sh_150 dX9_addCarrier_133 h (fun M13 h => ?_)
              refine X_aload_n (x := 149) dX9_addCarrier_134 rfl ?_
              refine X_get (v := .ref 150) kF_RX9_7 sh_149 rfl rfl dX9_addCarrier_135 ?_
              refine X_iconst 1 dX9_addCarrier_138 rfl ?_
              refine X_dup2 dX9_addCarrier_139 rfl rfl ?_
              refine X_iald sh_150 dX9_addCarrier_140 h (fun h => ?_)
              refine X_iconst 1 dX9_addCarrier_141 rfl ?_
              refine X_iadd dX9_addCarrier_142 ?_
              refine X_iast sh_150 dX9_addCarrier_143 h (fun M14 h => ?_)
              refine X_aload_n (x := 149) dX9_addCarrier_144 rfl ?_
              refine X_get (v := .ref 150) kF_RX9_7 sh_149 rfl rfl dX9_addCarrier_145 ?_
              refine X_iconst 1 dX9_addCarrier_148 rfl ?_
              refine X_iald sh_150 dX9_addCarrier_149 h (fun h => ?_)
              refine X_iconst 1 dX9_addCarrier_150 rfl ?_
              refine X_isub dX9_addCarrier_151 ?_
              exact X_retI dX9_addCarrier_152 rfl (Nat.le_refl _) (Nat.le_refl _) h
            · refine X_bipush (-4) dX9_addCarrier_64 rfl ?_
              exact X_retI dX9_addCarrier_66 rfl (Nat.le_refl _) (Nat.le_refl _) h
          · refine X_bipush (-2) dX9_addCarrier_50 rfl ?_
            exact X_retI dX9_addCarrier_52 rfl (Nat.le_refl _) (Nat.le_refl _) h
def f_X9_addMachine_22 (M : xM) (i1 : Int32) (i2 : Int32) (i3 : Int32) (i4 : Int32) (s0 : Int32) (s1 : Int32) (s2 : Int32) : Option (Int32 × xM) :=
  xb (f_X9_in s0 s1 s2) fun v2 =>
  if v2 = 0 then (
    some ((-2), M))
  else (
    xb (f_X9_hasLayout M i1 i3) fun v3 =>
    if v3 = 0 then (
      some ((-2), M))
    else (
      xb (f_X9_in i4 1 100) fun v4 =>
      if v4 = 0 then (
        some ((-2), M))
      else (
        xgd (xin 2 916) <|
        if (M 150 (2 : Int32).toNatClampNeg) = 4 then (
          some ((-4), M))
        else (
          xb (f_X9_record M) fun M5 =>
          xgd (xin 2 916) <|
          xl (64 + (5 * (M5 150 (2 : Int32).toNatClampNeg))) fun v6 =>
          xgd (xin v6 916) <| xl (xw M5 150 v6.toNatClampNeg i1) fun M7 =>
          xgd (xin (v6 + 1) 916) <| xl (xw M7 150 (v6 + 1).toNatClampNeg i2) fun M8 =>
          xgd (xin (v6 + 2) 916) <| xl (xw M8 150 (v6 + 2).toNatClampNeg i3) fun M9 =>
          xgd (xin (v6 + 3) 916) <| xl (xw M9 150 (v6 + 3).toNatClampNeg i4) fun M10 =>
          xgd (xin (v6 + 4) 916) <| xl (xw M10 150 (v6 + 4).toNatClampNeg 28800) fun M11 =>
          xgd (xin 2 916) <|
          xgd (xin 2 916) <| xl (xw M11 150 (2 : Int32).toNatClampNeg ((M11 150 (2 : Int32).toNatClampNeg) + 1)) fun M12 =>
          xgd (xin 2 916) <|
          some (((M12 150 (2 : Int32).toNatClampNeg) - 1), M12)))))
set_option maxHeartbeats 1000000 in
theorem x_X9_addMachine_22 {ξ : xX} {M : xM} {i1 : Int32} {i2 : Int32} {i3 : Int32} {i4 : Int32} {s0 : Int32} {s1 : Int32} {s2 : Int32} {z : (Int32 × xM)} (h : f_X9_addMachine_22 M i1 i2 i3 i4 s0 s1 s2 = some z) : X ξ mX9_addMachine 22 [.ref 149, .int i1, .int i2, .int i3, .int i4] [.int s2, .int s1, .int s0] SH M 0 0 (xr (some (.int z.1)) SH z.2) := by
  rw [f_X9_addMachine_22] at h
  refine X_sP (μ' := mX9_in) [.int s0, .int s1, .int s2] [] kL_RX9_42 kM_X9_in rfl rfl rfl dX9_addMachine_22 h (fun _ hv => x_X9_in hv) (fun v2 h => ?_)
  refine X_if_eq 48 dX9_addMachine_25 (by decide) h (fun h => ?_) (fun h => ?_)
  · refine X_bipush (-2) dX9_addMachine_48 rfl ?_
    exact X_retI dX9_addMachine_50 rfl (Nat.le_refl _) (Nat.le_refl _) h
  · refine X_aload_n (x := 149) dX9_addMachine_28 rfl ?_
    refine X_iload_n (x := i1) dX9_addMachine_29 rfl ?_
    refine X_iload_n (x := i3) dX9_addMachine_30 rfl ?_
    refine X_vP (μ' := mX9_hasLayout) [.int i1, .int i3] [] kL_RX9_50 kM_X9_hasLayout rv_149 rfl rfl rfl dX9_addMachine_31 h (fun _ hv => x_X9_hasLayout hv) (fun v3 h => ?_)
    refine X_if_eq 48 dX9_addMachine_34 (by decide) h (fun h => ?_) (fun h => ?_)
    · refine X_bipush (-2) dX9_addMachine_48 rfl ?_
      exact X_retI dX9_addMachine_50 rfl (Nat.le_refl _) (Nat.le_refl _) h
    · refine X_iload (x := i4) dX9_addMachine_37 rfl ?_
      refine X_iconst 1 dX9_addMachine_39 rfl ?_
      refine X_bipush 100 dX9_addMachine_40 rfl ?_
      refine X_sP (μ' := mX9_in) [.int i4, .int 1, .int 100] [] kL_RX9_42 kM_X9_in rfl rfl rfl dX9_addMachine_42 h (fun _ hv => x_X9_in hv) (fun v4 h => ?_)
      refine X_if_ne 51 dX9_addMachine_45 (by decide) h (fun h => ?_) (fun h => ?_)
      · refine X_aload_n (x := 149) dX9_addMachine_51 rfl ?_
        refine X_get (v := .ref 150) kF_RX9_7 sh_149 rfl rfl dX9_addMachine_52 ?_
        refine X_iconst 2 dX9_addMachine_55 rfl ?_
        refine X_iald sh_150 dX9_addMachine_56 h (fun h => ?_)
        refine X_iconst 4 dX9_addMachine_57 rfl ?_
        refine X_icmp_ne 64 dX9_addMachine_58 (by decide) h (fun h => ?_) (fun h => ?_)
        · refine X_aload_n (x := 149) dX9_addMachine_64 rfl ?_
          refine X_vV (μ' := mX9_record) [] [] kL_RX9_54 kM_X9_record rv_149 rfl rfl rfl dX9_addMachine_65 h (fun _ hv => x_X9_record hv) (fun M5 h => ?_)
          refine X_bipush 64 dX9_addMachine_68 rfl ?_
          refine X_iconst 5 dX9_addMachine_70 rfl ?_
          refine X_aload_n (x := 149) dX9_addMachine_71 rfl ?_
          refine X_get (v := .ref 150) kF_RX9_7 sh_149 rfl rfl dX9_addMachine_72 ?_
          refine X_iconst 2 dX9_addMachine_75 rfl ?_
          refine X_iald sh_150 dX9_addMachine_76 h (fun h => ?_)
          refine X_imul dX9_addMachine_77 ?_
          refine X_iadd dX9_addMachine_78 ?_
          refine X_istoreL (fun v6 => [.ref 149, .int i1, .int i2, .int i3, .int i4, .int v6]) dX9_addMachine_79 (Nat.le_of_ble_eq_true rfl) (Nat.le_of_ble_eq_true rfl) (xcat1_of rfl) h (fun _ => rfl) (fun v6 h => ?_)
          refine X_aload_n (x := 149) dX9_addMachine_81 rfl ?_
          refine X_get (v := .ref 150) kF_RX9_7 sh_149 rfl rfl dX9_addMachine_82 ?_
          refine X_iload (x := v6) dX9_addMachine_85 rfl ?_
          refine X_iload_n (x := i1) dX9_addMachine_87 rfl ?_
          refine X_iast sh_150 dX9_addMachine_88 h (fun M7 h => ?_)
          refine X_aload_n (x := 149) dX9_addMachine_89 rfl ?_
          refine X_get (v := .ref 150) kF_RX9_7 sh_149 rfl rfl dX9_addMachine_90 ?_
          refine X_iload (x := v6) dX9_addMachine_93 rfl ?_
          refine X_iconst 1 dX9_addMachine_95 rfl ?_
          refine X_iadd dX9_addMachine_96 ?_
          refine X_iload_n (x := i2) dX9_addMachine_97 rfl ?_
          refine X_iast sh_150 dX9_addMachine_98 h (fun M8 h => ?_)
          refine X_aload_n (x := 149) dX9_addMachine_99 rfl ?_
          refine X_get (v := .ref 150) kF_RX9_7 sh_149 rfl rfl dX9_addMachine_100 ?_
          refine X_iload (x := v6) dX9_addMachine_103 rfl ?_
          refine X_iconst 2 dX9_addMachine_105 rfl ?_
          refine X_iadd dX9_addMachine_106 ?_
          refine X_iload_n (x := i3) dX9_addMachine_107 rfl ?_
          refine X_iast sh_150 dX9_addMachine_108 h (fun M9 h => ?_)
          refine X_aload_n (x := 149) dX9_addMachine_109 rfl ?_
          refine X_get (v := .ref 150) kF_RX9_7 sh_149 rfl rfl dX9_addMachine_110 ?_
          refine X_iload (x := v6) dX9_addMachine_113 rfl ?_
          refine X_iconst 3 dX9_addMachine_115 rfl ?_
          refine X_iadd dX9_addMachine_116 ?_
          refine X_iload (x := i4) dX9_addMachine_117 rfl ?_
          refine X_iast sh_150 dX9_addMachine_119 h (fun M10 h => ?_)
          refine X_aload_n (x := 149) dX9_addMachine_120 rfl ?_
          refine X_get (v := .ref 150) kF_RX9_7 sh_149 rfl rfl dX9_addMachine_121 ?_
          refine X_iload (x := v6) dX9_addMachine_124 rfl ?_
          refine X_iconst 4 dX9_addMachine_126 rfl ?_
          refine X_iadd dX9_addMachine_127 ?_
          refine X_sipush 28800 dX9_addMachine_128 rfl ?_
          refine X_iast sh_150 dX9_addMachine_131 h (fun M11 h => ?_)
          refine X_aload_n (x := 149) dX9_addMachine_132 rfl ?_
          refine X_get (v := .ref 150) kF_RX9_7 sh_149 rfl rfl dX9_addMachine_133 ?_
          refine X_iconst 2 dX9_addMachine_136 rfl ?_
          refine X_dup2 dX9_addMachine_137 rfl rfl ?_
          refine X_iald sh_150 dX9_addMachine_138 h (fun h => ?_)
          refine X_iconst 1 dX9_addMachine_139 rfl ?_
          refine X_iadd dX9_addMachine_140 ?_
          refine X_iast sh_150 dX9_addMachine_141 h (fun M12 h => ?_)
          refine X_aload_n (x := 149) dX9_addMachine_142 rfl ?_
          refine X_get (v := .ref 150) kF_RX9_7 sh_149 rfl rfl dX9_addMachine_143 ?_
          refine X_iconst 2 dX9_addMachine_146 rfl ?_
          refine X_iald sh_150 dX9_addMachine_147 h (fun h => ?_)
          refine X_iconst 1 dX9_addMachine_148 rfl ?_
          refine X_isub dX9_addMachine_149 ?_
          exact X_retI dX9_addMachine_150 rfl (Nat.le_refl _) (Nat.le_refl _) h
        · refine X_bipush (-4) dX9_addMachine_61 rfl ?_
          exact X_retI dX9_addMachine_63 rfl (Nat.le_refl _) (Nat.le_refl _) h
      · refine X_bipush (-2) dX9_addMachine_48 rfl ?_
        exact X_retI dX9_addMachine_50 rfl (Nat.le_refl _) (Nat.le_refl _) h
def f_X9_addMachine (M : xM) (a1 a2 a3 a4 : Int32) : Option (Int32 × xM) :=
  xb (f_X9_in a1 0 2) fun v13 =>
  if v13 = 0 then (
    some ((-2), M))
  else (
    if a1 = 2 then (
      f_X9_addMachine_22 M a1 a2 a3 a4 a2 1 1)
    else (
      f_X9_addMachine_22 M a1 a2 a3 a4 a2 1 7))
set_option maxHeartbeats 1000000 in
theorem x_X9_addMachine {ξ : xX} {M : xM} {a1 a2 a3 a4 : Int32} {z : (Int32 × xM)} (h : f_X9_addMachine M a1 a2 a3 a4 = some z) : X ξ mX9_addMachine 0 [.ref 149, .int a1, .int a2, .int a3, .int a4] [] SH M 0 0 (xr (some (.int z.1)) SH z.2) := by
  rw [f_X9_addMachine] at h
  refine X_iload_n (x := a1) dX9_addMachine_0 rfl ?_
  refine X_iconst 0 dX9_addMachine_1 rfl ?_
  refine X_iconst 2 dX9_addMachine_2 rfl ?_
  refine X_sP (μ' := mX9_in) [.int a1, .int 0, .int 2] [] kL_RX9_42 kM_X9_in rfl rfl rfl dX9_addMachine_3 h (fun _ hv => x_X9_in hv) (fun v13 h => ?_)
  refine X_if_eq 48 dX9_addMachine_6 (by decide) h (fun h => ?_) (fun h => ?_)
  · refine X_bipush (-2) dX9_addMachine_48 rfl ?_
    exact X_retI dX9_addMachine_50 rfl (Nat.le_refl _) (Nat.le_refl _) h
  · refine X_iload_n (x := a2) dX9_addMachine_9 rfl ?_
    refine X_iconst 1 dX9_addMachine_10 rfl ?_
    refine X_iload_n (x := a1) dX9_addMachine_11 rfl ?_
    refine X_iconst 2 dX9_addMachine_12 rfl ?_
    refine X_icmp_ne 20 dX9_addMachine_13 (by decide) h (fun h => ?_) (fun h => ?_)
    · refine X_bipush 7 dX9_addMachine_20 rfl ?_
      exact x_X9_addMachine_22 h
    · refine X_iconst 1 dX9_addMachine_16 rfl ?_
      refine X_goto 22 dX9_addMachine_17 (by decide) ?_
      exact x_X9_addMachine_22 h
def f_X9_sideOfAll_66 (k19 : Int32 → Int32 → Int32 → Int32 → Int32 → Option Int32) (i0 : Int32) (i1 : Int32) (i2 : Int32) (i3 : Int32) (i4 : Int32) : Option Int32 :=
  xl (i4 + 1) fun v7 =>
  k19 i0 i1 i2 i3 v7
set_option maxHeartbeats 1000000 in
theorem x_X9_sideOfAll_66 {ξ : xX} {M : xM} {k19 : Int32 → Int32 → Int32 → Int32 → Int32 → Option Int32} {i0 : Int32} {i1 : Int32} {i2 : Int32} {i3 : Int32} {i4 : Int32} (hk19 : ∀ (j0 j1 j2 j3 j4 : Int32) (z : Int32), k19 j0 j1 j2 j3 j4 = some z → X ξ mX9_sideOfAll 19 [.int j0, .int j1, .int j2, .int j3, .int j4] [] SH M 0 0 (xr (some (.int z)) SH M)) {z : Int32} (h : f_X9_sideOfAll_66 k19 i0 i1 i2 i3 i4 = some z) : X ξ mX9_sideOfAll 66 [.int i0, .int i1, .int i2, .int i3, .int i4] [] SH M 0 0 (xr (some (.int z)) SH M) := by
  rw [f_X9_sideOfAll_66] at h
  refine X_iincL (x := i4) 1 (fun v7 => [.int i0, .int i1, .int i2, .int i3, .int v7]) dX9_sideOfAll_66 rfl rfl (Nat.le_of_ble_eq_true rfl) (xcat1_of rfl) h (fun _ => rfl) (fun v7 h => ?_)
  refine X_goto 19 dX9_sideOfAll_69 (by decide) ?_
  exact hk19 _ _ _ _ _ _ h
def f_X9_sideOfAll_58 (k19 : Int32 → Int32 → Int32 → Int32 → Int32 → Option Int32) (i0 : Int32) (i1 : Int32) (i2 : Int32) (i3 : Int32) (i4 : Int32) (s0 : Int32) : Option Int32 :=
  xl s0 fun v8 =>
  xb (f_X9_sideOf i0 i4) fun v9 =>
  xl v9 fun v10 =>
  f_X9_sideOfAll_66 k19 i0 i1 v10 v8 i4
set_option maxHeartbeats 1000000 in
theorem x_X9_sideOfAll_58 {ξ : xX} {M : xM} {k19 : Int32 → Int32 → Int32 → Int32 → Int32 → Option Int32} {i0 : Int32} {i1 : Int32} {i2 : Int32} {i3 : Int32} {i4 : Int32} {s0 : Int32} (hk19 : ∀ (j0 j1 j2 j3 j4 : Int32) (z : Int32), k19 j0 j1 j2 j3 j4 = some z → X ξ mX9_sideOfAll 19 [.int j0, .int j1, .int j2, .int j3, .int j4] [] SH M 0 0 (xr (some (.int z)) SH M)) {z : Int32} (h : f_X9_sideOfAll_58 k19 i0 i1 i2 i3 i4 s0 = some z) : X ξ mX9_sideOfAll 58 [.int i0, .int i1, .int i2, .int i3, .int i4] [.int s0] SH M 0 0 (xr (some (.int z)) SH M) := by
  rw [f_X9_sideOfAll_58] at h
  refine X_istoreL_n (fun v8 => [.int i0, .int i1, .int i2, .int v8, .int i4]) dX9_sideOfAll_58 (Nat.le_of_ble_eq_true rfl) (Nat.le_of_ble_eq_true rfl) (xcat1_of rfl) h (fun _ => rfl) (fun v8 h => ?_)
  refine X_iload_n (x := i0) dX9_sideOfAll_59 rfl ?_
  refine X_iload (x := i4) dX9_sideOfAll_60 rfl ?_
  refine X_sP (μ' := mX9_sideOf) [.int i0, .int i4] [] kL_RX9_61 kM_X9_sideOf rfl rfl rfl dX9_sideOfAll_62 h (fun _ hv => x_X9_sideOf hv) (fun v9 h => ?_)
  refine X_istoreL_n (fun v10 => [.int i0, .int i1, .int v10, .int v8, .int i4]) dX9_sideOfAll_65 (Nat.le_of_ble_eq_true rfl) (Nat.le_of_ble_eq_true rfl) (xcat1_of rfl) h (fun _ => rfl) (fun v10 h => ?_)
  exact x_X9_sideOfAll_66 hk19 h
def f_X9_sideOfAll_53 (k19 : Int32 → Int32 → Int32 → Int32 → Int32 → Option Int32) (i0 : Int32) (i1 : Int32) (i2 : Int32) (i3 : Int32) (i4 : Int32) : Option Int32 :=
  f_X9_sideOfAll_58 k19 i0 i1 i2 i3 i4 1
set_option maxHeartbeats 1000000 in
theorem x_X9_sideOfAll_53 {ξ : xX} {M : xM} {k19 : Int32 → Int32 → Int32 → Int32 → Int32 → Option Int32} {i0 : Int32} {i1 : Int32} {i2 : Int32} {i3 : Int32} {i4 : Int32} (hk19 : ∀ (j0 j1 j2 j3 j4 : Int32) (z : Int32), k19 j0 j1 j2 j3 j4 = some z → X ξ mX9_sideOfAll 19 [.int j0, .int j1, .int j2, .int j3, .int j4] [] SH M 0 0 (xr (some (.int z)) SH M)) {z : Int32} (h : f_X9_sideOfAll_53 k19 i0 i1 i2 i3 i4 = some z) : X ξ mX9_sideOfAll 53 [.int i0, .int i1, .int i2, .int i3, .int i4] [] SH M 0 0 (xr (some (.int z)) SH M) := by
  rw [f_X9_sideOfAll_53] at h
  refine X_iconst 1 dX9_sideOfAll_53 rfl ?_
  refine X_goto 58 dX9_sideOfAll_54 (by decide) ?_
  exact x_X9_sideOfAll_58 hk19 h
def f_X9_sideOfAll_72 (i0 : Int32) (i1 : Int32) (i2 : Int32) (i3 : Int32) (i4 : Int32) : Option Int32 :=
  if i3 = 0 then (
    some (-1))
  else (
    some i2)
set_option maxHeartbeats 1000000 in
theorem x_X9_sideOfAll_72 {ξ : xX} {M : xM} {i0 : Int32} {i1 : Int32} {i2 : Int32} {i3 : Int32} {i4 : Int32} {z : Int32} (h : f_X9_sideOfAll_72 i0 i1 i2 i3 i4 = some z) : X ξ mX9_sideOfAll 72 [.int i0, .int i1, .int i2, .int i3, .int i4] [] SH M 0 0 (xr (some (.int z)) SH M) := by
  rw [f_X9_sideOfAll_72] at h
  refine X_iload_n (x := i3) dX9_sideOfAll_72 rfl ?_
  refine X_if_eq 80 dX9_sideOfAll_73 (by decide) h (fun h => ?_) (fun h => ?_)
  · refine X_iconst (-1) dX9_sideOfAll_80 rfl ?_
    exact X_retP dX9_sideOfAll_81 rfl (Nat.le_refl _) (Nat.le_refl _) h
  · refine X_iload_n (x := i2) dX9_sideOfAll_76 rfl ?_
    refine X_goto 81 dX9_sideOfAll_77 (by decide) ?_
    exact X_retP dX9_sideOfAll_81 rfl (Nat.le_refl _) (Nat.le_refl _) h
def f_X9_sideOfAll_19 : Nat → Int32 → Int32 → Int32 → Int32 → Int32 → Option Int32
  | 0, _, _, _, _, _ => none
  | fu + 1, i0, i1, i2, i3, i4 =>
    if 4 ≤ i4 then (
      f_X9_sideOfAll_72 i0 i1 i2 i3 i4)
    else (
      if i3 = 0 then (
        f_X9_sideOfAll_72 i0 i1 i2 i3 i4)
      else (
        if (((i1 : Int32) >>> ((i4 : Int32) &&& 31)) &&& 1) = 1 then (
          if i2 < 0 then (
            f_X9_sideOfAll_53 (f_X9_sideOfAll_19 fu) i0 i1 i2 i3 i4)
          else (
            xb (f_X9_sideOf i0 i4) fun v11 =>
            if i2 = v11 then (
              f_X9_sideOfAll_53 (f_X9_sideOfAll_19 fu) i0 i1 i2 i3 i4)
            else (
              f_X9_sideOfAll_58 (f_X9_sideOfAll_19 fu) i0 i1 i2 i3 i4 0)))
        else (
          f_X9_sideOfAll_66 (f_X9_sideOfAll_19 fu) i0 i1 i2 i3 i4)))
set_option maxHeartbeats 1000000 in
theorem x_X9_sideOfAll_19 {ξ : xX} {M : xM} : ∀ (fu : Nat) (i0 i1 i2 i3 i4 : Int32) (z : Int32), f_X9_sideOfAll_19 fu i0 i1 i2 i3 i4 = some z → X ξ mX9_sideOfAll 19 [.int i0, .int i1, .int i2, .int i3, .int i4] [] SH M 0 0 (xr (some (.int z)) SH M) := by
  intro fu
  induction fu with
  | zero => intro i0 i1 i2 i3 i4 z h; rw [f_X9_sideOfAll_19] at h; cases h
  | succ fu ih =>
    intro i0 i1 i2 i3 i4 z h
    rw [f_X9_sideOfAll_19] at h
    refine X_iload (x := i4) dX9_sideOfAll_19 rfl ?_
    refine X_iconst 4 dX9_sideOfAll_21 rfl ?_
    refine X_icmp_ge 72 dX9_sideOfAll_22 (by decide) h (fun h => ?_) (fun h => ?_)
    · exact x_X9_sideOfAll_72 h
    · refine X_iload_n (x := i3) dX9_sideOfAll_25 rfl ?_
      refine X_if_eq 72 dX9_sideOfAll_26 (by decide) h (fun h => ?_) (fun h => ?_)
      · exact x_X9_sideOfAll_72 h
      · refine X_iload_n (x := i1) dX9_sideOfAll_29 rfl ?_
        refine X_iload (x := i4) dX9_sideOfAll_30 rfl ?_
        refine X_ishr dX9_sideOfAll_32 ?_
        refine X_iconst 1 dX9_sideOfAll_33 rfl ?_
        refine X_iand dX9_sideOfAll_34 ?_
        refine X_iconst 1 dX9_sideOfAll_35 rfl ?_
        refine X_icmp_ne 66 dX9_sideOfAll_36 (by decide) h (fun h => ?_) (fun h => ?_)
        · exact x_X9_sideOfAll_66 ih h
        · refine X_iload_n (x := i2) dX9_sideOfAll_39 rfl ?_
          refine X_if_lt 53 dX9_sideOfAll_40 (by decide) h (fun h => ?_) (fun h => ?_)
          · exact x_X9_sideOfAll_53 ih h
          · refine X_iload_n (x := i2) dX9_sideOfAll_43 rfl ?_
            refine X_iload_n (x := i0) dX9_sideOfAll_44 rfl ?_
            refine X_iload (x := i4) dX9_sideOfAll_45 rfl ?_
            refine X_sP (μ' := mX9_sideOf) [.int i0, .int i4] [.int i2] kL_RX9_61 kM_X9_sideOf rfl rfl rfl dX9_sideOfAll_47 h (fun _ hv => x_X9_sideOf hv) (fun v11 h => ?_)
            refine X_icmp_ne 57 dX9_sideOfAll_50 (by decide) h (fun h => ?_) (fun h => ?_)
            · refine X_iconst 0 dX9_sideOfAll_57 rfl ?_
              exact x_X9_sideOfAll_58 ih h
            · exact x_X9_sideOfAll_53 ih h
def f_X9_sideOfAll (a1 a2 : Int32) : Option Int32 :=
  xl (-1 : Int32) fun v12 =>
  xb (f_X9_tracksOf a1) fun v13 =>
  xb (f_X9_in a2 1 (((1 : Int32) <<< ((v13 : Int32) &&& 31)) - 1)) fun v14 =>
  xl v14 fun v15 =>
  xl (0 : Int32) fun v16 =>
  f_X9_sideOfAll_19 xFU a1 a2 v12 v15 v16
set_option maxHeartbeats 1000000 in
theorem x_X9_sideOfAll {ξ : xX} {M : xM} {a1 a2 : Int32} {z : Int32} (h : f_X9_sideOfAll a1 a2 = some z) : X ξ mX9_sideOfAll 0 [.int a1, .int a2] [] SH M 0 0 (xr (some (.int z)) SH M) := by
  rw [f_X9_sideOfAll] at h
  refine X_iconst (-1) dX9_sideOfAll_0 rfl ?_
  refine X_istoreL_n (fun v12 => [.int a1, .int a2, .int v12]) dX9_sideOfAll_1 (Nat.le_of_ble_eq_true rfl) (Nat.le_of_ble_eq_true rfl) (xcat1_of rfl) h (fun _ => rfl) (fun v12 h => ?_)
  refine X_iload_n (x := a2) dX9_sideOfAll_2 rfl ?_
  refine X_iconst 1 dX9_sideOfAll_3 rfl ?_
  refine X_iconst 1 dX9_sideOfAll_4 rfl ?_
  refine X_iload_n (x := a1) dX9_sideOfAll_5 rfl ?_
  refine X_sP (μ' := mX9_tracksOf) [.int a1] [.int 1, .int 1, .int a2] kL_RX9_57 kM_X9_tracksOf rfl rfl rfl dX9_sideOfAll_6 h (fun _ hv => x_X9_tracksOf hv) (fun v13 h => ?_)
  refine X_ishl dX9_sideOfAll_9 ?_
  refine X_iconst 1 dX9_sideOfAll_10 rfl ?_
  refine X_isub dX9_sideOfAll_11 ?_
  refine X_sP (μ' := mX9_in) [.int a2, .int 1, .int (((1 : Int32) <<< ((v13 : Int32) &&& 31)) - 1)] [] kL_RX9_42 kM_X9_in rfl rfl rfl dX9_sideOfAll_12 h (fun _ hv => x_X9_in hv) (fun v14 h => ?_)
  refine X_istoreL_n (fun v15 => [.int a1, .int a2, .int v12, .int v15]) dX9_sideOfAll_15 (Nat.le_of_ble_eq_true rfl) (Nat.le_of_ble_eq_true rfl) (xcat1_of rfl) h (fun _ => rfl) (fun v15 h => ?_)
  refine X_iconst 0 dX9_sideOfAll_16 rfl ?_
  refine X_istoreL (fun v16 => [.int a1, .int a2, .int v12, .int v15, .int v16]) dX9_sideOfAll_17 (Nat.le_of_ble_eq_true rfl) (Nat.le_of_ble_eq_true rfl) (xcat1_of rfl) h (fun _ => rfl) (fun v16 h => ?_)
  exact x_X9_sideOfAll_19 _ _ _ _ _ _ _ h
def f_X9_addRecording_154 (k79 : xM → Int32 → Int32 → Int32 → Int32 → Int32 → Int32 → Option (Int32 × xM)) (M : xM) (i1 : Int32) (i2 : Int32) (i3 : Int32) (i4 : Int32) (i5 : Int32) (i6 : Int32) (i7 : Int32) : Option (Int32 × xM) :=
  xl (i6 + 1) fun v6 =>
  k79 M i1 i2 i3 i4 i5 v6
set_option maxHeartbeats 1000000 in
theorem x_X9_addRecording_154 {ξ : xX} {M : xM} {k79 : xM → Int32 → Int32 → Int32 → Int32 → Int32 → Int32 → Option (Int32 × xM)} {i1 : Int32} {i2 : Int32} {i3 : Int32} {i4 : Int32} {i5 : Int32} {i6 : Int32} {i7 : Int32} (hk79 : ∀ (M : xM) (j1 j2 j3 j4 j5 j6 : Int32) (z : (Int32 × xM)), k79 M j1 j2 j3 j4 j5 j6 = some z → X ξ mX9_addRecording 79 [.ref 149, .int j1, .int j2, .int j3, .int j4, .int j5, .int j6] [] SH M 0 0 (xr (some (.int z.1)) SH z.2)) {z : (Int32 × xM)} (h : f_X9_addRecording_154 k79 M i1 i2 i3 i4 i5 i6 i7 = some z) : X ξ mX9_addRecording 154 [.ref 149, .int i1, .int i2, .int i3, .int i4, .int i5, .int i6, .int i7] [] SH M 0 0 (xr (some (.int z.1)) SH z.2) := by
  rw [f_X9_addRecording_154] at h
  refine X_iincL (x := i6) 1 (fun v6 => [.ref 149, .int i1, .int i2, .int i3, .int i4, .int i5, .int v6, .int i7]) dX9_addRecording_154 rfl rfl (Nat.le_of_ble_eq_true rfl) (xcat1_of rfl) h (fun _ => rfl) (fun v6 h => ?_)
  refine X_goto 79 dX9_addRecording_157 (by decide) ?_
  refine X_cut 7 ?_
  exact hk79 _ _ _ _ _ _ _ _ h
def f_X9_addRecording_79 : Nat → xM → Int32 → Int32 → Int32 → Int32 → Int32 → Int32 → Option (Int32 × xM)
  | 0, _, _, _, _, _, _, _ => none
  | fu + 1, M, i1, i2, i3, i4, i5, i6 =>
    xgd (xin 3 916) <|
    if (M 150 (3 : Int32).toNatClampNeg) ≤ i6 then (
      xb (f_X9_record M) fun M7 =>
      xgd (xin 3 916) <|
      xl (84 + (5 * (M7 150 (3 : Int32).toNatClampNeg))) fun v8 =>
      xgd (xin v8 916) <| xl (xw M7 150 v8.toNatClampNeg i1) fun M9 =>
      xgd (xin (v8 + 1) 916) <| xl (xw M9 150 (v8 + 1).toNatClampNeg i2) fun M10 =>
      xgd (xin (v8 + 2) 916) <| xl (xw M10 150 (v8 + 2).toNatClampNeg i3) fun M11 =>
      xgd (xin (v8 + 3) 916) <| xl (xw M11 150 (v8 + 3).toNatClampNeg i4) fun M12 =>
      xgd (xin (v8 + 4) 916) <| xl (xw M12 150 (v8 + 4).toNatClampNeg 0) fun M13 =>
      xgd (xin 3 916) <|
      xgd (xin 3 916) <| xl (xw M13 150 (3 : Int32).toNatClampNeg ((M13 150 (3 : Int32).toNatClampNeg) + 1)) fun M14 =>
      xgd (xin 3 916) <|
      some (((M14 150 (3 : Int32).toNatClampNeg) - 1), M14))
    else (
      xl (84 + (5 * i6)) fun v15 =>
      xgd (xin v15 916) <|
      if (M 150 v15.toNatClampNeg) = i1 then (
        xgd (xin (v15 + 1) 916) <|
        if ((M 150 (v15 + 1).toNatClampNeg) &&& i2) = 0 then (
          f_X9_addRecording_154 (f_X9_addRecording_79 fu) M i1 i2 i3 i4 i5 i6 v15)
        else (
          xgd (xin (v15 + 2) 916) <|
          if i4 ≤ (M 150 (v15 + 2).toNatClampNeg) then (
            f_X9_addRecording_154 (f_X9_addRecording_79 fu) M i1 i2 i3 i4 i5 i6 v15)
          else (
            xgd (xin (v15 + 3) 916) <|
            if (M 150 (v15 + 3).toNatClampNeg) ≤ i3 then (
              f_X9_addRecording_154 (f_X9_addRecording_79 fu) M i1 i2 i3 i4 i5 i6 v15)
            else (
              some ((-3), M)))))
      else (
        f_X9_addRecording_154 (f_X9_addRecording_79 fu) M i1 i2 i3 i4 i5 i6 v15))
set_option maxHeartbeats 1000000 in
theorem x_X9_addRecording_79 {ξ : xX} : ∀ (fu : Nat) (M : xM) (i1 i2 i3 i4 i5 i6 : Int32) (z : (Int32 × xM)), f_X9_addRecording_79 fu M i1 i2 i3 i4 i5 i6 = some z → X ξ mX9_addRecording 79 [.ref 149, .int i1, .int i2, .int i3, .int i4, .int i5, .int i6] [] SH M 0 0 (xr (some (.int z.1)) SH z.2) := by
  intro fu
  induction fu with
  | zero => intro M i1 i2 i3 i4 i5 i6 z h; rw [f_X9_addRecording_79] at h; cases h
  | succ fu ih =>
    intro M i1 i2 i3 i4 i5 i6 z h
    rw [f_X9_addRecording_79] at h
    refine X_iload (x := i6) dX9_addRecording_79 rfl ?_
    refine X_aload_n (x := 149) dX9_addRecording_81 rfl ?_
    refine X_get (v := .ref 150) kF_RX9_7 sh_149 rfl rfl dX9_addRecording_82 ?_
    refine X_iconst 3 dX9_addRecording_85 rfl ?_
    refine X_iald sh_150 dX9_addRecording_86 h (fun h => ?_)
    refine X_icmp_ge 160 dX9_addRecording_87 (by decide) h (fun h => ?_) (fun h => ?_)
    · refine X_aload_n (x := 149) dX9_addRecording_160 rfl ?_
      refine X_vV (μ' := mX9_record) [] [] kL_RX9_54 kM_X9_record rv_149 rfl rfl rfl dX9_addRecording_161 h (fun _ hv => x_X9_record hv) (fun M7 h => ?_)
      refine X_bipush 84 dX9_addRecording_164 rfl ?_
      refine X_iconst 5 dX9_addRecording_166 rfl ?_
      refine X_aload_n (x := 149) dX9_addRecording_167 rfl ?_
      refine X_get (v := .ref 150) kF_RX9_7 sh_149 rfl rfl dX9_addRecording_168 ?_
      refine X_iconst 3 dX9_addRecording_171 rfl ?_
      refine X_iald sh_150 dX9_addRecording_172 h (fun h => ?_)
      refine X_imul dX9_addRecording_173 ?_
      refine X_iadd dX9_addRecording_174 ?_
      refine X_istoreL (fun v8 => [.ref 149, .int i1, .int i2, .int i3, .int i4, .int i5, .int v8]) dX9_addRecording_175 (Nat.le_of_ble_eq_true rfl) (Nat.le_of_ble_eq_true rfl) (xcat1_of rfl) h (fun _ => rfl) (fun v8 h => ?_)
      refine X_aload_n (x := 149) dX9_addRecording_177 rfl ?_
      refine X_get (v := .ref 150) kF_RX9_7 sh_149 rfl rfl dX9_addRecording_178 ?_
      refine X_iload (x := v8) dX9_addRecording_181 rfl ?_
      refine X_iload_n (x := i1) dX9_addRecording_183 rfl ?_
      refine X_iast sh_150 dX9_addRecording_184 h (fun M9 h => ?_)
      refine X_aload_n (x := 149) dX9_addRecording_185 rfl ?_
      refine X_get (v := .ref 150) kF_RX9_7 sh_149 rfl rfl dX9_addRecording_186 ?_
      refine X_iload (x := v8) dX9_addRecording_189 rfl ?_
      refine X_iconst 1 dX9_addRecording_191 rfl ?_
      refine X_iadd dX9_addRecording_192 ?_
      refine X_iload_n (x := i2) dX9_addRecording_193 rfl ?_
      refine X_iast sh_150 dX9_addRecording_194 h (fun M10 h => ?_)
      refine X_aload_n (x := 149) dX9_addRecording_195 rfl ?_
      refine X_get (v := .ref 150) kF_RX9_7 sh_149 rfl rfl dX9_addRecording_196 ?_
      refine X_iload (x := v8) dX9_addRecording_199 rfl ?_
      refine X_iconst 2 dX9_addRecording_201 rfl ?_
      refine X_iadd dX9_addRecording_202 ?_
      refine X_iload_n (x := i3) dX9_addRecording_203 rfl ?_
      refine X_iast sh_150 dX9_addRecording_204 h (fun M11 h => ?_)
      refine X_aload_n (x := 149) dX9_addRecording_205 rfl ?_
      refine X_get (v := .ref 150) kF_RX9_7 sh_149 rfl rfl dX9_addRecording_206 ?_
      refine X_iload (x := v8) dX9_addRecording_209 rfl ?_
      refine X_iconst 3 dX9_addRecording_211 rfl ?_
      refine X_iadd dX9_addRecording_212 ?_
      refine X_iload (x := i4) dX9_addRecording_213 rfl ?_
      refine X_iast sh_150 dX9_addRecording_215 h (fun M12 h => ?_)
      refine X_aload_n (x := 149) dX9_addRecording_216 rfl ?_
      refine X_get (v := .ref 150) kF_RX9_7 sh_149 rfl rfl dX9_addRecording_217 ?_
      refine X_iload (x := v8) dX9_addRecording_220 rfl ?_
      refine X_iconst 4 dX9_addRecording_222 rfl ?_
      refine X_iadd dX9_addRecording_223 ?_
      refine X_iconst 0 dX9_addRecording_224 rfl ?_
      refine X_iast sh_150 dX9_addRecording_225 h (fun M13 h => ?_)
      refine X_aload_n (x := 149) dX9_addRecording_226 rfl ?_
      refine X_get (v := .ref 150) kF_RX9_7 sh_149 rfl rfl dX9_addRecording_227 ?_
      refine X_iconst 3 dX9_addRecording_230 rfl ?_
      refine X_dup2 dX9_addRecording_231 rfl rfl ?_
      refine X_iald sh_150 dX9_addRecording_232 h (fun h => ?_)
      refine X_iconst 1 dX9_addRecording_233 rfl ?_
      refine X_iadd dX9_addRecording_234 ?_
      refine X_iast sh_150 dX9_addRecording_235 h (fun M14 h => ?_)
      refine X_aload_n (x := 149) dX9_addRecording_236 rfl ?_
      refine X_get (v := .ref 150) kF_RX9_7 sh_149 rfl rfl dX9_addRecording_237 ?_
      refine X_iconst 3 dX9_addRecording_240 rfl ?_
      refine X_iald sh_150 dX9_addRecording_241 h (fun h => ?_)
      refine X_iconst 1 dX9_addRecording_242 rfl ?_
      refine X_isub dX9_addRecording_243 ?_
      exact X_retI dX9_addRecording_244 rfl (Nat.le_refl _) (Nat.le_refl _) h
    · refine X_bipush 84 dX9_addRecording_90 rfl ?_
      refine X_iconst 5 dX9_addRecording_92 rfl ?_
      refine X_iload (x := i6) dX9_addRecording_93 rfl ?_
      refine X_imul dX9_addRecording_95 ?_
      refine X_iadd dX9_addRecording_96 ?_
      refine X_istoreL (fun v15 => [.ref 149, .int i1, .int i2, .int i3, .int i4, .int i5, .int i6, .int v15]) dX9_addRecording_97 (Nat.le_of_ble_eq_true rfl) (Nat.le_of_ble_eq_true rfl) (xcat1_of rfl) h (fun _ => rfl) (fun v15 h => ?_)
      refine X_aload_n (x := 149) dX9_addRecording_99 rfl ?_
      refine X_get (v := .ref 150) kF_RX9_7 sh_149 rfl rfl dX9_addRecording_100 ?_
      refine X_iload (x := v15) dX9_addRecording_103 rfl ?_
      refine X_iald sh_150 dX9_addRecording_105 h (fun h => ?_)
      refine X_iload_n (x := i1) dX9_addRecording_106 rfl ?_
      refine X_icmp_ne 154 dX9_addRecording_107 (by decide) h (fun h => ?_) (fun h => ?_)
      · exact x_X9_addRecording_154 ih h
      · refine X_aload_n (x := 149) dX9_addRecording_110 rfl ?_
        refine X_get (v := .ref 150) kF_RX9_7 sh_149 rfl rfl dX9_addRecording_111 ?_
        refine X_iload (x := v15) dX9_addRecording_114 rfl ?_
        refine X_iconst 1 dX9_addRecording_116 rfl ?_
        refine X_iadd dX9_addRecording_117 ?_
        refine X_iald sh_150 dX9_addRecording_118 h (fun h => ?_)
        refine X_iload_n (x := i2) dX9_addRecording_119 rfl ?_
        refine X_iand dX9_addRecording_120 ?_
        refine X_if_eq 154 dX9_addRecording_121 (by decide) h (fun h => ?_) (fun h => ?_)
        · exact x_X9_addRecording_154 ih h
        · refine X_aload_n (x := 149) dX9_addRecording_124 rfl ?_
          refine X_get (v := .ref 150) kF_RX9_7 sh_149 rfl rfl dX9_addRecording_125 ?_
          refine X_iload (x := v15) dX9_addRecording_128 rfl ?_
          refine X_iconst 2 dX9_addRecording_130 rfl ?_
          refine X_iadd dX9_addRecording_131 ?_
          refine X_iald sh_150 dX9_addRecording_132 h (fun h => ?_)
          refine X_iload (x := i4) dX9_addRecording_133 rfl ?_
          refine X_icmp_ge 154 dX9_addRecording_135 (by decide) h (fun h => ?_) (fun h => ?_)
          · exact x_X9_addRecording_154 ih h
          · refine X_iload_n (x := i3) dX9_addRecording_138 rfl ?_
            refine X_aload_n (x := 149) dX9_addRecording_139 rfl ?_
            refine X_get (v := .ref 150) kF_RX9_7 sh_149 rfl rfl dX9_addRecording_140 ?_
            refine X_iload (x := v15) dX9_addRecording_143 rfl ?_
            refine X_iconst 3 dX9_addRecording_145 rfl ?_
            refine X_iadd dX9_addRecording_146 ?_
            refine X_iald sh_150 dX9_addRecording_147 h (fun h => ?_)
            refine X_icmp_ge 154 dX9_addRecording_148 (by decide) h (fun h => ?_) (fun h => ?_)
            · exact x_X9_addRecording_154 ih h
            · refine X_bipush (-3) dX9_addRecording_151 rfl ?_
              exact X_retI dX9_addRecording_153 rfl (Nat.le_refl _) (Nat.le_refl _) h
def f_X9_addRecording (M : xM) (a1 a2 a3 a4 : Int32) : Option (Int32 × xM) :=
  xb (f_X9_isOne M 1 a1) fun v16 =>
  if v16 = 0 then (
    some ((-1), M))
  else (
    xl (24 + (5 * a1)) fun v17 =>
    xgd (xin (v17 + 2) 916) <|
    xb (f_X9_sideOfAll (M 150 (v17 + 2).toNatClampNeg) a2) fun v18 =>
    if v18 < 0 then (
      some ((-2), M))
    else (
      if a3 < 0 then (
        some ((-2), M))
      else (
        if a4 ≤ a3 then (
          some ((-2), M))
        else (
          xgd (xin (v17 + 3) 916) <|
          if a4 ≤ (M 150 (v17 + 3).toNatClampNeg) then (
            xgd (xin 3 916) <|
            if (M 150 (3 : Int32).toNatClampNeg) = 16 then (
              some ((-4), M))
            else (
              xl (0 : Int32) fun v19 =>
              f_X9_addRecording_79 xFU M a1 a2 a3 a4 v17 v19))
          else (
            some ((-2), M))))))
set_option maxHeartbeats 1000000 in
theorem x_X9_addRecording {ξ : xX} {M : xM} {a1 a2 a3 a4 : Int32} {z : (Int32 × xM)} (h : f_X9_addRecording M a1 a2 a3 a4 = some z) : X ξ mX9_addRecording 0 [.ref 149, .int a1, .int a2, .int a3, .int a4] [] SH M 0 0 (xr (some (.int z.1)) SH z.2) := by
  rw [f_X9_addRecording] at h
  refine X_aload_n (x := 149) dX9_addRecording_0 rfl ?_
  refine X_iconst 1 dX9_addRecording_1 rfl ?_
  refine X_iload_n (x := a1) dX9_addRecording_2 rfl ?_
  refine X_vP (μ' := mX9_isOne) [.int 1, .int a1] [] kL_RX9_64 kM_X9_isOne rv_149 rfl rfl rfl dX9_addRecording_3 h (fun _ hv => x_X9_isOne hv) (fun v16 h => ?_)
  refine X_if_ne 11 dX9_addRecording_6 (by decide) h (fun h => ?_) (fun h => ?_)
  · refine X_bipush 24 dX9_addRecording_11 rfl ?_
    refine X_iconst 5 dX9_addRecording_13 rfl ?_
    refine X_iload_n (x := a1) dX9_addRecording_14 rfl ?_
    refine X_imul dX9_addRecording_15 ?_
    refine X_iadd dX9_addRecording_16 ?_
    refine X_istoreL (fun v17 => [.ref 149, .int a1, .int a2, .int a3, .int a4, .int v17]) dX9_addRecording_17 (Nat.le_of_ble_eq_true rfl) (Nat.le_of_ble_eq_true rfl) (xcat1_of rfl) h (fun _ => rfl) (fun v17 h => ?_)
    refine X_aload_n (x := 149) dX9_addRecording_19 rfl ?_
    refine X_get (v := .ref 150) kF_RX9_7 sh_149 rfl rfl dX9_addRecording_20 ?_
    refine X_iload (x := v17) dX9_addRecording_23 rfl ?_
    refine X_iconst 2 dX9_addRecording_25 rfl ?_
    refine X_iadd dX9_addRecording_26 ?_
    refine X_iald sh_150 dX9_addRecording_27 h (fun h => ?_)
    refine X_iload_n (x := a2) dX9_addRecording_28 rfl ?_
    refine X_sP (μ' := mX9_sideOfAll) [.int (M 150 (v17 + 2).toNatClampNeg), .int a2] [] kL_RX9_67 kM_X9_sideOfAll rfl rfl rfl dX9_addRecording_29 h (fun _ hv => x_X9_sideOfAll hv) (fun v18 h => ?_)
    refine X_if_lt 59 dX9_addRecording_32 (by decide) h (fun h => ?_) (fun h => ?_)
    · refine X_bipush (-2) dX9_addRecording_59 rfl ?_
      exact X_retI dX9_addRecording_61 rfl (Nat.le_refl _) (Nat.le_refl _) h
    · refine X_iload_n (x := a3) dX9_addRecording_35 rfl ?_
      refine X_if_lt 59 dX9_addRecording_36 (by decide) h (fun h => ?_) (fun h => ?_)
      · refine X_bipush (-2) dX9_addRecording_59 rfl ?_
        exact X_retI dX9_addRecording_61 rfl (Nat.le_refl _) (Nat.le_refl _) h
      · refine X_iload (x := a4) dX9_addRecording_39 rfl ?_
        refine X_iload_n (x := a3) dX9_addRecording_41 rfl ?_
        refine X_icmp_le 59 dX9_addRecording_42 (by decide) h (fun h => ?_) (fun h => ?_)
        · refine X_bipush (-2) dX9_addRecording_59 rfl ?_
          exact X_retI dX9_addRecording_61 rfl (Nat.le_refl _) (Nat.le_refl _) h
        · refine X_iload (x := a4) dX9_addRecording_45 rfl ?_
          refine X_aload_n (x := 149) dX9_addRecording_47 rfl ?_
          refine X_get (v := .ref 150) kF_RX9_7 sh_149 rfl rfl dX9_addRecording_48 ?_
          refine X_iload (x := v17) dX9_addRecording_51 rfl ?_
          refine X_iconst 3 dX9_addRecording_53 rfl ?_
          refine X_iadd dX9_addRecording_54 ?_
          refine X_iald sh_150 dX9_addRecording_55 h (fun h => ?_)
          refine X_icmp_le 62 dX9_addRecording_56 (by decide) h (fun h => ?_) (fun h => ?_)
          · refine X_aload_n (x := 149) dX9_addRecording_62 rfl ?_
            refine X_get (v := .ref 150) kF_RX9_7 sh_149 rfl rfl dX9_addRecording_63 ?_
            refine X_iconst 3 dX9_addRecording_66 rfl ?_
            refine X_iald sh_150 dX9_addRecording_67 h (fun h => ?_)
            refine X_bipush 16 dX9_addRecording_68 rfl ?_
            refine X_icmp_ne 76 dX9_addRecording_70 (by decide) h (fun h => ?_) (fun h => ?_)
            · refine X_iconst 0 dX9_addRecording_76 rfl ?_
              refine X_istoreL (fun v19 => [.ref 149, .int a1, .int a2, .int a3, .int a4, .int v17, .int v19]) dX9_addRecording_77 (Nat.le_of_ble_eq_true rfl) (Nat.le_of_ble_eq_true rfl) (xcat1_of rfl) h (fun _ => rfl) (fun v19 h => ?_)
              exact x_X9_addRecording_79 _ _ _ _ _ _ _ _ _ h
            · refine X_bipush (-4) dX9_addRecording_73 rfl ?_
              exact X_retI dX9_addRecording_75 rfl (Nat.le_refl _) (Nat.le_refl _) h
          · refine X_bipush (-2) dX9_addRecording_59 rfl ?_
            exact X_retI dX9_addRecording_61 rfl (Nat.le_refl _) (Nat.le_refl _) h
  · refine X_iconst (-1) dX9_addRecording_9 rfl ?_
    exact X_retI dX9_addRecording_10 rfl (Nat.le_refl _) (Nat.le_refl _) h
def f_X9_isExcerpt (M : xM) (a1 a2 a3 : Int32) : Option Int32 :=
  xl (84 + (5 * a1)) fun v2 =>
  if a2 < 0 then (
    some 0)
  else (
    if a3 ≤ a2 then (
      some 0)
    else (
      xgd (xin (v2 + 3) 916) <|
      xgd (xin (v2 + 2) 916) <|
      if ((M 150 (v2 + 3).toNatClampNeg) - (M 150 (v2 + 2).toNatClampNeg)) < a3 then (
        some 0)
      else (
        some 1)))
set_option maxHeartbeats 1000000 in
theorem x_X9_isExcerpt {ξ : xX} {M : xM} {a1 a2 a3 : Int32} {z : Int32} (h : f_X9_isExcerpt M a1 a2 a3 = some z) : X ξ mX9_isExcerpt 0 [.ref 149, .int a1, .int a2, .int a3] [] SH M 0 0 (xr (some (.int z)) SH M) := by
  rw [f_X9_isExcerpt] at h
  refine X_bipush 84 dX9_isExcerpt_0 rfl ?_
  refine X_iconst 5 dX9_isExcerpt_2 rfl ?_
  refine X_iload_n (x := a1) dX9_isExcerpt_3 rfl ?_
  refine X_imul dX9_isExcerpt_4 ?_
  refine X_iadd dX9_isExcerpt_5 ?_
  refine X_istoreL (fun v2 => [.ref 149, .int a1, .int a2, .int a3, .int v2]) dX9_isExcerpt_6 (Nat.le_of_ble_eq_true rfl) (Nat.le_of_ble_eq_true rfl) (xcat1_of rfl) h (fun _ => rfl) (fun v2 h => ?_)
  refine X_iload_n (x := a2) dX9_isExcerpt_8 rfl ?_
  refine X_if_lt 44 dX9_isExcerpt_9 (by decide) h (fun h => ?_) (fun h => ?_)
  · refine X_iconst 0 dX9_isExcerpt_44 rfl ?_
    exact X_retLP (by decide) dX9_isExcerpt_45 rfl (Nat.le_refl _) (Nat.le_refl _) h
  · refine X_iload_n (x := a3) dX9_isExcerpt_12 rfl ?_
    refine X_iload_n (x := a2) dX9_isExcerpt_13 rfl ?_
    refine X_icmp_le 44 dX9_isExcerpt_14 (by decide) h (fun h => ?_) (fun h => ?_)
    · refine X_iconst 0 dX9_isExcerpt_44 rfl ?_
      exact X_retLP (by decide) dX9_isExcerpt_45 rfl (Nat.le_refl _) (Nat.le_refl _) h
    · refine X_iload_n (x := a3) dX9_isExcerpt_17 rfl ?_
      refine X_aload_n (x := 149) dX9_isExcerpt_18 rfl ?_
      refine X_get (v := .ref 150) kF_RX9_7 sh_149 rfl rfl dX9_isExcerpt_19 ?_
      refine X_iload (x := v2) dX9_isExcerpt_22 rfl ?_
      refine X_iconst 3 dX9_isExcerpt_24 rfl ?_
      refine X_iadd dX9_isExcerpt_25 ?_
      refine X_iald sh_150 dX9_isExcerpt_26 h (fun h => ?_)
      refine X_aload_n (x := 149) dX9_isExcerpt_27 rfl ?_
      refine X_get (v := .ref 150) kF_RX9_7 sh_149 rfl rfl dX9_isExcerpt_28 ?_
      refine X_iload (x := v2) dX9_isExcerpt_31 rfl ?_
      refine X_iconst 2 dX9_isExcerpt_33 rfl ?_
      refine X_iadd dX9_isExcerpt_34 ?_
      refine X_iald sh_150 dX9_isExcerpt_35 h (fun h => ?_)
      refine X_isub dX9_isExcerpt_36 ?_
      refine X_icmp_gt 44 dX9_isExcerpt_37 (by decide) h (fun h => ?_) (fun h => ?_)
      · refine X_iconst 0 dX9_isExcerpt_44 rfl ?_
        exact X_retLP (by decide) dX9_isExcerpt_45 rfl (Nat.le_refl _) (Nat.le_refl _) h
      · refine X_iconst 1 dX9_isExcerpt_40 rfl ?_
        refine X_goto 45 dX9_isExcerpt_41 (by decide) ?_
        exact X_retLP (by decide) dX9_isExcerpt_45 rfl (Nat.le_refl _) (Nat.le_refl _) h
def f_X9_addPart (M : xM) (a1 a2 a3 a4 a5 : Int32) : Option (Int32 × xM) :=
  xb (f_X9_isOne M 3 a1) fun v3 =>
  if v3 = 0 then (
    some ((-1), M))
  else (
    xb (f_X9_isExcerpt M a1 a2 a3) fun v4 =>
    if v4 = 0 then (
      some ((-2), M))
    else (
      xb (f_X9_in a4 0 7) fun v5 =>
      if v5 = 0 then (
        some ((-2), M))
      else (
        xb (f_X9_in a5 0 9999) fun v6 =>
        if v6 = 0 then (
          some ((-2), M))
        else (
          xgd (xin ((84 + (5 * a1)) + 4) 916) <|
          xl (M 150 ((84 + (5 * a1)) + 4).toNatClampNeg) fun v7 =>
          if v7 = 4 then (
            some ((-4), M))
          else (
            xb (f_X9_record M) fun M8 =>
            xl ((164 + (16 * a1)) + (4 * v7)) fun v9 =>
            xgd (xin v9 916) <| xl (xw M8 150 v9.toNatClampNeg a2) fun M10 =>
            xgd (xin (v9 + 1) 916) <| xl (xw M10 150 (v9 + 1).toNatClampNeg a3) fun M11 =>
            xgd (xin (v9 + 2) 916) <| xl (xw M11 150 (v9 + 2).toNatClampNeg a4) fun M12 =>
            xgd (xin (v9 + 3) 916) <| xl (xw M12 150 (v9 + 3).toNatClampNeg a5) fun M13 =>
            xgd (xin ((84 + (5 * a1)) + 4) 916) <|
            xgd (xin ((84 + (5 * a1)) + 4) 916) <| xl (xw M13 150 ((84 + (5 * a1)) + 4).toNatClampNeg ((M13 150 ((84 + (5 * a1)) + 4).toNatClampNeg) + 1)) fun M14 =>
            some (v7, M14))))))
set_option maxHeartbeats 1000000 in
theorem x_X9_addPart {ξ : xX} {M : xM} {a1 a2 a3 a4 a5 : Int32} {z : (Int32 × xM)} (h : f_X9_addPart M a1 a2 a3 a4 a5 = some z) : X ξ mX9_addPart 0 [.ref 149, .int a1, .int a2, .int a3, .int a4, .int a5] [] SH M 0 0 (xr (some (.int z.1)) SH z.2) := by
  rw [f_X9_addPart] at h
  refine X_aload_n (x := 149) dX9_addPart_0 rfl ?_
  refine X_iconst 3 dX9_addPart_1 rfl ?_
  refine X_iload_n (x := a1) dX9_addPart_2 rfl ?_
  refine X_vP (μ' := mX9_isOne) [.int 3, .int a1] [] kL_RX9_64 kM_X9_isOne rv_149 rfl rfl rfl dX9_addPart_3 h (fun _ hv => x_X9_isOne hv) (fun v3 h => ?_)
  refine X_if_ne 11 dX9_addPart_6 (by decide) h (fun h => ?_) (fun h => ?_)
  · refine X_aload_n (x := 149) dX9_addPart_11 rfl ?_
    refine X_iload_n (x := a1) dX9_addPart_12 rfl ?_
    refine X_iload_n (x := a2) dX9_addPart_13 rfl ?_
    refine X_iload_n (x := a3) dX9_addPart_14 rfl ?_
    refine X_vP (μ' := mX9_isExcerpt) [.int a1, .int a2, .int a3] [] kL_RX9_70 kM_X9_isExcerpt rv_149 rfl rfl rfl dX9_addPart_15 h (fun _ hv => x_X9_isExcerpt hv) (fun v4 h => ?_)
    refine X_if_eq 44 dX9_addPart_18 (by decide) h (fun h => ?_) (fun h => ?_)
    · refine X_bipush (-2) dX9_addPart_44 rfl ?_
      exact X_retI dX9_addPart_46 rfl (Nat.le_refl _) (Nat.le_refl _) h
    · refine X_iload (x := a4) dX9_addPart_21 rfl ?_
      refine X_iconst 0 dX9_addPart_23 rfl ?_
      refine X_bipush 7 dX9_addPart_24 rfl ?_
      refine X_sP (μ' := mX9_in) [.int a4, .int 0, .int 7] [] kL_RX9_42 kM_X9_in rfl rfl rfl dX9_addPart_26 h (fun _ hv => x_X9_in hv) (fun v5 h => ?_)
      refine X_if_eq 44 dX9_addPart_29 (by decide) h (fun h => ?_) (fun h => ?_)
      · refine X_bipush (-2) dX9_addPart_44 rfl ?_
        exact X_retI dX9_addPart_46 rfl (Nat.le_refl _) (Nat.le_refl _) h
      · refine X_iload (x := a5) dX9_addPart_32 rfl ?_
        refine X_iconst 0 dX9_addPart_34 rfl ?_
        refine X_sipush 9999 dX9_addPart_35 rfl ?_
        refine X_sP (μ' := mX9_in) [.int a5, .int 0, .int 9999] [] kL_RX9_42 kM_X9_in rfl rfl rfl dX9_addPart_38 h (fun _ hv => x_X9_in hv) (fun v6 h => ?_)
        refine X_if_ne 47 dX9_addPart_41 (by decide) h (fun h => ?_) (fun h => ?_)
        · refine X_aload_n (x := 149) dX9_addPart_47 rfl ?_
          refine X_get (v := .ref 150) kF_RX9_7 sh_149 rfl rfl dX9_addPart_48 ?_
          refine X_bipush 84 dX9_addPart_51 rfl ?_
          refine X_iconst 5 dX9_addPart_53 rfl ?_
          refine X_iload_n (x := a1) dX9_addPart_54 rfl ?_
          refine X_imul dX9_addPart_55 ?_
          refine X_iadd dX9_addPart_56 ?_
          refine X_iconst 4 dX9_addPart_57 rfl ?_
          refine X_iadd dX9_addPart_58 ?_
          refine X_iald sh_150 dX9_addPart_59 h (fun h => ?_)
          refine X_istoreL (fun v7 => [.ref 149, .int a1, .int a2, .int a3, .int a4, .int a5, .int v7]) dX9_addPart_60 (Nat.le_of_ble_eq_true rfl) (Nat.le_of_ble_eq_true rfl) (xcat1_of rfl) h (fun _ => rfl) (fun v7 h => ?_)
          refine X_iload (x := v7) dX9_addPart_62 rfl ?_
          refine X_iconst 4 dX9_addPart_64 rfl ?_
          refine X_icmp_ne 71 dX9_addPart_65 (by decide) h (fun h => ?_) (fun h => ?_)
          · refine X_aload_n (x := 149) dX9_addPart_71 rfl ?_
            refine X_vV (μ' := mX9_record) [] [] kL_RX9_54 kM_X9_record rv_149 rfl rfl rfl dX9_addPart_72 h (fun _ hv => x_X9_record hv) (fun M8 h => ?_)
            refine X_sipush 164 dX9_addPart_75 rfl ?_
            refine X_bipush 16 dX9_addPart_78 rfl ?_
            refine X_iload_n (x := a1) dX9_addPart_80 rfl ?_
            refine X_imul dX9_addPart_81 ?_
            refine X_iadd dX9_addPart_82 ?_
            refine X_iconst 4 dX9_addPart_83 rfl ?_
            refine X_iload (x := v7) dX9_addPart_84 rfl ?_
            refine X_imul dX9_addPart_86 ?_
            refine X_iadd dX9_addPart_87 ?_
            refine X_istoreL (fun v9 => [.ref 149, .int a1, .int a2, .int a3, .int a4, .int a5, .int v7, .int v9]) dX9_addPart_88 (Nat.le_of_ble_eq_true rfl) (Nat.le_of_ble_eq_true rfl) (xcat1_of rfl) h (fun _ => rfl) (fun v9 h => ?_)
            refine X_aload_n (x := 149) dX9_addPart_90 rfl ?_
            refine X_get (v := .ref 150) kF_RX9_7 sh_149 rfl rfl dX9_addPart_91 ?_
            refine X_iload (x := v9) dX9_addPart_94 rfl ?_
            refine X_iload_n (x := a2) dX9_addPart_96 rfl ?_
            refine X_iast sh_150 dX9_addPart_97 h (fun M10 h => ?_)
            refine X_aload_n (x := 149) dX9_addPart_98 rfl ?_
            refine X_get (v := .ref 150) kF_RX9_7 sh_149 rfl rfl dX9_addPart_99 ?_
            refine X_iload (x := v9) dX9_addPart_102 rfl ?_
            refine X_iconst 1 dX9_addPart_104 rfl ?_
            refine X_iadd dX9_addPart_105 ?_
            refine X_iload_n (x := a3) dX9_addPart_106 rfl ?_
            refine X_iast sh_150 dX9_addPart_107 h (fun M11 h => ?_)
            refine X_aload_n (x := 149) dX9_addPart_108 rfl ?_
            refine X_get (v := .ref 150) kF_RX9_7 sh_149 rfl rfl dX9_addPart_109 ?_
            refine X_iload (x := v9) dX9_addPart_112 rfl ?_
            refine X_iconst 2 dX9_addPart_114 rfl ?_
            refine X_iadd dX9_addPart_115 ?_
            refine X_iload (x := a4) dX9_addPart_116 rfl ?_
            refine X_iast sh_150 dX9_addPart_118 h (fun M12 h => ?_)
            refine X_aload_n (x := 149) dX9_addPart_119 rfl ?_
            refine X_get (v := .ref 150) kF_RX9_7 sh_149 rfl rfl dX9_addPart_120 ?_
            refine X_iload (x := v9) dX9_addPart_123 rfl ?_
            refine X_iconst 3 dX9_addPart_125 rfl ?_
            refine X_iadd dX9_addPart_126 ?_
            refine X_iload (x := a5) dX9_addPart_127 rfl ?_
            refine X_iast sh_150 dX9_addPart_129 h (fun M13 h => ?_)
            refine X_aload_n (x := 149) dX9_addPart_130 rfl ?_
            refine X_get (v := .ref 150) kF_RX9_7 sh_149 rfl rfl dX9_addPart_131 ?_
            refine X_bipush 84 dX9_addPart_134 rfl ?_
            refine X_iconst 5 dX9_addPart_136 rfl ?_
            refine X_iload_n (x := a1) dX9_addPart_137 rfl ?_
            refine X_imul dX9_addPart_138 ?_
            refine X_iadd dX9_addPart_139 ?_
            refine X_iconst 4 dX9_addPart_140 rfl ?_
            refine X_iadd dX9_addPart_141 ?_
            refine X_dup2 dX9_addPart_142 rfl rfl ?_
            refine X_iald sh_150 dX9_addPart_143 h (fun h => ?_)
            refine X_iconst 1 dX9_addPart_144 rfl ?_
            refine X_iadd dX9_addPart_145 ?_
            refine X_iast sh_150 dX9_addPart_146 h (fun M14 h => ?_)
            refine X_iload (x := v7) dX9_addPart_147 rfl ?_
            exact X_retI dX9_addPart_149 rfl (Nat.le_refl _) (Nat.le_refl _) h
          · refine X_bipush (-4) dX9_addPart_68 rfl ?_
            exact X_retI dX9_addPart_70 rfl (Nat.le_refl _) (Nat.le_refl _) h
        · refine X_bipush (-2) dX9_addPart_44 rfl ?_
          exact X_retI dX9_addPart_46 rfl (Nat.le_refl _) (Nat.le_refl _) h
  · refine X_iconst (-1) dX9_addPart_9 rfl ?_
    exact X_retI dX9_addPart_10 rfl (Nat.le_refl _) (Nat.le_refl _) h
def f_X9_passesOf_37 (M : xM) (k4 : Int32 → Int32 → Int32 → Option Int32) (i1 : Int32) (i2 : Int32) (i3 : Int32) (s0 : Int32) (s1 : Int32) : Option Int32 :=
  xl (s0 + s1) fun v5 =>
  xl (i3 + 1) fun v6 =>
  k4 i1 v5 v6
set_option maxHeartbeats 1000000 in
theorem x_X9_passesOf_37 {ξ : xX} {M : xM} {k4 : Int32 → Int32 → Int32 → Option Int32} {i1 : Int32} {i2 : Int32} {i3 : Int32} {s0 : Int32} {s1 : Int32} (hk4 : ∀ (j1 j2 j3 : Int32) (z : Int32), k4 j1 j2 j3 = some z → X ξ mX9_passesOf 4 [.ref 149, .int j1, .int j2, .int j3] [] SH M 0 0 (xr (some (.int z)) SH M)) {z : Int32} (h : f_X9_passesOf_37 M k4 i1 i2 i3 s0 s1 = some z) : X ξ mX9_passesOf 37 [.ref 149, .int i1, .int i2, .int i3] [.int s1, .int s0] SH M 0 0 (xr (some (.int z)) SH M) := by
  rw [f_X9_passesOf_37] at h
  refine X_iadd dX9_passesOf_37 ?_
  refine X_istoreL_n (fun v5 => [.ref 149, .int i1, .int v5, .int i3]) dX9_passesOf_38 (Nat.le_of_ble_eq_true rfl) (Nat.le_of_ble_eq_true rfl) (xcat1_of rfl) h (fun _ => rfl) (fun v5 h => ?_)
  refine X_iincL (x := i3) 1 (fun v6 => [.ref 149, .int i1, .int v5, .int v6]) dX9_passesOf_39 rfl rfl (Nat.le_of_ble_eq_true rfl) (xcat1_of rfl) h (fun _ => rfl) (fun v6 h => ?_)
  refine X_goto 4 dX9_passesOf_42 (by decide) ?_
  exact hk4 _ _ _ _ h
def f_X9_passesOf_4 (M : xM) : Nat → Int32 → Int32 → Int32 → Option Int32
  | 0, _, _, _ => none
  | fu + 1, i1, i2, i3 =>
    xgd (xin 4 916) <|
    if (M 150 (4 : Int32).toNatClampNeg) ≤ i3 then (
      some i2)
    else (
      xgd (xin (420 + (9 * i3)) 916) <|
      if (M 150 (420 + (9 * i3)).toNatClampNeg) = i1 then (
        f_X9_passesOf_37 M (f_X9_passesOf_4 M fu) i1 i2 i3 i2 1)
      else (
        f_X9_passesOf_37 M (f_X9_passesOf_4 M fu) i1 i2 i3 i2 0))
set_option maxHeartbeats 1000000 in
theorem x_X9_passesOf_4 {ξ : xX} {M : xM} : ∀ (fu : Nat) (i1 i2 i3 : Int32) (z : Int32), f_X9_passesOf_4 M fu i1 i2 i3 = some z → X ξ mX9_passesOf 4 [.ref 149, .int i1, .int i2, .int i3] [] SH M 0 0 (xr (some (.int z)) SH M) := by
  intro fu
  induction fu with
  | zero => intro i1 i2 i3 z h; rw [f_X9_passesOf_4] at h; cases h
  | succ fu ih =>
    intro i1 i2 i3 z h
    rw [f_X9_passesOf_4] at h
    refine X_iload_n (x := i3) dX9_passesOf_4 rfl ?_
    refine X_aload_n (x := 149) dX9_passesOf_5 rfl ?_
    refine X_get (v := .ref 150) kF_RX9_7 sh_149 rfl rfl dX9_passesOf_6 ?_
    refine X_iconst 4 dX9_passesOf_9 rfl ?_
    refine X_iald sh_150 dX9_passesOf_10 h (fun h => ?_)
    refine X_icmp_ge 45 dX9_passesOf_11 (by decide) h (fun h => ?_) (fun h => ?_)
    · refine X_iload_n (x := i2) dX9_passesOf_45 rfl ?_
      exact X_retP dX9_passesOf_46 rfl (Nat.le_refl _) (Nat.le_refl _) h
    · refine X_iload_n (x := i2) dX9_passesOf_14 rfl ?_
      refine X_aload_n (x := 149) dX9_passesOf_15 rfl ?_
      refine X_get (v := .ref 150) kF_RX9_7 sh_149 rfl rfl dX9_passesOf_16 ?_
      refine X_sipush 420 dX9_passesOf_19 rfl ?_
      refine X_bipush 9 dX9_passesOf_22 rfl ?_
      refine X_iload_n (x := i3) dX9_passesOf_24 rfl ?_
      refine X_imul dX9_passesOf_25 ?_
      refine X_iadd dX9_passesOf_26 ?_
      refine X_iald sh_150 dX9_passesOf_27 h (fun h => ?_)
      refine X_iload_n (x := i1) dX9_passesOf_28 rfl ?_
      refine X_icmp_ne 36 dX9_passesOf_29 (by decide) h (fun h => ?_) (fun h => ?_)
      · refine X_iconst 0 dX9_passesOf_36 rfl ?_
        exact x_X9_passesOf_37 ih h
      · refine X_iconst 1 dX9_passesOf_32 rfl ?_
        refine X_goto 37 dX9_passesOf_33 (by decide) ?_
        exact x_X9_passesOf_37 ih h
def f_X9_passesOf (M : xM) (a1 : Int32) : Option Int32 :=
  xl (0 : Int32) fun v7 =>
  xl (0 : Int32) fun v8 =>
  f_X9_passesOf_4 M xFU a1 v7 v8
set_option maxHeartbeats 1000000 in
theorem x_X9_passesOf {ξ : xX} {M : xM} {a1 : Int32} {z : Int32} (h : f_X9_passesOf M a1 = some z) : X ξ mX9_passesOf 0 [.ref 149, .int a1] [] SH M 0 0 (xr (some (.int z)) SH M) := by
  rw [f_X9_passesOf] at h
  refine X_iconst 0 dX9_passesOf_0 rfl ?_
  refine X_istoreL_n (fun v7 => [.ref 149, .int a1, .int v7]) dX9_passesOf_1 (Nat.le_of_ble_eq_true rfl) (Nat.le_of_ble_eq_true rfl) (xcat1_of rfl) h (fun _ => rfl) (fun v7 h => ?_)
  refine X_iconst 0 dX9_passesOf_2 rfl ?_
  refine X_istoreL_n (fun v8 => [.ref 149, .int a1, .int v7, .int v8]) dX9_passesOf_3 (Nat.le_of_ble_eq_true rfl) (Nat.le_of_ble_eq_true rfl) (xcat1_of rfl) h (fun _ => rfl) (fun v8 h => ?_)
  exact x_X9_passesOf_4 _ _ _ _ _ h
def f_X9_readBy_94 (k6 : Int32 → Int32 → Int32 → Int32 → Int32 → Int32 → Option Int32) (i1 : Int32) (i2 : Int32) (i3 : Int32) (i4 : Int32) (i5 : Int32) (i6 : Int32) (i7 : Int32) (i8 : Int32) (i9 : Int32) (s0 : Int32) : Option Int32 :=
  xl s0 fun v8 =>
  xl (i6 + 1) fun v9 =>
  k6 i1 i2 i3 i4 v8 v9
set_option maxHeartbeats 1000000 in
theorem x_X9_readBy_94 {ξ : xX} {M : xM} {k6 : Int32 → Int32 → Int32 → Int32 → Int32 → Int32 → Option Int32} {i1 : Int32} {i2 : Int32} {i3 : Int32} {i4 : Int32} {i5 : Int32} {i6 : Int32} {i7 : Int32} {i8 : Int32} {i9 : Int32} {s0 : Int32} (hk6 : ∀ (j1 j2 j3 j4 j5 j6 : Int32) (z : Int32), k6 j1 j2 j3 j4 j5 j6 = some z → X ξ mX9_readBy 6 [.ref 149, .int j1, .int j2, .int j3, .int j4, .int j5, .int j6] [] SH M 0 0 (xr (some (.int z)) SH M)) {z : Int32} (h : f_X9_readBy_94 k6 i1 i2 i3 i4 i5 i6 i7 i8 i9 s0 = some z) : X ξ mX9_readBy 94 [.ref 149, .int i1, .int i2, .int i3, .int i4, .int i5, .int i6, .int i7, .int i8, .int i9] [.int s0] SH M 0 0 (xr (some (.int z)) SH M) := by
  rw [f_X9_readBy_94] at h
  refine X_istoreL (fun v8 => [.ref 149, .int i1, .int i2, .int i3, .int i4, .int v8, .int i6, .int i7, .int i8, .int i9]) dX9_readBy_94 (Nat.le_of_ble_eq_true rfl) (Nat.le_of_ble_eq_true rfl) (xcat1_of rfl) h (fun _ => rfl) (fun v8 h => ?_)
  refine X_iincL (x := i6) 1 (fun v9 => [.ref 149, .int i1, .int i2, .int i3, .int i4, .int v8, .int v9, .int i7, .int i8, .int i9]) dX9_readBy_96 rfl rfl (Nat.le_of_ble_eq_true rfl) (xcat1_of rfl) h (fun _ => rfl) (fun v9 h => ?_)
  refine X_goto 6 dX9_readBy_99 (by decide) ?_
  refine X_cut 7 ?_
  exact hk6 _ _ _ _ _ _ _ h
def f_X9_readBy_92 (k6 : Int32 → Int32 → Int32 → Int32 → Int32 → Int32 → Option Int32) (i1 : Int32) (i2 : Int32) (i3 : Int32) (i4 : Int32) (i5 : Int32) (i6 : Int32) (i7 : Int32) (i8 : Int32) (i9 : Int32) : Option Int32 :=
  f_X9_readBy_94 k6 i1 i2 i3 i4 i5 i6 i7 i8 i9 i5
set_option maxHeartbeats 1000000 in
theorem x_X9_readBy_92 {ξ : xX} {M : xM} {k6 : Int32 → Int32 → Int32 → Int32 → Int32 → Int32 → Option Int32} {i1 : Int32} {i2 : Int32} {i3 : Int32} {i4 : Int32} {i5 : Int32} {i6 : Int32} {i7 : Int32} {i8 : Int32} {i9 : Int32} (hk6 : ∀ (j1 j2 j3 j4 j5 j6 : Int32) (z : Int32), k6 j1 j2 j3 j4 j5 j6 = some z → X ξ mX9_readBy 6 [.ref 149, .int j1, .int j2, .int j3, .int j4, .int j5, .int j6] [] SH M 0 0 (xr (some (.int z)) SH M)) {z : Int32} (h : f_X9_readBy_92 k6 i1 i2 i3 i4 i5 i6 i7 i8 i9 = some z) : X ξ mX9_readBy 92 [.ref 149, .int i1, .int i2, .int i3, .int i4, .int i5, .int i6, .int i7, .int i8, .int i9] [] SH M 0 0 (xr (some (.int z)) SH M) := by
  rw [f_X9_readBy_92] at h
  refine X_iload (x := i5) dX9_readBy_92 rfl ?_
  exact x_X9_readBy_94 hk6 h
def f_X9_readBy_67 (k6 : Int32 → Int32 → Int32 → Int32 → Int32 → Int32 → Option Int32) (i1 : Int32) (i2 : Int32) (i3 : Int32) (i4 : Int32) (i5 : Int32) (i6 : Int32) (i7 : Int32) (i8 : Int32) (s0 : Int32) : Option Int32 :=
  xl s0 fun v10 =>
  if v10 = 0 then (
    f_X9_readBy_92 k6 i1 i2 i3 i4 i5 i6 i7 i8 v10)
  else (
    xb (f_X9_ones i7) fun v11 =>
    if v11 ≤ i5 then (
      f_X9_readBy_92 k6 i1 i2 i3 i4 i5 i6 i7 i8 v10)
    else (
      xb (f_X9_ones i7) fun v12 =>
      f_X9_readBy_94 k6 i1 i2 i3 i4 i5 i6 i7 i8 v10 v12))
set_option maxHeartbeats 1000000 in
theorem x_X9_readBy_67 {ξ : xX} {M : xM} {k6 : Int32 → Int32 → Int32 → Int32 → Int32 → Int32 → Option Int32} {i1 : Int32} {i2 : Int32} {i3 : Int32} {i4 : Int32} {i5 : Int32} {i6 : Int32} {i7 : Int32} {i8 : Int32} {s0 : Int32} (hk6 : ∀ (j1 j2 j3 j4 j5 j6 : Int32) (z : Int32), k6 j1 j2 j3 j4 j5 j6 = some z → X ξ mX9_readBy 6 [.ref 149, .int j1, .int j2, .int j3, .int j4, .int j5, .int j6] [] SH M 0 0 (xr (some (.int z)) SH M)) {z : Int32} (h : f_X9_readBy_67 k6 i1 i2 i3 i4 i5 i6 i7 i8 s0 = some z) : X ξ mX9_readBy 67 [.ref 149, .int i1, .int i2, .int i3, .int i4, .int i5, .int i6, .int i7, .int i8] [.int s0] SH M 0 0 (xr (some (.int z)) SH M) := by
  rw [f_X9_readBy_67] at h
  refine X_istoreL (fun v10 => [.ref 149, .int i1, .int i2, .int i3, .int i4, .int i5, .int i6, .int i7, .int i8, .int v10]) dX9_readBy_67 (Nat.le_of_ble_eq_true rfl) (Nat.le_of_ble_eq_true rfl) (xcat1_of rfl) h (fun _ => rfl) (fun v10 h => ?_)
  refine X_iload (x := v10) dX9_readBy_69 rfl ?_
  refine X_if_eq 92 dX9_readBy_71 (by decide) h (fun h => ?_) (fun h => ?_)
  · exact x_X9_readBy_92 hk6 h
  · refine X_iload (x := i7) dX9_readBy_74 rfl ?_
    refine X_sP (μ' := mX9_ones) [.int i7] [] kL_RX9_79 kM_X9_ones rfl rfl rfl dX9_readBy_76 h (fun _ hv => x_X9_ones hv) (fun v11 h => ?_)
    refine X_iload (x := i5) dX9_readBy_79 rfl ?_
    refine X_icmp_le 92 dX9_readBy_81 (by decide) h (fun h => ?_) (fun h => ?_)
    · exact x_X9_readBy_92 hk6 h
    · refine X_iload (x := i7) dX9_readBy_84 rfl ?_
      refine X_sP (μ' := mX9_ones) [.int i7] [] kL_RX9_79 kM_X9_ones rfl rfl rfl dX9_readBy_86 h (fun _ hv => x_X9_ones hv) (fun v12 h => ?_)
      refine X_goto 94 dX9_readBy_89 (by decide) ?_
      exact x_X9_readBy_94 hk6 h
def f_X9_readBy_66 (k6 : Int32 → Int32 → Int32 → Int32 → Int32 → Int32 → Option Int32) (i1 : Int32) (i2 : Int32) (i3 : Int32) (i4 : Int32) (i5 : Int32) (i6 : Int32) (i7 : Int32) (i8 : Int32) : Option Int32 :=
  f_X9_readBy_67 k6 i1 i2 i3 i4 i5 i6 i7 i8 0
set_option maxHeartbeats 1000000 in
theorem x_X9_readBy_66 {ξ : xX} {M : xM} {k6 : Int32 → Int32 → Int32 → Int32 → Int32 → Int32 → Option Int32} {i1 : Int32} {i2 : Int32} {i3 : Int32} {i4 : Int32} {i5 : Int32} {i6 : Int32} {i7 : Int32} {i8 : Int32} (hk6 : ∀ (j1 j2 j3 j4 j5 j6 : Int32) (z : Int32), k6 j1 j2 j3 j4 j5 j6 = some z → X ξ mX9_readBy 6 [.ref 149, .int j1, .int j2, .int j3, .int j4, .int j5, .int j6] [] SH M 0 0 (xr (some (.int z)) SH M)) {z : Int32} (h : f_X9_readBy_66 k6 i1 i2 i3 i4 i5 i6 i7 i8 = some z) : X ξ mX9_readBy 66 [.ref 149, .int i1, .int i2, .int i3, .int i4, .int i5, .int i6, .int i7, .int i8] [] SH M 0 0 (xr (some (.int z)) SH M) := by
  rw [f_X9_readBy_66] at h
  refine X_iconst 0 dX9_readBy_66 rfl ?_
  exact x_X9_readBy_67 hk6 h
def f_X9_readBy_38 (k6 : Int32 → Int32 → Int32 → Int32 → Int32 → Int32 → Option Int32) (i1 : Int32) (i2 : Int32) (i3 : Int32) (i4 : Int32) (i5 : Int32) (i6 : Int32) (i7 : Int32) (s0 : Int32) : Option Int32 :=
  xl s0 fun v13 =>
  xb (f_X9_sideOf i1 i6) fun v14 =>
  if v14 = 0 then (
    xb (f_X9_stripsOf i2 i3) fun v15 =>
    if (v13 &&& (v15 ^^^ (-1))) = 0 then (
      f_X9_readBy_67 k6 i1 i2 i3 i4 i5 i6 i7 v13 1)
    else (
      f_X9_readBy_66 k6 i1 i2 i3 i4 i5 i6 i7 v13))
  else (
    f_X9_readBy_66 k6 i1 i2 i3 i4 i5 i6 i7 v13)
set_option maxHeartbeats 1000000 in
theorem x_X9_readBy_38 {ξ : xX} {M : xM} {k6 : Int32 → Int32 → Int32 → Int32 → Int32 → Int32 → Option Int32} {i1 : Int32} {i2 : Int32} {i3 : Int32} {i4 : Int32} {i5 : Int32} {i6 : Int32} {i7 : Int32} {s0 : Int32} (hk6 : ∀ (j1 j2 j3 j4 j5 j6 : Int32) (z : Int32), k6 j1 j2 j3 j4 j5 j6 = some z → X ξ mX9_readBy 6 [.ref 149, .int j1, .int j2, .int j3, .int j4, .int j5, .int j6] [] SH M 0 0 (xr (some (.int z)) SH M)) {z : Int32} (h : f_X9_readBy_38 k6 i1 i2 i3 i4 i5 i6 i7 s0 = some z) : X ξ mX9_readBy 38 [.ref 149, .int i1, .int i2, .int i3, .int i4, .int i5, .int i6, .int i7] [.int s0] SH M 0 0 (xr (some (.int z)) SH M) := by
  rw [f_X9_readBy_38] at h
  refine X_istoreL (fun v13 => [.ref 149, .int i1, .int i2, .int i3, .int i4, .int i5, .int i6, .int i7, .int v13]) dX9_readBy_38 (Nat.le_of_ble_eq_true rfl) (Nat.le_of_ble_eq_true rfl) (xcat1_of rfl) h (fun _ => rfl) (fun v13 h => ?_)
  refine X_iload_n (x := i1) dX9_readBy_40 rfl ?_
  refine X_iload (x := i6) dX9_readBy_41 rfl ?_
  refine X_sP (μ' := mX9_sideOf) [.int i1, .int i6] [] kL_RX9_61 kM_X9_sideOf rfl rfl rfl dX9_readBy_43 h (fun _ hv => x_X9_sideOf hv) (fun v14 h => ?_)
  refine X_if_ne 66 dX9_readBy_46 (by decide) h (fun h => ?_) (fun h => ?_)
  · exact x_X9_readBy_66 hk6 h
  · refine X_iload (x := v13) dX9_readBy_49 rfl ?_
    refine X_iload_n (x := i2) dX9_readBy_51 rfl ?_
    refine X_iload_n (x := i3) dX9_readBy_52 rfl ?_
    refine X_sP (μ' := mX9_stripsOf) [.int i2, .int i3] [.int v13] kL_RX9_73 kM_X9_stripsOf rfl rfl rfl dX9_readBy_53 h (fun _ hv => x_X9_stripsOf hv) (fun v15 h => ?_)
    refine X_iconst (-1) dX9_readBy_56 rfl ?_
    refine X_ixor dX9_readBy_57 ?_
    refine X_iand dX9_readBy_58 ?_
    refine X_if_ne 66 dX9_readBy_59 (by decide) h (fun h => ?_) (fun h => ?_)
    · exact x_X9_readBy_66 hk6 h
    · refine X_iconst 1 dX9_readBy_62 rfl ?_
      refine X_goto 67 dX9_readBy_63 (by decide) ?_
      exact x_X9_readBy_67 hk6 h
def f_X9_readBy_6 : Nat → Int32 → Int32 → Int32 → Int32 → Int32 → Int32 → Option Int32
  | 0, _, _, _, _, _, _ => none
  | fu + 1, i1, i2, i3, i4, i5, i6 =>
    xb (f_X9_tracksOf i1) fun v16 =>
    if v16 ≤ i6 then (
      some i5)
    else (
      xb (f_X9_stripsOf i1 i6) fun v17 =>
      xl v17 fun v18 =>
      if i4 = 0 then (
        f_X9_readBy_38 (f_X9_readBy_6 fu) i1 i2 i3 i4 i5 i6 v18 v18)
      else (
        xb (f_X9_turned v18) fun v19 =>
        f_X9_readBy_38 (f_X9_readBy_6 fu) i1 i2 i3 i4 i5 i6 v18 v19))
set_option maxHeartbeats 1000000 in
theorem x_X9_readBy_6 {ξ : xX} {M : xM} : ∀ (fu : Nat) (i1 i2 i3 i4 i5 i6 : Int32) (z : Int32), f_X9_readBy_6 fu i1 i2 i3 i4 i5 i6 = some z → X ξ mX9_readBy 6 [.ref 149, .int i1, .int i2, .int i3, .int i4, .int i5, .int i6] [] SH M 0 0 (xr (some (.int z)) SH M) := by
  intro fu
  induction fu with
  | zero => intro i1 i2 i3 i4 i5 i6 z h; rw [f_X9_readBy_6] at h; cases h
  | succ fu ih =>
    intro i1 i2 i3 i4 i5 i6 z h
    rw [f_X9_readBy_6] at h
    refine X_iload (x := i6) dX9_readBy_6 rfl ?_
    refine X_iload_n (x := i1) dX9_readBy_8 rfl ?_
    refine X_sP (μ' := mX9_tracksOf) [.int i1] [.int i6] kL_RX9_57 kM_X9_tracksOf rfl rfl rfl dX9_readBy_9 h (fun _ hv => x_X9_tracksOf hv) (fun v16 h => ?_)
    refine X_icmp_ge 102 dX9_readBy_12 (by decide) h (fun h => ?_) (fun h => ?_)
    · refine X_iload (x := i5) dX9_readBy_102 rfl ?_
      exact X_retP dX9_readBy_104 rfl (Nat.le_refl _) (Nat.le_refl _) h
    · refine X_iload_n (x := i1) dX9_readBy_15 rfl ?_
      refine X_iload (x := i6) dX9_readBy_16 rfl ?_
      refine X_sP (μ' := mX9_stripsOf) [.int i1, .int i6] [] kL_RX9_73 kM_X9_stripsOf rfl rfl rfl dX9_readBy_18 h (fun _ hv => x_X9_stripsOf hv) (fun v17 h => ?_)
      refine X_istoreL (fun v18 => [.ref 149, .int i1, .int i2, .int i3, .int i4, .int i5, .int i6, .int v18]) dX9_readBy_21 (Nat.le_of_ble_eq_true rfl) (Nat.le_of_ble_eq_true rfl) (xcat1_of rfl) h (fun _ => rfl) (fun v18 h => ?_)
      refine X_iload (x := i4) dX9_readBy_23 rfl ?_
      refine X_if_ne 33 dX9_readBy_25 (by decide) h (fun h => ?_) (fun h => ?_)
      · refine X_iload (x := v18) dX9_readBy_33 rfl ?_
        refine X_sP (μ' := mX9_turned) [.int v18] [] kL_RX9_76 kM_X9_turned rfl rfl rfl dX9_readBy_35 h (fun _ hv => x_X9_turned hv) (fun v19 h => ?_)
        exact x_X9_readBy_38 ih h
      · refine X_iload (x := v18) dX9_readBy_28 rfl ?_
        refine X_goto 38 dX9_readBy_30 (by decide) ?_
        exact x_X9_readBy_38 ih h
def f_X9_readBy (a1 a2 a3 a4 : Int32) : Option Int32 :=
  xl (0 : Int32) fun v20 =>
  xl (0 : Int32) fun v21 =>
  f_X9_readBy_6 xFU a1 a2 a3 a4 v20 v21
set_option maxHeartbeats 1000000 in
theorem x_X9_readBy {ξ : xX} {M : xM} {a1 a2 a3 a4 : Int32} {z : Int32} (h : f_X9_readBy a1 a2 a3 a4 = some z) : X ξ mX9_readBy 0 [.ref 149, .int a1, .int a2, .int a3, .int a4] [] SH M 0 0 (xr (some (.int z)) SH M) := by
  rw [f_X9_readBy] at h
  refine X_iconst 0 dX9_readBy_0 rfl ?_
  refine X_istoreL (fun v20 => [.ref 149, .int a1, .int a2, .int a3, .int a4, .int v20]) dX9_readBy_1 (Nat.le_of_ble_eq_true rfl) (Nat.le_of_ble_eq_true rfl) (xcat1_of rfl) h (fun _ => rfl) (fun v20 h => ?_)
  refine X_iconst 0 dX9_readBy_3 rfl ?_
  refine X_istoreL (fun v21 => [.ref 149, .int a1, .int a2, .int a3, .int a4, .int v20, .int v21]) dX9_readBy_4 (Nat.le_of_ble_eq_true rfl) (Nat.le_of_ble_eq_true rfl) (xcat1_of rfl) h (fun _ => rfl) (fun v21 h => ?_)
  exact x_X9_readBy_6 _ _ _ _ _ _ _ _ h
