def f_X9_captureOf_42 (M : xM) (i1 : Int32) (i2 : Int32) (i3 : Int32) (i4 : Int32) (i5 : Int32) (i6 : Int32) (i7 : Int32) (s0 : Int32) : Option Int32 :=
  xl s0 fun v7 =>
  xgd (xin (i6 + 1) 916) <|
  xl ((i3 + (M 150 (i6 + 1).toNatClampNeg)) - v7) fun v8 =>
  xgd (xin (i7 + 2) 916) <|
  xgd (xin (i6 + 2) 916) <|
  xb (f_X9_readBy (M 150 (i7 + 2).toNatClampNeg) (M 150 (i6 + 2).toNatClampNeg) i5 i4) fun v9 =>
  xl v9 fun v10 =>
  xgd (xin (i7 + 3) 916) <|
  xgd (xin (i6 + 2) 916) <|
  xb (f_X9_stripsOf (M 150 (i6 + 2).toNatClampNeg) i5) fun v11 =>
  xb (f_X9_ones v11) fun v12 =>
  if (v12 * v8) = 0 then none else
  xb (f_X9_passesOf M i1) fun v13 =>
  xl (((((M 150 (i7 + 3).toNatClampNeg) * v10) * v7) / (v12 * v8)) - v13) fun v14 =>
  if v14 ≤ 0 then (
    some 0)
  else (
    some v14)
set_option maxHeartbeats 1000000 in
theorem x_X9_captureOf_42 {ξ : xX} {M : xM} {i1 : Int32} {i2 : Int32} {i3 : Int32} {i4 : Int32} {i5 : Int32} {i6 : Int32} {i7 : Int32} {s0 : Int32} {z : Int32} (h : f_X9_captureOf_42 M i1 i2 i3 i4 i5 i6 i7 s0 = some z) : X ξ mX9_captureOf 42 [.ref 149, .int i1, .int i2, .int i3, .int i4, .int i5, .int i6, .int i7] [.int s0] SH M 0 0 (xr (some (.int z)) SH M) := by
  rw [f_X9_captureOf_42] at h
  refine X_istoreL (fun v7 => [.ref 149, .int i1, .int i2, .int i3, .int i4, .int i5, .int i6, .int i7, .int v7]) dX9_captureOf_42 (Nat.le_of_ble_eq_true rfl) (Nat.le_of_ble_eq_true rfl) (xcat1_of rfl) h (fun _ => rfl) (fun v7 h => ?_)
  refine X_iload_n (x := i3) dX9_captureOf_44 rfl ?_
  refine X_aload_n (x := 149) dX9_captureOf_45 rfl ?_
  refine X_get (v := .ref 150) kF_RX9_7 sh_149 rfl rfl dX9_captureOf_46 ?_
  refine X_iload (x := i6) dX9_captureOf_49 rfl ?_
  refine X_iconst 1 dX9_captureOf_51 rfl ?_
  refine X_iadd dX9_captureOf_52 ?_
  refine X_iald sh_150 dX9_captureOf_53 h (fun h => ?_)
  refine X_iadd dX9_captureOf_54 ?_
  refine X_iload (x := v7) dX9_captureOf_55 rfl ?_
  refine X_isub dX9_captureOf_57 ?_
  refine X_istoreL (fun v8 => [.ref 149, .int i1, .int i2, .int i3, .int i4, .int i5, .int i6, .int i7, .int v7, .int v8]) dX9_captureOf_58 (Nat.le_of_ble_eq_true rfl) (Nat.le_of_ble_eq_true rfl) (xcat1_of rfl) h (fun _ => rfl) (fun v8 h => ?_)
  refine X_aload_n (x := 149) dX9_captureOf_60 rfl ?_
  refine X_aload_n (x := 149) dX9_captureOf_61 rfl ?_
  refine X_get (v := .ref 150) kF_RX9_7 sh_149 rfl rfl dX9_captureOf_62 ?_
  refine X_iload (x := i7) dX9_captureOf_65 rfl ?_
  refine X_iconst 2 dX9_captureOf_67 rfl ?_
  refine X_iadd dX9_captureOf_68 ?_
  refine X_iald sh_150 dX9_captureOf_69 h (fun h => ?_)
  refine X_aload_n (x := 149) dX9_captureOf_70 rfl ?_
  refine X_get (v := .ref 150) kF_RX9_7 sh_149 rfl rfl dX9_captureOf_71 ?_
  refine X_iload (x := i6) dX9_captureOf_74 rfl ?_
  refine X_iconst 2 dX9_captureOf_76 rfl ?_
  refine X_iadd dX9_captureOf_77 ?_
  refine X_iald sh_150 dX9_captureOf_78 h (fun h => ?_)
  refine X_iload (x := i5) dX9_captureOf_79 rfl ?_
  refine X_iload (x := i4) dX9_captureOf_81 rfl ?_
  refine X_vP (μ' := mX9_readBy) [.int (M 150 (i7 + 2).toNatClampNeg), .int (M 150 (i6 + 2).toNatClampNeg), .int i5, .int i4] [] kL_RX9_82 kM_X9_readBy rv_149 rfl rfl rfl dX9_captureOf_83 h (fun _ hv => x_X9_readBy hv) (fun v9 h => ?_)
  refine X_istoreL (fun v10 => [.ref 149, .int i1, .int i2, .int i3, .int i4, .int i5, .int i6, .int i7, .int v7, .int v8, .int v10]) dX9_captureOf_86 (Nat.le_of_ble_eq_true rfl) (Nat.le_of_ble_eq_true rfl) (xcat1_of rfl) h (fun _ => rfl) (fun v10 h => ?_)
  refine X_aload_n (x := 149) dX9_captureOf_88 rfl ?_
  refine X_get (v := .ref 150) kF_RX9_7 sh_149 rfl rfl dX9_captureOf_89 ?_
  refine X_iload (x := i7) dX9_captureOf_92 rfl ?_
  refine X_iconst 3 dX9_captureOf_94 rfl ?_
  refine X_iadd dX9_captureOf_95 ?_
  refine X_iald sh_150 dX9_captureOf_96 h (fun h => ?_)
  refine X_iload (x := v10) dX9_captureOf_97 rfl ?_
  refine X_imul dX9_captureOf_99 ?_
  refine X_iload (x := v7) dX9_captureOf_100 rfl ?_
  refine X_imul dX9_captureOf_102 ?_
  refine X_aload_n (x := 149) dX9_captureOf_103 rfl ?_
  refine X_get (v := .ref 150) kF_RX9_7 sh_149 rfl rfl dX9_captureOf_104 ?_
  refine X_iload (x := i6) dX9_captureOf_107 rfl ?_
  refine X_iconst 2 dX9_captureOf_109 rfl ?_
  refine X_iadd dX9_captureOf_110 ?_
  refine X_iald sh_150 dX9_captureOf_111 h (fun h => ?_)
  refine X_iload (x := i5) dX9_captureOf_112 rfl ?_
  refine X_sP (μ' := mX9_stripsOf) [.int (M 150 (i6 + 2).toNatClampNeg), .int i5] [.int (((M 150 (i7 + 3).toNatClampNeg) * v10) * v7)] kL_RX9_73 kM_X9_stripsOf rfl rfl rfl dX9_captureOf_114 h (fun _ hv => x_X9_stripsOf hv) (fun v11 h => ?_)
  refine X_sP (μ' := mX9_ones) [.int v11] [.int (((M 150 (i7 + 3).toNatClampNeg) * v10) * v7)] kL_RX9_79 kM_X9_ones rfl rfl rfl dX9_captureOf_117 h (fun _ hv => x_X9_ones hv) (fun v12 h => ?_)
  refine X_iload (x := v8) dX9_captureOf_120 rfl ?_
  refine X_imul dX9_captureOf_122 ?_
  refine X_idivG dX9_captureOf_123 h (fun h => ?_)
  refine X_aload_n (x := 149) dX9_captureOf_124 rfl ?_
  refine X_iload_n (x := i1) dX9_captureOf_125 rfl ?_
  refine X_vP (μ' := mX9_passesOf) [.int i1] [.int ((((M 150 (i7 + 3).toNatClampNeg) * v10) * v7) / (v12 * v8))] kL_RX9_86 kM_X9_passesOf rv_149 rfl rfl rfl dX9_captureOf_126 h (fun _ hv => x_X9_passesOf hv) (fun v13 h => ?_)
  refine X_isub dX9_captureOf_129 ?_
  refine X_istoreL (fun v14 => [.ref 149, .int i1, .int i2, .int i3, .int i4, .int i5, .int i6, .int i7, .int v7, .int v8, .int v10, .int v14]) dX9_captureOf_130 (Nat.le_of_ble_eq_true rfl) (Nat.le_of_ble_eq_true rfl) (xcat1_of rfl) h (fun _ => rfl) (fun v14 h => ?_)
  refine X_iload (x := v14) dX9_captureOf_132 rfl ?_
  refine X_if_le 142 dX9_captureOf_134 (by decide) h (fun h => ?_) (fun h => ?_)
  · refine X_iconst 0 dX9_captureOf_142 rfl ?_
    exact X_retP dX9_captureOf_143 rfl (Nat.le_refl _) (Nat.le_refl _) h
  · refine X_iload (x := v14) dX9_captureOf_137 rfl ?_
    refine X_goto 143 dX9_captureOf_139 (by decide) ?_
    exact X_retP dX9_captureOf_143 rfl (Nat.le_refl _) (Nat.le_refl _) h
def f_X9_captureOf (M : xM) (a1 a2 a3 a4 a5 : Int32) : Option Int32 :=
  xl (24 + (5 * a1)) fun v15 =>
  xl (64 + (5 * a2)) fun v16 =>
  xgd (xin (v15 + 1) 916) <|
  if (M 150 (v15 + 1).toNatClampNeg) ≤ a3 then (
    xgd (xin (v15 + 1) 916) <|
    f_X9_captureOf_42 M a1 a2 a3 a4 a5 v15 v16 (M 150 (v15 + 1).toNatClampNeg))
  else (
    f_X9_captureOf_42 M a1 a2 a3 a4 a5 v15 v16 a3)
set_option maxHeartbeats 1000000 in
theorem x_X9_captureOf {ξ : xX} {M : xM} {a1 a2 a3 a4 a5 : Int32} {z : Int32} (h : f_X9_captureOf M a1 a2 a3 a4 a5 = some z) : X ξ mX9_captureOf 0 [.ref 149, .int a1, .int a2, .int a3, .int a4, .int a5] [] SH M 0 0 (xr (some (.int z)) SH M) := by
  rw [f_X9_captureOf] at h
  refine X_bipush 24 dX9_captureOf_0 rfl ?_
  refine X_iconst 5 dX9_captureOf_2 rfl ?_
  refine X_iload_n (x := a1) dX9_captureOf_3 rfl ?_
  refine X_imul dX9_captureOf_4 ?_
  refine X_iadd dX9_captureOf_5 ?_
  refine X_istoreL (fun v15 => [.ref 149, .int a1, .int a2, .int a3, .int a4, .int a5, .int v15]) dX9_captureOf_6 (Nat.le_of_ble_eq_true rfl) (Nat.le_of_ble_eq_true rfl) (xcat1_of rfl) h (fun _ => rfl) (fun v15 h => ?_)
  refine X_bipush 64 dX9_captureOf_8 rfl ?_
  refine X_iconst 5 dX9_captureOf_10 rfl ?_
  refine X_iload_n (x := a2) dX9_captureOf_11 rfl ?_
  refine X_imul dX9_captureOf_12 ?_
  refine X_iadd dX9_captureOf_13 ?_
  refine X_istoreL (fun v16 => [.ref 149, .int a1, .int a2, .int a3, .int a4, .int a5, .int v15, .int v16]) dX9_captureOf_14 (Nat.le_of_ble_eq_true rfl) (Nat.le_of_ble_eq_true rfl) (xcat1_of rfl) h (fun _ => rfl) (fun v16 h => ?_)
  refine X_iload_n (x := a3) dX9_captureOf_16 rfl ?_
  refine X_aload_n (x := 149) dX9_captureOf_17 rfl ?_
  refine X_get (v := .ref 150) kF_RX9_7 sh_149 rfl rfl dX9_captureOf_18 ?_
  refine X_iload (x := v15) dX9_captureOf_21 rfl ?_
  refine X_iconst 1 dX9_captureOf_23 rfl ?_
  refine X_iadd dX9_captureOf_24 ?_
  refine X_iald sh_150 dX9_captureOf_25 h (fun h => ?_)
  refine X_icmp_ge 33 dX9_captureOf_26 (by decide) h (fun h => ?_) (fun h => ?_)
  · refine X_aload_n (x := 149) dX9_captureOf_33 rfl ?_
    refine X_get (v := .ref 150) kF_RX9_7 sh_149 rfl rfl dX9_captureOf_34 ?_
    refine X_iload (x := v15) dX9_captureOf_37 rfl ?_
    refine X_iconst 1 dX9_captureOf_39 rfl ?_
    refine X_iadd dX9_captureOf_40 ?_
    refine X_iald sh_150 dX9_captureOf_41 h (fun h => ?_)
    exact x_X9_captureOf_42 h
  · refine X_iload_n (x := a3) dX9_captureOf_29 rfl ?_
    refine X_goto 42 dX9_captureOf_30 (by decide) ?_
    exact x_X9_captureOf_42 h
def f_X9_timeOf (M : xM) (a1 a2 : Int32) : Option Int32 :=
  xl (24 + (5 * a1)) fun v2 =>
  xgd (xin (v2 + 3) 916) <|
  xgd (xin (v2 + 1) 916) <|
  if a2 = 0 then none else
  some (((((M 150 (v2 + 3).toNatClampNeg) * (M 150 (v2 + 1).toNatClampNeg)) + a2) - 1) / a2)
set_option maxHeartbeats 1000000 in
theorem x_X9_timeOf {ξ : xX} {M : xM} {a1 a2 : Int32} {z : Int32} (h : f_X9_timeOf M a1 a2 = some z) : X ξ mX9_timeOf 0 [.ref 149, .int a1, .int a2] [] SH M 0 0 (xr (some (.int z)) SH M) := by
  rw [f_X9_timeOf] at h
  refine X_bipush 24 dX9_timeOf_0 rfl ?_
  refine X_iconst 5 dX9_timeOf_2 rfl ?_
  refine X_iload_n (x := a1) dX9_timeOf_3 rfl ?_
  refine X_imul dX9_timeOf_4 ?_
  refine X_iadd dX9_timeOf_5 ?_
  refine X_istoreL_n (fun v2 => [.ref 149, .int a1, .int a2, .int v2]) dX9_timeOf_6 (Nat.le_of_ble_eq_true rfl) (Nat.le_of_ble_eq_true rfl) (xcat1_of rfl) h (fun _ => rfl) (fun v2 h => ?_)
  refine X_aload_n (x := 149) dX9_timeOf_7 rfl ?_
  refine X_get (v := .ref 150) kF_RX9_7 sh_149 rfl rfl dX9_timeOf_8 ?_
  refine X_iload_n (x := v2) dX9_timeOf_11 rfl ?_
  refine X_iconst 3 dX9_timeOf_12 rfl ?_
  refine X_iadd dX9_timeOf_13 ?_
  refine X_iald sh_150 dX9_timeOf_14 h (fun h => ?_)
  refine X_aload_n (x := 149) dX9_timeOf_15 rfl ?_
  refine X_get (v := .ref 150) kF_RX9_7 sh_149 rfl rfl dX9_timeOf_16 ?_
  refine X_iload_n (x := v2) dX9_timeOf_19 rfl ?_
  refine X_iconst 1 dX9_timeOf_20 rfl ?_
  refine X_iadd dX9_timeOf_21 ?_
  refine X_iald sh_150 dX9_timeOf_22 h (fun h => ?_)
  refine X_imul dX9_timeOf_23 ?_
  refine X_iload_n (x := a2) dX9_timeOf_24 rfl ?_
  refine X_iadd dX9_timeOf_25 ?_
  refine X_iconst 1 dX9_timeOf_26 rfl ?_
  refine X_isub dX9_timeOf_27 ?_
  refine X_iload_n (x := a2) dX9_timeOf_28 rfl ?_
  refine X_idivG dX9_timeOf_29 h (fun h => ?_)
  exact X_retP dX9_timeOf_30 rfl (Nat.le_refl _) (Nat.le_refl _) h
def f_X9_playsFor (M : xM) (a1 a2 : Int32) : Option Int32 :=
  xgd (xin ((24 + (5 * a1)) + 1) 916) <|
  if a2 ≤ (M 150 ((24 + (5 * a1)) + 1).toNatClampNeg) then (
    some 1)
  else (
    some 2)
set_option maxHeartbeats 1000000 in
theorem x_X9_playsFor {ξ : xX} {M : xM} {a1 a2 : Int32} {z : Int32} (h : f_X9_playsFor M a1 a2 = some z) : X ξ mX9_playsFor 0 [.ref 149, .int a1, .int a2] [] SH M 0 0 (xr (some (.int z)) SH M) := by
  rw [f_X9_playsFor] at h
  refine X_iload_n (x := a2) dX9_playsFor_0 rfl ?_
  refine X_aload_n (x := 149) dX9_playsFor_1 rfl ?_
  refine X_get (v := .ref 150) kF_RX9_7 sh_149 rfl rfl dX9_playsFor_2 ?_
  refine X_bipush 24 dX9_playsFor_5 rfl ?_
  refine X_iconst 5 dX9_playsFor_7 rfl ?_
  refine X_iload_n (x := a1) dX9_playsFor_8 rfl ?_
  refine X_imul dX9_playsFor_9 ?_
  refine X_iadd dX9_playsFor_10 ?_
  refine X_iconst 1 dX9_playsFor_11 rfl ?_
  refine X_iadd dX9_playsFor_12 ?_
  refine X_iald sh_150 dX9_playsFor_13 h (fun h => ?_)
  refine X_icmp_le 21 dX9_playsFor_14 (by decide) h (fun h => ?_) (fun h => ?_)
  · refine X_iconst 1 dX9_playsFor_21 rfl ?_
    exact X_retP dX9_playsFor_22 rfl (Nat.le_refl _) (Nat.le_refl _) h
  · refine X_iconst 2 dX9_playsFor_17 rfl ?_
    refine X_goto 22 dX9_playsFor_18 (by decide) ?_
    exact X_retP dX9_playsFor_22 rfl (Nat.le_refl _) (Nat.le_refl _) h
def f_X9_hears_75 (k6 : xM → Int32 → Int32 → Int32 → Int32 → Int32 → Int32 → Option (Int32 × xM)) (M : xM) (i1 : Int32) (i2 : Int32) (i3 : Int32) (i4 : Int32) (i5 : Int32) (i6 : Int32) (s0 : Int32) : Option (Int32 × xM) :=
  xl s0 fun v5 =>
  xl (i6 + 1) fun v6 =>
  k6 M i1 i2 i3 i4 v5 v6
set_option maxHeartbeats 1000000 in
theorem x_X9_hears_75 {ξ : xX} {M : xM} {k6 : xM → Int32 → Int32 → Int32 → Int32 → Int32 → Int32 → Option (Int32 × xM)} {i1 : Int32} {i2 : Int32} {i3 : Int32} {i4 : Int32} {i5 : Int32} {i6 : Int32} {s0 : Int32} (hk6 : ∀ (M : xM) (j1 j2 j3 j4 j5 j6 : Int32) (z : (Int32 × xM)), k6 M j1 j2 j3 j4 j5 j6 = some z → X ξ mX9_hears 6 [.ref 149, .int j1, .int j2, .int j3, .int j4, .int j5, .int j6] [] SH M 0 0 (xr (some (.int z.1)) SH z.2)) {z : (Int32 × xM)} (h : f_X9_hears_75 k6 M i1 i2 i3 i4 i5 i6 s0 = some z) : X ξ mX9_hears 75 [.ref 149, .int i1, .int i2, .int i3, .int i4, .int i5, .int i6] [.int s0] SH M 0 0 (xr (some (.int z.1)) SH z.2) := by
  rw [f_X9_hears_75] at h
  refine X_istoreL (fun v5 => [.ref 149, .int i1, .int i2, .int i3, .int i4, .int v5, .int i6]) dX9_hears_75 (Nat.le_of_ble_eq_true rfl) (Nat.le_of_ble_eq_true rfl) (xcat1_of rfl) h (fun _ => rfl) (fun v5 h => ?_)
  refine X_iincL (x := i6) 1 (fun v6 => [.ref 149, .int i1, .int i2, .int i3, .int i4, .int v5, .int v6]) dX9_hears_77 rfl rfl (Nat.le_of_ble_eq_true rfl) (xcat1_of rfl) h (fun _ => rfl) (fun v6 h => ?_)
  refine X_goto 6 dX9_hears_80 (by decide) ?_
  exact hk6 _ _ _ _ _ _ _ _ h
def f_X9_hears_70 (k6 : xM → Int32 → Int32 → Int32 → Int32 → Int32 → Int32 → Option (Int32 × xM)) (M : xM) (i1 : Int32) (i2 : Int32) (i3 : Int32) (i4 : Int32) (i5 : Int32) (i6 : Int32) : Option (Int32 × xM) :=
  f_X9_hears_75 k6 M i1 i2 i3 i4 i5 i6 1
set_option maxHeartbeats 1000000 in
theorem x_X9_hears_70 {ξ : xX} {M : xM} {k6 : xM → Int32 → Int32 → Int32 → Int32 → Int32 → Int32 → Option (Int32 × xM)} {i1 : Int32} {i2 : Int32} {i3 : Int32} {i4 : Int32} {i5 : Int32} {i6 : Int32} (hk6 : ∀ (M : xM) (j1 j2 j3 j4 j5 j6 : Int32) (z : (Int32 × xM)), k6 M j1 j2 j3 j4 j5 j6 = some z → X ξ mX9_hears 6 [.ref 149, .int j1, .int j2, .int j3, .int j4, .int j5, .int j6] [] SH M 0 0 (xr (some (.int z.1)) SH z.2)) {z : (Int32 × xM)} (h : f_X9_hears_70 k6 M i1 i2 i3 i4 i5 i6 = some z) : X ξ mX9_hears 70 [.ref 149, .int i1, .int i2, .int i3, .int i4, .int i5, .int i6] [] SH M 0 0 (xr (some (.int z.1)) SH z.2) := by
  rw [f_X9_hears_70] at h
  refine X_iconst 1 dX9_hears_70 rfl ?_
  refine X_goto 75 dX9_hears_71 (by decide) ?_
  exact x_X9_hears_75 hk6 h
def f_X9_hears_54 (k6 : xM → Int32 → Int32 → Int32 → Int32 → Int32 → Int32 → Option (Int32 × xM)) (M : xM) (i1 : Int32) (i2 : Int32) (i3 : Int32) (i4 : Int32) (i5 : Int32) (i6 : Int32) (s1 : Int32) (s2 : Int32) : Option (Int32 × xM) :=
  xgd (xin s1 4) <| xl (xw M 157 s1.toNatClampNeg s2) fun M7 =>
  if i5 = 0 then (
    xgd (xin i6 4) <|
    if (M7 157 i6.toNatClampNeg) ≤ 0 then (
      f_X9_hears_75 k6 M7 i1 i2 i3 i4 i5 i6 0)
    else (
      f_X9_hears_70 k6 M7 i1 i2 i3 i4 i5 i6))
  else (
    f_X9_hears_70 k6 M7 i1 i2 i3 i4 i5 i6)
set_option maxHeartbeats 1000000 in
theorem x_X9_hears_54 {ξ : xX} {M : xM} {k6 : xM → Int32 → Int32 → Int32 → Int32 → Int32 → Int32 → Option (Int32 × xM)} {i1 : Int32} {i2 : Int32} {i3 : Int32} {i4 : Int32} {i5 : Int32} {i6 : Int32} {s1 : Int32} {s2 : Int32} (hk6 : ∀ (M : xM) (j1 j2 j3 j4 j5 j6 : Int32) (z : (Int32 × xM)), k6 M j1 j2 j3 j4 j5 j6 = some z → X ξ mX9_hears 6 [.ref 149, .int j1, .int j2, .int j3, .int j4, .int j5, .int j6] [] SH M 0 0 (xr (some (.int z.1)) SH z.2)) {z : (Int32 × xM)} (h : f_X9_hears_54 k6 M i1 i2 i3 i4 i5 i6 s1 s2 = some z) : X ξ mX9_hears 54 [.ref 149, .int i1, .int i2, .int i3, .int i4, .int i5, .int i6] [.int s2, .int s1, .ref 157] SH M 0 0 (xr (some (.int z.1)) SH z.2) := by
  rw [f_X9_hears_54] at h
  refine X_iast sh_157 dX9_hears_54 h (fun M7 h => ?_)
  refine X_iload (x := i5) dX9_hears_55 rfl ?_
  refine X_if_ne 70 dX9_hears_57 (by decide) h (fun h => ?_) (fun h => ?_)
  · exact x_X9_hears_70 hk6 h
  · refine X_aload_n (x := 149) dX9_hears_60 rfl ?_
    refine X_get (v := .ref 157) kF_RX9_32 sh_149 rfl rfl dX9_hears_61 ?_
    refine X_iload (x := i6) dX9_hears_64 rfl ?_
    refine X_iald sh_157 dX9_hears_66 h (fun h => ?_)
    refine X_if_le 74 dX9_hears_67 (by decide) h (fun h => ?_) (fun h => ?_)
    · refine X_iconst 0 dX9_hears_74 rfl ?_
      exact x_X9_hears_75 hk6 h
    · exact x_X9_hears_70 hk6 h
def f_X9_hears_6 : Nat → xM → Int32 → Int32 → Int32 → Int32 → Int32 → Int32 → Option (Int32 × xM)
  | 0, _, _, _, _, _, _, _ => none
  | fu + 1, M, i1, i2, i3, i4, i5, i6 =>
    if 4 ≤ i6 then (
      xgd (xz i5) (some (i5, M)))
    else (
      xgd (xin ((24 + (5 * i1)) + 2) 916) <|
      xb (f_X9_tracksOf (M 150 ((24 + (5 * i1)) + 2).toNatClampNeg)) fun v8 =>
      if v8 ≤ i6 then (
        f_X9_hears_54 (f_X9_hears_6 fu) M i1 i2 i3 i4 i5 i6 i6 0)
      else (
        xb (f_X9_captureOf M i1 i2 i3 i4 i6) fun v9 =>
        f_X9_hears_54 (f_X9_hears_6 fu) M i1 i2 i3 i4 i5 i6 i6 v9))
set_option maxHeartbeats 1000000 in
theorem x_X9_hears_6 {ξ : xX} : ∀ (fu : Nat) (M : xM) (i1 i2 i3 i4 i5 i6 : Int32) (z : (Int32 × xM)), f_X9_hears_6 fu M i1 i2 i3 i4 i5 i6 = some z → X ξ mX9_hears 6 [.ref 149, .int i1, .int i2, .int i3, .int i4, .int i5, .int i6] [] SH M 0 0 (xr (some (.int z.1)) SH z.2) := by
  intro fu
  induction fu with
  | zero => intro M i1 i2 i3 i4 i5 i6 z h; rw [f_X9_hears_6] at h; cases h
  | succ fu ih =>
    intro M i1 i2 i3 i4 i5 i6 z h
    rw [f_X9_hears_6] at h
    refine X_iload (x := i6) dX9_hears_6 rfl ?_
    refine X_iconst 4 dX9_hears_8 rfl ?_
    refine X_icmp_ge 83 dX9_hears_9 (by decide) h (fun h => ?_) (fun h => ?_)
    · refine X_iload (x := i5) dX9_hears_83 rfl ?_
      exact X_retZI dX9_hears_85 rfl (Nat.le_refl _) (Nat.le_refl _) h
    · refine X_aload_n (x := 149) dX9_hears_12 rfl ?_
      refine X_get (v := .ref 157) kF_RX9_32 sh_149 rfl rfl dX9_hears_13 ?_
      refine X_iload (x := i6) dX9_hears_16 rfl ?_
      refine X_iload (x := i6) dX9_hears_18 rfl ?_
      refine X_aload_n (x := 149) dX9_hears_20 rfl ?_
      refine X_get (v := .ref 150) kF_RX9_7 sh_149 rfl rfl dX9_hears_21 ?_
      refine X_bipush 24 dX9_hears_24 rfl ?_
      refine X_iconst 5 dX9_hears_26 rfl ?_
      refine X_iload_n (x := i1) dX9_hears_27 rfl ?_
      refine X_imul dX9_hears_28 ?_
      refine X_iadd dX9_hears_29 ?_
      refine X_iconst 2 dX9_hears_30 rfl ?_
      refine X_iadd dX9_hears_31 ?_
      refine X_iald sh_150 dX9_hears_32 h (fun h => ?_)
      refine X_sP (μ' := mX9_tracksOf) [.int (M 150 ((24 + (5 * i1)) + 2).toNatClampNeg)] [.int i6, .int i6, .ref 157] kL_RX9_57 kM_X9_tracksOf rfl rfl rfl dX9_hears_33 h (fun _ hv => x_X9_tracksOf hv) (fun v8 h => ?_)
      refine X_icmp_ge 53 dX9_hears_36 (by decide) h (fun h => ?_) (fun h => ?_)
      · refine X_iconst 0 dX9_hears_53 rfl ?_
        exact x_X9_hears_54 ih h
      · refine X_aload_n (x := 149) dX9_hears_39 rfl ?_
        refine X_iload_n (x := i1) dX9_hears_40 rfl ?_
        refine X_iload_n (x := i2) dX9_hears_41 rfl ?_
        refine X_iload_n (x := i3) dX9_hears_42 rfl ?_
        refine X_iload (x := i4) dX9_hears_43 rfl ?_
        refine X_iload (x := i6) dX9_hears_45 rfl ?_
        refine X_vP (μ' := mX9_captureOf) [.int i1, .int i2, .int i3, .int i4, .int i6] [.int i6, .ref 157] kL_RX9_89 kM_X9_captureOf rv_149 rfl rfl rfl dX9_hears_47 h (fun _ hv => x_X9_captureOf hv) (fun v9 h => ?_)
        refine X_goto 54 dX9_hears_50 (by decide) ?_
        exact x_X9_hears_54 ih h
def f_X9_hears (M : xM) (a1 a2 a3 a4 : Int32) : Option (Int32 × xM) :=
  xl (0 : Int32) fun v10 =>
  xl (0 : Int32) fun v11 =>
  f_X9_hears_6 xFU M a1 a2 a3 a4 v10 v11
set_option maxHeartbeats 1000000 in
theorem x_X9_hears {ξ : xX} {M : xM} {a1 a2 a3 a4 : Int32} {z : (Int32 × xM)} (h : f_X9_hears M a1 a2 a3 a4 = some z) : X ξ mX9_hears 0 [.ref 149, .int a1, .int a2, .int a3, .int a4] [] SH M 0 0 (xr (some (.int z.1)) SH z.2) := by
  rw [f_X9_hears] at h
  refine X_iconst 0 dX9_hears_0 rfl ?_
  refine X_istoreL (fun v10 => [.ref 149, .int a1, .int a2, .int a3, .int a4, .int v10]) dX9_hears_1 (Nat.le_of_ble_eq_true rfl) (Nat.le_of_ble_eq_true rfl) (xcat1_of rfl) h (fun _ => rfl) (fun v10 h => ?_)
  refine X_iconst 0 dX9_hears_3 rfl ?_
  refine X_istoreL (fun v11 => [.ref 149, .int a1, .int a2, .int a3, .int a4, .int v10, .int v11]) dX9_hears_4 (Nat.le_of_ble_eq_true rfl) (Nat.le_of_ble_eq_true rfl) (xcat1_of rfl) h (fun _ => rfl) (fun v11 h => ?_)
  exact x_X9_hears_6 _ _ _ _ _ _ _ _ _ h
def f_X9_reasonAgainst (M : xM) (a1 a2 a3 a4 : Int32) : Option (Int32 × xM) :=
  xl (24 + (5 * a1)) fun v3 =>
  xl (64 + (5 * a2)) fun v4 =>
  xgd (xin v3 916) <|
  xgd (xin v4 916) <|
  if (M 150 v3.toNatClampNeg) = (M 150 v4.toNatClampNeg) then (
    xgd (xin (v3 + 4) 916) <|
    xb (f_X9_playsFor M a1 a3) fun v5 =>
    if v5 ≤ (M 150 (v3 + 4).toNatClampNeg) then (
      xgd (xin (v4 + 4) 916) <|
      xb (f_X9_timeOf M a1 a3) fun v6 =>
      if v6 ≤ (M 150 (v4 + 4).toNatClampNeg) then (
        xb2 (f_X9_hears M a1 a2 a3 a4) fun v7 M8 =>
        if v7 = 0 then (
          some (4, M8))
        else (
          xgd (xin 4 916) <|
          if (M8 150 (4 : Int32).toNatClampNeg) = 24 then (
            some (5, M8))
          else (
            some (0, M8))))
      else (
        some (3, M)))
    else (
      some (2, M)))
  else (
    some (1, M))
set_option maxHeartbeats 1000000 in
theorem x_X9_reasonAgainst {ξ : xX} {M : xM} {a1 a2 a3 a4 : Int32} {z : (Int32 × xM)} (h : f_X9_reasonAgainst M a1 a2 a3 a4 = some z) : X ξ mX9_reasonAgainst 0 [.ref 149, .int a1, .int a2, .int a3, .int a4] [] SH M 0 0 (xr (some (.int z.1)) SH z.2) := by
  rw [f_X9_reasonAgainst] at h
  refine X_bipush 24 dX9_reasonAgainst_0 rfl ?_
  refine X_iconst 5 dX9_reasonAgainst_2 rfl ?_
  refine X_iload_n (x := a1) dX9_reasonAgainst_3 rfl ?_
  refine X_imul dX9_reasonAgainst_4 ?_
  refine X_iadd dX9_reasonAgainst_5 ?_
  refine X_istoreL (fun v3 => [.ref 149, .int a1, .int a2, .int a3, .int a4, .int v3]) dX9_reasonAgainst_6 (Nat.le_of_ble_eq_true rfl) (Nat.le_of_ble_eq_true rfl) (xcat1_of rfl) h (fun _ => rfl) (fun v3 h => ?_)
  refine X_bipush 64 dX9_reasonAgainst_8 rfl ?_
  refine X_iconst 5 dX9_reasonAgainst_10 rfl ?_
  refine X_iload_n (x := a2) dX9_reasonAgainst_11 rfl ?_
  refine X_imul dX9_reasonAgainst_12 ?_
  refine X_iadd dX9_reasonAgainst_13 ?_
  refine X_istoreL (fun v4 => [.ref 149, .int a1, .int a2, .int a3, .int a4, .int v3, .int v4]) dX9_reasonAgainst_14 (Nat.le_of_ble_eq_true rfl) (Nat.le_of_ble_eq_true rfl) (xcat1_of rfl) h (fun _ => rfl) (fun v4 h => ?_)
  refine X_aload_n (x := 149) dX9_reasonAgainst_16 rfl ?_
  refine X_get (v := .ref 150) kF_RX9_7 sh_149 rfl rfl dX9_reasonAgainst_17 ?_
  refine X_iload (x := v3) dX9_reasonAgainst_20 rfl ?_
  refine X_iald sh_150 dX9_reasonAgainst_22 h (fun h => ?_)
  refine X_aload_n (x := 149) dX9_reasonAgainst_23 rfl ?_
  refine X_get (v := .ref 150) kF_RX9_7 sh_149 rfl rfl dX9_reasonAgainst_24 ?_
  refine X_iload (x := v4) dX9_reasonAgainst_27 rfl ?_
  refine X_iald sh_150 dX9_reasonAgainst_29 h (fun h => ?_)
  refine X_icmp_eq 35 dX9_reasonAgainst_30 (by decide) h (fun h => ?_) (fun h => ?_)
  · refine X_aload_n (x := 149) dX9_reasonAgainst_35 rfl ?_
    refine X_get (v := .ref 150) kF_RX9_7 sh_149 rfl rfl dX9_reasonAgainst_36 ?_
    refine X_iload (x := v3) dX9_reasonAgainst_39 rfl ?_
    refine X_iconst 4 dX9_reasonAgainst_41 rfl ?_
    refine X_iadd dX9_reasonAgainst_42 ?_
    refine X_iald sh_150 dX9_reasonAgainst_43 h (fun h => ?_)
    refine X_aload_n (x := 149) dX9_reasonAgainst_44 rfl ?_
    refine X_iload_n (x := a1) dX9_reasonAgainst_45 rfl ?_
    refine X_iload_n (x := a3) dX9_reasonAgainst_46 rfl ?_
    refine X_vP (μ' := mX9_playsFor) [.int a1, .int a3] [.int (M 150 (v3 + 4).toNatClampNeg)] kL_RX9_93 kM_X9_playsFor rv_149 rfl rfl rfl dX9_reasonAgainst_47 h (fun _ hv => x_X9_playsFor hv) (fun v5 h => ?_)
    refine X_icmp_ge 55 dX9_reasonAgainst_50 (by decide) h (fun h => ?_) (fun h => ?_)
    · refine X_aload_n (x := 149) dX9_reasonAgainst_55 rfl ?_
      refine X_get (v := .ref 150) kF_RX9_7 sh_149 rfl rfl dX9_reasonAgainst_56 ?_
      refine X_iload (x := v4) dX9_reasonAgainst_59 rfl ?_
      refine X_iconst 4 dX9_reasonAgainst_61 rfl ?_
      refine X_iadd dX9_reasonAgainst_62 ?_
      refine X_iald sh_150 dX9_reasonAgainst_63 h (fun h => ?_)
      refine X_aload_n (x := 149) dX9_reasonAgainst_64 rfl ?_
      refine X_iload_n (x := a1) dX9_reasonAgainst_65 rfl ?_
      refine X_iload_n (x := a3) dX9_reasonAgainst_66 rfl ?_
      refine X_vP (μ' := mX9_timeOf) [.int a1, .int a3] [.int (M 150 (v4 + 4).toNatClampNeg)] kL_RX9_96 kM_X9_timeOf rv_149 rfl rfl rfl dX9_reasonAgainst_67 h (fun _ hv => x_X9_timeOf hv) (fun v6 h => ?_)
      refine X_icmp_ge 75 dX9_reasonAgainst_70 (by decide) h (fun h => ?_) (fun h => ?_)
      · refine X_aload_n (x := 149) dX9_reasonAgainst_75 rfl ?_
        refine X_iload_n (x := a1) dX9_reasonAgainst_76 rfl ?_
        refine X_iload_n (x := a2) dX9_reasonAgainst_77 rfl ?_
        refine X_iload_n (x := a3) dX9_reasonAgainst_78 rfl ?_
        refine X_iload (x := a4) dX9_reasonAgainst_79 rfl ?_
        refine X_vI (μ' := mX9_hears) [.int a1, .int a2, .int a3, .int a4] [] kL_RX9_99 kM_X9_hears rv_149 rfl rfl rfl dX9_reasonAgainst_81 h (fun _ hv => x_X9_hears hv) (fun v7 M8 h => ?_)
        refine X_if_ne 91 dX9_reasonAgainst_84 (by decide) h (fun h => ?_) (fun h => ?_)
        · refine X_aload_n (x := 149) dX9_reasonAgainst_91 rfl ?_
          refine X_get (v := .ref 150) kF_RX9_7 sh_149 rfl rfl dX9_reasonAgainst_92 ?_
          refine X_iconst 4 dX9_reasonAgainst_95 rfl ?_
          refine X_iald sh_150 dX9_reasonAgainst_96 h (fun h => ?_)
          refine X_bipush 24 dX9_reasonAgainst_97 rfl ?_
          refine X_icmp_ne 106 dX9_reasonAgainst_99 (by decide) h (fun h => ?_) (fun h => ?_)
          · refine X_iconst 0 dX9_reasonAgainst_106 rfl ?_
            exact X_retI dX9_reasonAgainst_107 rfl (Nat.le_refl _) (Nat.le_refl _) h
          · refine X_iconst 5 dX9_reasonAgainst_102 rfl ?_
            refine X_goto 107 dX9_reasonAgainst_103 (by decide) ?_
            exact X_retI dX9_reasonAgainst_107 rfl (Nat.le_refl _) (Nat.le_refl _) h
        · refine X_iconst 4 dX9_reasonAgainst_87 rfl ?_
          refine X_goto 107 dX9_reasonAgainst_88 (by decide) ?_
          exact X_retI dX9_reasonAgainst_107 rfl (Nat.le_refl _) (Nat.le_refl _) h
      · refine X_iconst 3 dX9_reasonAgainst_73 rfl ?_
        exact X_retI dX9_reasonAgainst_74 rfl (Nat.le_refl _) (Nat.le_refl _) h
    · refine X_iconst 2 dX9_reasonAgainst_53 rfl ?_
      exact X_retI dX9_reasonAgainst_54 rfl (Nat.le_refl _) (Nat.le_refl _) h
  · refine X_iconst 1 dX9_reasonAgainst_33 rfl ?_
    exact X_retI dX9_reasonAgainst_34 rfl (Nat.le_refl _) (Nat.le_refl _) h
def f_X9_errorOf (M : xM) (a1 a2 a3 a4 : Int32) : Option Int32 :=
  xb (f_X9_isOne M 1 a1) fun v1 =>
  if v1 = 0 then (
    some (-1))
  else (
    xb (f_X9_isOne M 2 a2) fun v2 =>
    if v2 = 0 then (
      some (-1))
    else (
      xb (f_X9_hasSpeed M a2 a3) fun v3 =>
      if v3 = 0 then (
        some (-2))
      else (
        xb (f_X9_in a4 0 1) fun v4 =>
        if v4 = 0 then (
          some (-2))
        else (
          some 0))))
set_option maxHeartbeats 1000000 in
theorem x_X9_errorOf {ξ : xX} {M : xM} {a1 a2 a3 a4 : Int32} {z : Int32} (h : f_X9_errorOf M a1 a2 a3 a4 = some z) : X ξ mX9_errorOf 0 [.ref 149, .int a1, .int a2, .int a3, .int a4] [] SH M 0 0 (xr (some (.int z)) SH M) := by
  rw [f_X9_errorOf] at h
  refine X_aload_n (x := 149) dX9_errorOf_0 rfl ?_
  refine X_iconst 1 dX9_errorOf_1 rfl ?_
  refine X_iload_n (x := a1) dX9_errorOf_2 rfl ?_
  refine X_vP (μ' := mX9_isOne) [.int 1, .int a1] [] kL_RX9_64 kM_X9_isOne rv_149 rfl rfl rfl dX9_errorOf_3 h (fun _ hv => x_X9_isOne hv) (fun v1 h => ?_)
  refine X_if_eq 18 dX9_errorOf_6 (by decide) h (fun h => ?_) (fun h => ?_)
  · refine X_iconst (-1) dX9_errorOf_18 rfl ?_
    exact X_retP dX9_errorOf_19 rfl (Nat.le_refl _) (Nat.le_refl _) h
  · refine X_aload_n (x := 149) dX9_errorOf_9 rfl ?_
    refine X_iconst 2 dX9_errorOf_10 rfl ?_
    refine X_iload_n (x := a2) dX9_errorOf_11 rfl ?_
    refine X_vP (μ' := mX9_isOne) [.int 2, .int a2] [] kL_RX9_64 kM_X9_isOne rv_149 rfl rfl rfl dX9_errorOf_12 h (fun _ hv => x_X9_isOne hv) (fun v2 h => ?_)
    refine X_if_ne 20 dX9_errorOf_15 (by decide) h (fun h => ?_) (fun h => ?_)
    · refine X_aload_n (x := 149) dX9_errorOf_20 rfl ?_
      refine X_iload_n (x := a2) dX9_errorOf_21 rfl ?_
      refine X_iload_n (x := a3) dX9_errorOf_22 rfl ?_
      refine X_vP (μ' := mX9_hasSpeed) [.int a2, .int a3] [] kL_RX9_103 kM_X9_hasSpeed rv_149 rfl rfl rfl dX9_errorOf_23 h (fun _ hv => x_X9_hasSpeed hv) (fun v3 h => ?_)
      refine X_if_eq 43 dX9_errorOf_26 (by decide) h (fun h => ?_) (fun h => ?_)
      · refine X_bipush (-2) dX9_errorOf_43 rfl ?_
        exact X_retP dX9_errorOf_45 rfl (Nat.le_refl _) (Nat.le_refl _) h
      · refine X_iload (x := a4) dX9_errorOf_29 rfl ?_
        refine X_iconst 0 dX9_errorOf_31 rfl ?_
        refine X_iconst 1 dX9_errorOf_32 rfl ?_
        refine X_sP (μ' := mX9_in) [.int a4, .int 0, .int 1] [] kL_RX9_42 kM_X9_in rfl rfl rfl dX9_errorOf_33 h (fun _ hv => x_X9_in hv) (fun v4 h => ?_)
        refine X_if_eq 43 dX9_errorOf_36 (by decide) h (fun h => ?_) (fun h => ?_)
        · refine X_bipush (-2) dX9_errorOf_43 rfl ?_
          exact X_retP dX9_errorOf_45 rfl (Nat.le_refl _) (Nat.le_refl _) h
        · refine X_iconst 0 dX9_errorOf_39 rfl ?_
          refine X_goto 45 dX9_errorOf_40 (by decide) ?_
          exact X_retP dX9_errorOf_45 rfl (Nat.le_refl _) (Nat.le_refl _) h
    · refine X_iconst (-1) dX9_errorOf_18 rfl ?_
      exact X_retP dX9_errorOf_19 rfl (Nat.le_refl _) (Nat.le_refl _) h
def f_X9_plays_128 : Nat → xM → Int32 → Int32 → Int32 → Int32 → Int32 → Int32 → Int32 → Int32 → Int32 → Option (Int32 × xM)
  | 0, _, _, _, _, _, _, _, _, _, _ => none
  | fu + 1, M, i1, i2, i3, i4, i5, i6, i7, i8, i9 =>
    if 4 ≤ i9 then (
      xgd (xin ((24 + (5 * i1)) + 4) 916) <|
      xb (f_X9_playsFor M i1 i3) fun v6 =>
      xgd (xin ((24 + (5 * i1)) + 4) 916) <| xl (xw M 150 ((24 + (5 * i1)) + 4).toNatClampNeg ((M 150 ((24 + (5 * i1)) + 4).toNatClampNeg) - v6)) fun M7 =>
      xgd (xin ((64 + (5 * i2)) + 4) 916) <|
      xb (f_X9_timeOf M7 i1 i3) fun v8 =>
      xgd (xin ((64 + (5 * i2)) + 4) 916) <| xl (xw M7 150 ((64 + (5 * i2)) + 4).toNatClampNeg ((M7 150 ((64 + (5 * i2)) + 4).toNatClampNeg) - v8)) fun M9 =>
      xgd (xin 7 916) <| xl (xw M9 150 (7 : Int32).toNatClampNeg 0) fun M10 =>
      xgd (xin 4 916) <|
      xgd (xin 4 916) <| xl (xw M10 150 (4 : Int32).toNatClampNeg ((M10 150 (4 : Int32).toNatClampNeg) + 1)) fun M11 =>
      xgd (xin 4 916) <|
      some (((M11 150 (4 : Int32).toNatClampNeg) - 1), M11))
    else (
      xgd (xin i9 4) <|
      xgd (xin ((i8 + 5) + i9) 916) <| xl (xw M 150 ((i8 + 5) + i9).toNatClampNeg (M 157 i9.toNatClampNeg)) fun M12 =>
      xl (i9 + 1) fun v13 =>
      (f_X9_plays_128 fu) M12 i1 i2 i3 i4 i5 i6 i7 i8 v13)
set_option maxHeartbeats 1000000 in
theorem x_X9_plays_128 {ξ : xX} : ∀ (fu : Nat) (M : xM) (i1 i2 i3 i4 i5 i6 i7 i8 i9 : Int32) (z : (Int32 × xM)), f_X9_plays_128 fu M i1 i2 i3 i4 i5 i6 i7 i8 i9 = some z → X ξ mX9_plays 128 [.ref 149, .int i1, .int i2, .int i3, .int i4, .int i5, .int i6, .int i7, .int i8, .int i9] [] SH M 0 0 (xr (some (.int z.1)) SH z.2) := by
  intro fu
  induction fu with
  | zero => intro M i1 i2 i3 i4 i5 i6 i7 i8 i9 z h; rw [f_X9_plays_128] at h; cases h
  | succ fu ih =>
    intro M i1 i2 i3 i4 i5 i6 i7 i8 i9 z h
    rw [f_X9_plays_128] at h
    refine X_iload (x := i9) dX9_plays_128 rfl ?_
    refine X_iconst 4 dX9_plays_130 rfl ?_
    refine X_icmp_ge 159 dX9_plays_131 (by decide) h (fun h => ?_) (fun h => ?_)
    · refine X_aload_n (x := 149) dX9_plays_159 rfl ?_
      refine X_get (v := .ref 150) kF_RX9_7 sh_149 rfl rfl dX9_plays_160 ?_
      refine X_bipush 24 dX9_plays_163 rfl ?_
      refine X_iconst 5 dX9_plays_165 rfl ?_
      refine X_iload_n (x := i1) dX9_plays_166 rfl ?_
      refine X_imul dX9_plays_167 ?_
      refine X_iadd dX9_plays_168 ?_
      refine X_iconst 4 dX9_plays_169 rfl ?_
      refine X_iadd dX9_plays_170 ?_
      refine X_dup2 dX9_plays_171 rfl rfl ?_
      refine X_iald sh_150 dX9_plays_172 h (fun h => ?_)
      refine X_aload_n (x := 149) dX9_plays_173 rfl ?_
      refine X_iload_n (x := i1) dX9_plays_174 rfl ?_
      refine X_iload_n (x := i3) dX9_plays_175 rfl ?_
      refine X_vP (μ' := mX9_playsFor) [.int i1, .int i3] [.int (M 150 ((24 + (5 * i1)) + 4).toNatClampNeg), .int ((24 + (5 * i1)) + 4), .ref 150] kL_RX9_93 kM_X9_playsFor rv_149 rfl rfl rfl dX9_plays_176 h (fun _ hv => x_X9_playsFor hv) (fun v6 h => ?_)
      refine X_isub dX9_plays_179 ?_
      refine X_iast sh_150 dX9_plays_180 h (fun M7 h => ?_)
      refine X_aload_n (x := 149) dX9_plays_181 rfl ?_
      refine X_get (v := .ref 150) kF_RX9_7 sh_149 rfl rfl dX9_plays_182 ?_
      refine X_bipush 64 dX9_plays_185 rfl ?_
      refine X_iconst 5 dX9_plays_187 rfl ?_
      refine X_iload_n (x := i2) dX9_plays_188 rfl ?_
      refine X_imul dX9_plays_189 ?_
      refine X_iadd dX9_plays_190 ?_
      refine X_iconst 4 dX9_plays_191 rfl ?_
      refine X_iadd dX9_plays_192 ?_
      refine X_dup2 dX9_plays_193 rfl rfl ?_
      refine X_iald sh_150 dX9_plays_194 h (fun h => ?_)
      refine X_aload_n (x := 149) dX9_plays_195 rfl ?_
      refine X_iload_n (x := i1) dX9_plays_196 rfl ?_
      refine X_iload_n (x := i3) dX9_plays_197 rfl ?_
      refine X_vP (μ' := mX9_timeOf) [.int i1, .int i3] [.int (M7 150 ((64 + (5 * i2)) + 4).toNatClampNeg), .int ((64 + (5 * i2)) + 4), .ref 150] kL_RX9_96 kM_X9_timeOf rv_149 rfl rfl rfl dX9_plays_198 h (fun _ hv => x_X9_timeOf hv) (fun v8 h => ?_)
      refine X_isub dX9_plays_201 ?_
      refine X_iast sh_150 dX9_plays_202 h (fun M9 h => ?_)
      refine X_aload_n (x := 149) dX9_plays_203 rfl ?_
      refine X_get (v := .ref 150) kF_RX9_7 sh_149 rfl rfl dX9_plays_204 ?_
      refine X_bipush 7 dX9_plays_207 rfl ?_
      refine X_iconst 0 dX9_plays_209 rfl ?_
      refine X_iast sh_150 dX9_plays_210 h (fun M10 h => ?_)
      refine X_aload_n (x := 149) dX9_plays_211 rfl ?_
      refine X_get (v := .ref 150) kF_RX9_7 sh_149 rfl rfl dX9_plays_212 ?_
      refine X_iconst 4 dX9_plays_215 rfl ?_
      refine X_dup2 dX9_plays_216 rfl rfl ?_
      refine X_iald sh_150 dX9_plays_217 h (fun h => ?_)
      refine X_iconst 1 dX9_plays_218 rfl ?_
      refine X_iadd dX9_plays_219 ?_
      refine X_iast sh_150 dX9_plays_220 h (fun M11 h => ?_)
      refine X_aload_n (x := 149) dX9_plays_221 rfl ?_
      refine X_get (v := .ref 150) kF_RX9_7 sh_149 rfl rfl dX9_plays_222 ?_
      refine X_iconst 4 dX9_plays_225 rfl ?_
      refine X_iald sh_150 dX9_plays_226 h (fun h => ?_)
      refine X_iconst 1 dX9_plays_227 rfl ?_
      refine X_isub dX9_plays_228 ?_
      exact X_retI dX9_plays_229 rfl (Nat.le_refl _) (Nat.le_refl _) h
    · refine X_aload_n (x := 149) dX9_plays_134 rfl ?_
      refine X_get (v := .ref 150) kF_RX9_7 sh_149 rfl rfl dX9_plays_135 ?_
      refine X_iload (x := i8) dX9_plays_138 rfl ?_
      refine X_iconst 5 dX9_plays_140 rfl ?_
      refine X_iadd dX9_plays_141 ?_
      refine X_iload (x := i9) dX9_plays_142 rfl ?_
      refine X_iadd dX9_plays_144 ?_
      refine X_aload_n (x := 149) dX9_plays_145 rfl ?_
      refine X_get (v := .ref 157) kF_RX9_32 sh_149 rfl rfl dX9_plays_146 ?_
      refine X_iload (x := i9) dX9_plays_149 rfl ?_
      refine X_iald sh_157 dX9_plays_151 h (fun h => ?_)
      refine X_iast sh_150 dX9_plays_152 h (fun M12 h => ?_)
      refine X_iincL (x := i9) 1 (fun v13 => [.ref 149, .int i1, .int i2, .int i3, .int i4, .int i5, .int i6, .int i7, .int i8, .int v13]) dX9_plays_153 rfl rfl (Nat.le_of_ble_eq_true rfl) (xcat1_of rfl) h (fun _ => rfl) (fun v13 h => ?_)
      refine X_goto 128 dX9_plays_156 (by decide) ?_
      exact ih _ _ _ _ _ _ _ _ _ _ _ h
def f_X9_plays_56 (M : xM) (i1 : Int32) (i2 : Int32) (i3 : Int32) (i4 : Int32) (i5 : Int32) (i6 : Int32) (i7 : Int32) : Option (Int32 × xM) :=
  xgd (xin 4 916) <|
  xl (420 + (9 * (M 150 (4 : Int32).toNatClampNeg))) fun v14 =>
  xgd (xin v14 916) <| xl (xw M 150 v14.toNatClampNeg i1) fun M15 =>
  xgd (xin (v14 + 1) 916) <| xl (xw M15 150 (v14 + 1).toNatClampNeg i2) fun M16 =>
  xgd (xin (v14 + 2) 916) <| xl (xw M16 150 (v14 + 2).toNatClampNeg i3) fun M17 =>
  xgd (xin (v14 + 3) 916) <| xl (xw M17 150 (v14 + 3).toNatClampNeg i4) fun M18 =>
  xgd (xin 0 916) <|
  xgd (xin (v14 + 4) 916) <| xl (xw M18 150 (v14 + 4).toNatClampNeg (M18 150 (0 : Int32).toNatClampNeg)) fun M19 =>
  xl (0 : Int32) fun v20 =>
  f_X9_plays_128 xFU M19 i1 i2 i3 i4 i5 i6 i7 v14 v20
set_option maxHeartbeats 1000000 in
theorem x_X9_plays_56 {ξ : xX} {M : xM} {i1 : Int32} {i2 : Int32} {i3 : Int32} {i4 : Int32} {i5 : Int32} {i6 : Int32} {i7 : Int32} {z : (Int32 × xM)} (h : f_X9_plays_56 M i1 i2 i3 i4 i5 i6 i7 = some z) : X ξ mX9_plays 56 [.ref 149, .int i1, .int i2, .int i3, .int i4, .int i5, .int i6, .int i7] [] SH M 0 0 (xr (some (.int z.1)) SH z.2) := by
  rw [f_X9_plays_56] at h
  refine X_sipush 420 dX9_plays_56 rfl ?_
  refine X_bipush 9 dX9_plays_59 rfl ?_
  refine X_aload_n (x := 149) dX9_plays_61 rfl ?_
  refine X_get (v := .ref 150) kF_RX9_7 sh_149 rfl rfl dX9_plays_62 ?_
  refine X_iconst 4 dX9_plays_65 rfl ?_
  refine X_iald sh_150 dX9_plays_66 h (fun h => ?_)
  refine X_imul dX9_plays_67 ?_
  refine X_iadd dX9_plays_68 ?_
  refine X_istoreL (fun v14 => [.ref 149, .int i1, .int i2, .int i3, .int i4, .int i5, .int i6, .int i7, .int v14]) dX9_plays_69 (Nat.le_of_ble_eq_true rfl) (Nat.le_of_ble_eq_true rfl) (xcat1_of rfl) h (fun _ => rfl) (fun v14 h => ?_)
  refine X_aload_n (x := 149) dX9_plays_71 rfl ?_
  refine X_get (v := .ref 150) kF_RX9_7 sh_149 rfl rfl dX9_plays_72 ?_
  refine X_iload (x := v14) dX9_plays_75 rfl ?_
  refine X_iload_n (x := i1) dX9_plays_77 rfl ?_
  refine X_iast sh_150 dX9_plays_78 h (fun M15 h => ?_)
  refine X_aload_n (x := 149) dX9_plays_79 rfl ?_
  refine X_get (v := .ref 150) kF_RX9_7 sh_149 rfl rfl dX9_plays_80 ?_
  refine X_iload (x := v14) dX9_plays_83 rfl ?_
  refine X_iconst 1 dX9_plays_85 rfl ?_
  refine X_iadd dX9_plays_86 ?_
  refine X_iload_n (x := i2) dX9_plays_87 rfl ?_
  refine X_iast sh_150 dX9_plays_88 h (fun M16 h => ?_)
  refine X_aload_n (x := 149) dX9_plays_89 rfl ?_
  refine X_get (v := .ref 150) kF_RX9_7 sh_149 rfl rfl dX9_plays_90 ?_
  refine X_iload (x := v14) dX9_plays_93 rfl ?_
  refine X_iconst 2 dX9_plays_95 rfl ?_
  refine X_iadd dX9_plays_96 ?_
  refine X_iload_n (x := i3) dX9_plays_97 rfl ?_
  refine X_iast sh_150 dX9_plays_98 h (fun M17 h => ?_)
  refine X_aload_n (x := 149) dX9_plays_99 rfl ?_
  refine X_get (v := .ref 150) kF_RX9_7 sh_149 rfl rfl dX9_plays_100 ?_
  refine X_iload (x := v14) dX9_plays_103 rfl ?_
  refine X_iconst 3 dX9_plays_105 rfl ?_
  refine X_iadd dX9_plays_106 ?_
  refine X_iload (x := i4) dX9_plays_107 rfl ?_
  refine X_iast sh_150 dX9_plays_109 h (fun M18 h => ?_)
  refine X_aload_n (x := 149) dX9_plays_110 rfl ?_
  refine X_get (v := .ref 150) kF_RX9_7 sh_149 rfl rfl dX9_plays_111 ?_
  refine X_iload (x := v14) dX9_plays_114 rfl ?_
  refine X_iconst 4 dX9_plays_116 rfl ?_
  refine X_iadd dX9_plays_117 ?_
  refine X_aload_n (x := 149) dX9_plays_118 rfl ?_
  refine X_get (v := .ref 150) kF_RX9_7 sh_149 rfl rfl dX9_plays_119 ?_
  refine X_iconst 0 dX9_plays_122 rfl ?_
  refine X_iald sh_150 dX9_plays_123 h (fun h => ?_)
  refine X_iast sh_150 dX9_plays_124 h (fun M19 h => ?_)
  refine X_iconst 0 dX9_plays_125 rfl ?_
  refine X_istoreL (fun v20 => [.ref 149, .int i1, .int i2, .int i3, .int i4, .int i5, .int i6, .int i7, .int v14, .int v20]) dX9_plays_126 (Nat.le_of_ble_eq_true rfl) (Nat.le_of_ble_eq_true rfl) (xcat1_of rfl) h (fun _ => rfl) (fun v20 h => ?_)
  exact x_X9_plays_128 _ _ _ _ _ _ _ _ _ _ _ _ h
def f_X9_plays (M : xM) (a1 a2 a3 a4 a5 : Int32) : Option (Int32 × xM) :=
  xb (f_X9_errorOf M a1 a2 a3 a4) fun v21 =>
  xl v21 fun v22 =>
  if 0 ≤ v22 then (
    xb2 (f_X9_reasonAgainst M a1 a2 a3 a4) fun v23 M24 =>
    xl v23 fun v25 =>
    if v25 ≤ 0 then (
      if a5 = 0 then (
        f_X9_plays_56 M24 a1 a2 a3 a4 a5 v22 v25)
      else (
        xb (f_X9_record M24) fun M26 =>
        f_X9_plays_56 M26 a1 a2 a3 a4 a5 v22 v25))
    else (
      xgd (xin 7 916) <| xl (xw M24 150 (7 : Int32).toNatClampNeg v25) fun M27 =>
      some ((-5), M27)))
  else (
    some (v22, M))
set_option maxHeartbeats 1000000 in
theorem x_X9_plays {ξ : xX} {M : xM} {a1 a2 a3 a4 a5 : Int32} {z : (Int32 × xM)} (h : f_X9_plays M a1 a2 a3 a4 a5 = some z) : X ξ mX9_plays 0 [.ref 149, .int a1, .int a2, .int a3, .int a4, .int a5] [] SH M 0 0 (xr (some (.int z.1)) SH z.2) := by
  rw [f_X9_plays] at h
  refine X_aload_n (x := 149) dX9_plays_0 rfl ?_
  refine X_iload_n (x := a1) dX9_plays_1 rfl ?_
  refine X_iload_n (x := a2) dX9_plays_2 rfl ?_
  refine X_iload_n (x := a3) dX9_plays_3 rfl ?_
  refine X_iload (x := a4) dX9_plays_4 rfl ?_
  refine X_vP (μ' := mX9_errorOf) [.int a1, .int a2, .int a3, .int a4] [] kL_RX9_106 kM_X9_errorOf rv_149 rfl rfl rfl dX9_plays_6 h (fun _ hv => x_X9_errorOf hv) (fun v21 h => ?_)
  refine X_istoreL (fun v22 => [.ref 149, .int a1, .int a2, .int a3, .int a4, .int a5, .int v22]) dX9_plays_9 (Nat.le_of_ble_eq_true rfl) (Nat.le_of_ble_eq_true rfl) (xcat1_of rfl) h (fun _ => rfl) (fun v22 h => ?_)
  refine X_iload (x := v22) dX9_plays_11 rfl ?_
  refine X_if_ge 19 dX9_plays_13 (by decide) h (fun h => ?_) (fun h => ?_)
  · refine X_aload_n (x := 149) dX9_plays_19 rfl ?_
    refine X_iload_n (x := a1) dX9_plays_20 rfl ?_
    refine X_iload_n (x := a2) dX9_plays_21 rfl ?_
    refine X_iload_n (x := a3) dX9_plays_22 rfl ?_
    refine X_iload (x := a4) dX9_plays_23 rfl ?_
    refine X_vI (μ' := mX9_reasonAgainst) [.int a1, .int a2, .int a3, .int a4] [] kL_RX9_109 kM_X9_reasonAgainst rv_149 rfl rfl rfl dX9_plays_25 h (fun _ hv => x_X9_reasonAgainst hv) (fun v23 M24 h => ?_)
    refine X_istoreL (fun v25 => [.ref 149, .int a1, .int a2, .int a3, .int a4, .int a5, .int v22, .int v25]) dX9_plays_28 (Nat.le_of_ble_eq_true rfl) (Nat.le_of_ble_eq_true rfl) (xcat1_of rfl) h (fun _ => rfl) (fun v25 h => ?_)
    refine X_iload (x := v25) dX9_plays_30 rfl ?_
    refine X_if_le 47 dX9_plays_32 (by decide) h (fun h => ?_) (fun h => ?_)
    · refine X_iload (x := a5) dX9_plays_47 rfl ?_
      refine X_if_eq 56 dX9_plays_49 (by decide) h (fun h => ?_) (fun h => ?_)
      · exact x_X9_plays_56 h
      · refine X_aload_n (x := 149) dX9_plays_52 rfl ?_
        refine X_vV (μ' := mX9_record) [] [] kL_RX9_54 kM_X9_record rv_149 rfl rfl rfl dX9_plays_53 h (fun _ hv => x_X9_record hv) (fun M26 h => ?_)
        exact x_X9_plays_56 h
    · refine X_aload_n (x := 149) dX9_plays_35 rfl ?_
      refine X_get (v := .ref 150) kF_RX9_7 sh_149 rfl rfl dX9_plays_36 ?_
      refine X_bipush 7 dX9_plays_39 rfl ?_
      refine X_iload (x := v25) dX9_plays_41 rfl ?_
      refine X_iast sh_150 dX9_plays_43 h (fun M27 h => ?_)
      refine X_bipush (-5) dX9_plays_44 rfl ?_
      exact X_retI dX9_plays_46 rfl (Nat.le_refl _) (Nat.le_refl _) h
  · refine X_iload (x := v22) dX9_plays_16 rfl ?_
    exact X_retI dX9_plays_18 rfl (Nat.le_refl _) (Nat.le_refl _) h
def f_X9_transfer (M : xM) (a1 a2 a3 a4 : Int32) : Option (Int32 × xM) :=
  xb2 (f_X9_plays M a1 a2 a3 a4 1) fun v1 M2 =>
  some (v1, M2)
set_option maxHeartbeats 1000000 in
theorem x_X9_transfer {ξ : xX} {M : xM} {a1 a2 a3 a4 : Int32} {z : (Int32 × xM)} (h : f_X9_transfer M a1 a2 a3 a4 = some z) : X ξ mX9_transfer 0 [.ref 149, .int a1, .int a2, .int a3, .int a4] [] SH M 0 0 (xr (some (.int z.1)) SH z.2) := by
  rw [f_X9_transfer] at h
  refine X_aload_n (x := 149) dX9_transfer_0 rfl ?_
  refine X_iload_n (x := a1) dX9_transfer_1 rfl ?_
  refine X_iload_n (x := a2) dX9_transfer_2 rfl ?_
  refine X_iload_n (x := a3) dX9_transfer_3 rfl ?_
  refine X_iload (x := a4) dX9_transfer_4 rfl ?_
  refine X_iconst 1 dX9_transfer_6 rfl ?_
  refine X_vI (μ' := mX9_plays) [.int a1, .int a2, .int a3, .int a4, .int 1] [] kL_RX9_112 kM_X9_plays rv_149 rfl rfl rfl dX9_transfer_7 h (fun _ hv => x_X9_plays hv) (fun v1 M2 h => ?_)
  exact X_retI dX9_transfer_10 rfl (Nat.le_refl _) (Nat.le_refl _) h
def f_X9_least_43 (ct n : Nat) (M : xM) (k7 : Int32 → Int32 → Int32 → Int32 → Option Int32) (i1 : Int32) (i2 : Int32) (i3 : Int32) (i4 : Int32) (s0 : Int32) : Option Int32 :=
  xl s0 fun v5 =>
  xl (i4 + 1) fun v6 =>
  k7 i1 i2 v5 v6
set_option maxHeartbeats 1000000 in
theorem x_X9_least_43 {ξ : xX} {ct n : Nat} {M : xM} {k7 : Int32 → Int32 → Int32 → Int32 → Option Int32} {i1 : Int32} {i2 : Int32} {i3 : Int32} {i4 : Int32} {s0 : Int32} (hA : xA ct n) (hk7 : ∀ (j1 j2 j3 j4 : Int32) (z : Int32), k7 j1 j2 j3 j4 = some z → X ξ mX9_least 7 [.ref ct, .int j1, .int j2, .int j3, .int j4] [] SH M 0 0 (xr (some (.int z)) SH M)) {z : Int32} (h : f_X9_least_43 ct n M k7 i1 i2 i3 i4 s0 = some z) : X ξ mX9_least 43 [.ref ct, .int i1, .int i2, .int i3, .int i4] [.int s0] SH M 0 0 (xr (some (.int z)) SH M) := by
  rw [f_X9_least_43] at h
  refine X_istoreL_n (fun v5 => [.ref ct, .int i1, .int i2, .int v5, .int i4]) dX9_least_43 (Nat.le_of_ble_eq_true rfl) (Nat.le_of_ble_eq_true rfl) (xcat1_of rfl) h (fun _ => rfl) (fun v5 h => ?_)
  refine X_iincL (x := i4) 1 (fun v6 => [.ref ct, .int i1, .int i2, .int v5, .int v6]) dX9_least_44 rfl rfl (Nat.le_of_ble_eq_true rfl) (xcat1_of rfl) h (fun _ => rfl) (fun v6 h => ?_)
  refine X_goto 7 dX9_least_47 (by decide) ?_
  exact hk7 _ _ _ _ _ h
def f_X9_least_42 (ct n : Nat) (M : xM) (k7 : Int32 → Int32 → Int32 → Int32 → Option Int32) (i1 : Int32) (i2 : Int32) (i3 : Int32) (i4 : Int32) : Option Int32 :=
  f_X9_least_43 ct n M k7 i1 i2 i3 i4 i3
set_option maxHeartbeats 1000000 in
theorem x_X9_least_42 {ξ : xX} {ct n : Nat} {M : xM} {k7 : Int32 → Int32 → Int32 → Int32 → Option Int32} {i1 : Int32} {i2 : Int32} {i3 : Int32} {i4 : Int32} (hA : xA ct n) (hk7 : ∀ (j1 j2 j3 j4 : Int32) (z : Int32), k7 j1 j2 j3 j4 = some z → X ξ mX9_least 7 [.ref ct, .int j1, .int j2, .int j3, .int j4] [] SH M 0 0 (xr (some (.int z)) SH M)) {z : Int32} (h : f_X9_least_42 ct n M k7 i1 i2 i3 i4 = some z) : X ξ mX9_least 42 [.ref ct, .int i1, .int i2, .int i3, .int i4] [] SH M 0 0 (xr (some (.int z)) SH M) := by
  rw [f_X9_least_42] at h
  refine X_iload_n (x := i3) dX9_least_42 rfl ?_
  exact x_X9_least_43 hA hk7 h
def f_X9_least_7 (ct n : Nat) (M : xM) : Nat → Int32 → Int32 → Int32 → Int32 → Option Int32
  | 0, _, _, _, _ => none
  | fu + 1, i1, i2, i3, i4 =>
    if 4 ≤ i4 then (
      some i3)
    else (
      if (((i2 : Int32) >>> ((i4 : Int32) &&& 31)) &&& 1) = 1 then (
        xgd (xin (i1 + i4) n) <|
        if i3 ≤ (M ct (i1 + i4).toNatClampNeg) then (
          f_X9_least_42 ct n M (f_X9_least_7 ct n M fu) i1 i2 i3 i4)
        else (
          xgd (xin (i1 + i4) n) <|
          f_X9_least_43 ct n M (f_X9_least_7 ct n M fu) i1 i2 i3 i4 (M ct (i1 + i4).toNatClampNeg)))
      else (
        f_X9_least_42 ct n M (f_X9_least_7 ct n M fu) i1 i2 i3 i4))
set_option maxHeartbeats 1000000 in
theorem x_X9_least_7 {ξ : xX} {ct n : Nat} {M : xM} (hA : xA ct n) : ∀ (fu : Nat) (i1 i2 i3 i4 : Int32) (z : Int32), f_X9_least_7 ct n M fu i1 i2 i3 i4 = some z → X ξ mX9_least 7 [.ref ct, .int i1, .int i2, .int i3, .int i4] [] SH M 0 0 (xr (some (.int z)) SH M) := by
  intro fu
  induction fu with
  | zero => intro i1 i2 i3 i4 z h; rw [f_X9_least_7] at h; cases h
  | succ fu ih =>
    intro i1 i2 i3 i4 z h
    rw [f_X9_least_7] at h
    refine X_iload (x := i4) dX9_least_7 rfl ?_
    refine X_iconst 4 dX9_least_9 rfl ?_
    refine X_icmp_ge 50 dX9_least_10 (by decide) h (fun h => ?_) (fun h => ?_)
    · refine X_iload_n (x := i3) dX9_least_50 rfl ?_
      exact X_retP dX9_least_51 rfl (Nat.le_refl _) (Nat.le_refl _) h
    · refine X_iload_n (x := i2) dX9_least_13 rfl ?_
      refine X_iload (x := i4) dX9_least_14 rfl ?_
      refine X_ishr dX9_least_16 ?_
      refine X_iconst 1 dX9_least_17 rfl ?_
      refine X_iand dX9_least_18 ?_
      refine X_iconst 1 dX9_least_19 rfl ?_
      refine X_icmp_ne 42 dX9_least_20 (by decide) h (fun h => ?_) (fun h => ?_)
      · exact x_X9_least_42 hA ih h
      · refine X_aload_n (x := ct) dX9_least_23 rfl ?_
        refine X_iload_n (x := i1) dX9_least_24 rfl ?_
        refine X_iload (x := i4) dX9_least_25 rfl ?_
        refine X_iadd dX9_least_27 ?_
        refine X_iald hA.2 dX9_least_28 h (fun h => ?_)
        refine X_iload_n (x := i3) dX9_least_29 rfl ?_
        refine X_icmp_ge 42 dX9_least_30 (by decide) h (fun h => ?_) (fun h => ?_)
        · exact x_X9_least_42 hA ih h
        · refine X_aload_n (x := ct) dX9_least_33 rfl ?_
          refine X_iload_n (x := i1) dX9_least_34 rfl ?_
          refine X_iload (x := i4) dX9_least_35 rfl ?_
          refine X_iadd dX9_least_37 ?_
          refine X_iald hA.2 dX9_least_38 h (fun h => ?_)
          refine X_goto 43 dX9_least_39 (by decide) ?_
          exact x_X9_least_43 hA ih h
def f_X9_least (ct n : Nat) (M : xM) (a1 a2 : Int32) : Option Int32 :=
  xl (1000 : Int32) fun v7 =>
  xl (0 : Int32) fun v8 =>
  f_X9_least_7 ct n M xFU a1 a2 v7 v8
set_option maxHeartbeats 1000000 in
theorem x_X9_least {ξ : xX} {ct n : Nat} {M : xM} {a1 a2 : Int32} (hA : xA ct n) {z : Int32} (h : f_X9_least ct n M a1 a2 = some z) : X ξ mX9_least 0 [.ref ct, .int a1, .int a2] [] SH M 0 0 (xr (some (.int z)) SH M) := by
  rw [f_X9_least] at h
  refine X_sipush 1000 dX9_least_0 rfl ?_
  refine X_istoreL_n (fun v7 => [.ref ct, .int a1, .int a2, .int v7]) dX9_least_3 (Nat.le_of_ble_eq_true rfl) (Nat.le_of_ble_eq_true rfl) (xcat1_of rfl) h (fun _ => rfl) (fun v7 h => ?_)
  refine X_iconst 0 dX9_least_4 rfl ?_
  refine X_istoreL (fun v8 => [.ref ct, .int a1, .int a2, .int v7, .int v8]) dX9_least_5 (Nat.le_of_ble_eq_true rfl) (Nat.le_of_ble_eq_true rfl) (xcat1_of rfl) h (fun _ => rfl) (fun v8 h => ?_)
  exact x_X9_least_7 hA _ _ _ _ _ _ h
def f_X9_qualityIn (M : xM) (a1 a2 : Int32) : Option Int32 :=
  xl (420 + (9 * a1)) fun v3 =>
  xl (84 + (5 * a2)) fun v4 =>
  xgd (xin v3 916) <|
  xgd (xin v4 916) <|
  if (M 150 v3.toNatClampNeg) = (M 150 v4.toNatClampNeg) then (
    xgd (xin (v4 + 1) 916) <|
    xb (f_X9_least 150 916 M (v3 + 5) (M 150 (v4 + 1).toNatClampNeg)) fun v5 =>
    some v5)
  else (
    some 0)
set_option maxHeartbeats 1000000 in
theorem x_X9_qualityIn {ξ : xX} {M : xM} {a1 a2 : Int32} {z : Int32} (h : f_X9_qualityIn M a1 a2 = some z) : X ξ mX9_qualityIn 0 [.ref 149, .int a1, .int a2] [] SH M 0 0 (xr (some (.int z)) SH M) := by
  rw [f_X9_qualityIn] at h
  refine X_sipush 420 dX9_qualityIn_0 rfl ?_
  refine X_bipush 9 dX9_qualityIn_3 rfl ?_
  refine X_iload_n (x := a1) dX9_qualityIn_5 rfl ?_
  refine X_imul dX9_qualityIn_6 ?_
  refine X_iadd dX9_qualityIn_7 ?_
  refine X_istoreL_n (fun v3 => [.ref 149, .int a1, .int a2, .int v3]) dX9_qualityIn_8 (Nat.le_of_ble_eq_true rfl) (Nat.le_of_ble_eq_true rfl) (xcat1_of rfl) h (fun _ => rfl) (fun v3 h => ?_)
  refine X_bipush 84 dX9_qualityIn_9 rfl ?_
  refine X_iconst 5 dX9_qualityIn_11 rfl ?_
  refine X_iload_n (x := a2) dX9_qualityIn_12 rfl ?_
  refine X_imul dX9_qualityIn_13 ?_
  refine X_iadd dX9_qualityIn_14 ?_
  refine X_istoreL (fun v4 => [.ref 149, .int a1, .int a2, .int v3, .int v4]) dX9_qualityIn_15 (Nat.le_of_ble_eq_true rfl) (Nat.le_of_ble_eq_true rfl) (xcat1_of rfl) h (fun _ => rfl) (fun v4 h => ?_)
  refine X_aload_n (x := 149) dX9_qualityIn_17 rfl ?_
  refine X_get (v := .ref 150) kF_RX9_7 sh_149 rfl rfl dX9_qualityIn_18 ?_
  refine X_iload_n (x := v3) dX9_qualityIn_21 rfl ?_
  refine X_iald sh_150 dX9_qualityIn_22 h (fun h => ?_)
  refine X_aload_n (x := 149) dX9_qualityIn_23 rfl ?_
  refine X_get (v := .ref 150) kF_RX9_7 sh_149 rfl rfl dX9_qualityIn_24 ?_
  refine X_iload (x := v4) dX9_qualityIn_27 rfl ?_
  refine X_iald sh_150 dX9_qualityIn_29 h (fun h => ?_)
  refine X_icmp_ne 55 dX9_qualityIn_30 (by decide) h (fun h => ?_) (fun h => ?_)
  · refine X_iconst 0 dX9_qualityIn_55 rfl ?_
    exact X_retP dX9_qualityIn_56 rfl (Nat.le_refl _) (Nat.le_refl _) h
  · refine X_aload_n (x := 149) dX9_qualityIn_33 rfl ?_
    refine X_get (v := .ref 150) kF_RX9_7 sh_149 rfl rfl dX9_qualityIn_34 ?_
    refine X_iload_n (x := v3) dX9_qualityIn_37 rfl ?_
    refine X_iconst 5 dX9_qualityIn_38 rfl ?_
    refine X_iadd dX9_qualityIn_39 ?_
    refine X_aload_n (x := 149) dX9_qualityIn_40 rfl ?_
    refine X_get (v := .ref 150) kF_RX9_7 sh_149 rfl rfl dX9_qualityIn_41 ?_
    refine X_iload (x := v4) dX9_qualityIn_44 rfl ?_
    refine X_iconst 1 dX9_qualityIn_46 rfl ?_
    refine X_iadd dX9_qualityIn_47 ?_
    refine X_iald sh_150 dX9_qualityIn_48 h (fun h => ?_)
    refine X_sP (μ' := mX9_least) [.ref 150, .int (v3 + 5), .int (M 150 (v4 + 1).toNatClampNeg)] [] kL_RX9_116 kM_X9_least rfl rfl rfl dX9_qualityIn_49 h (fun _ hv => x_X9_least ⟨trivial, sh_150⟩ hv) (fun v5 h => ?_)
    refine X_goto 56 dX9_qualityIn_52 (by decide) ?_
    exact X_retP dX9_qualityIn_56 rfl (Nat.le_refl _) (Nat.le_refl _) h
def f_X9_bestFor_52 (M : xM) (k7 : Int32 → Int32 → Int32 → Int32 → Option Int32) (i1 : Int32) (i2 : Int32) (i3 : Int32) (i4 : Int32) (i5 : Int32) (s0 : Int32) : Option Int32 :=
  xl s0 fun v8 =>
  xl (i4 + 1) fun v9 =>
  k7 i1 i2 v8 v9
set_option maxHeartbeats 1000000 in
theorem x_X9_bestFor_52 {ξ : xX} {M : xM} {k7 : Int32 → Int32 → Int32 → Int32 → Option Int32} {i1 : Int32} {i2 : Int32} {i3 : Int32} {i4 : Int32} {i5 : Int32} {s0 : Int32} (hk7 : ∀ (j1 j2 j3 j4 : Int32) (z : Int32), k7 j1 j2 j3 j4 = some z → X ξ mX9_bestFor 7 [.ref 149, .int j1, .int j2, .int j3, .int j4] [] SH M 0 0 (xr (some (.int z)) SH M)) {z : Int32} (h : f_X9_bestFor_52 M k7 i1 i2 i3 i4 i5 s0 = some z) : X ξ mX9_bestFor 52 [.ref 149, .int i1, .int i2, .int i3, .int i4, .int i5] [.int s0] SH M 0 0 (xr (some (.int z)) SH M) := by
  rw [f_X9_bestFor_52] at h
  refine X_istoreL_n (fun v8 => [.ref 149, .int i1, .int i2, .int v8, .int i4, .int i5]) dX9_bestFor_52 (Nat.le_of_ble_eq_true rfl) (Nat.le_of_ble_eq_true rfl) (xcat1_of rfl) h (fun _ => rfl) (fun v8 h => ?_)
  refine X_iincL (x := i4) 1 (fun v9 => [.ref 149, .int i1, .int i2, .int v8, .int v9, .int i5]) dX9_bestFor_53 rfl rfl (Nat.le_of_ble_eq_true rfl) (xcat1_of rfl) h (fun _ => rfl) (fun v9 h => ?_)
  refine X_goto 7 dX9_bestFor_56 (by decide) ?_
  refine X_cut 5 ?_
  exact hk7 _ _ _ _ _ h
def f_X9_bestFor_39 (M : xM) (k7 : Int32 → Int32 → Int32 → Int32 → Option Int32) (i1 : Int32) (i2 : Int32) (i3 : Int32) (i4 : Int32) (i5 : Int32) (s0 : Int32) : Option Int32 :=
  xl s0 fun v10 =>
  if i5 ≤ i3 then (
    f_X9_bestFor_52 M k7 i1 v10 i3 i4 i5 i3)
  else (
    f_X9_bestFor_52 M k7 i1 v10 i3 i4 i5 i5)
set_option maxHeartbeats 1000000 in
theorem x_X9_bestFor_39 {ξ : xX} {M : xM} {k7 : Int32 → Int32 → Int32 → Int32 → Option Int32} {i1 : Int32} {i2 : Int32} {i3 : Int32} {i4 : Int32} {i5 : Int32} {s0 : Int32} (hk7 : ∀ (j1 j2 j3 j4 : Int32) (z : Int32), k7 j1 j2 j3 j4 = some z → X ξ mX9_bestFor 7 [.ref 149, .int j1, .int j2, .int j3, .int j4] [] SH M 0 0 (xr (some (.int z)) SH M)) {z : Int32} (h : f_X9_bestFor_39 M k7 i1 i2 i3 i4 i5 s0 = some z) : X ξ mX9_bestFor 39 [.ref 149, .int i1, .int i2, .int i3, .int i4, .int i5] [.int s0] SH M 0 0 (xr (some (.int z)) SH M) := by
  rw [f_X9_bestFor_39] at h
  refine X_istoreL_n (fun v10 => [.ref 149, .int i1, .int v10, .int i3, .int i4, .int i5]) dX9_bestFor_39 (Nat.le_of_ble_eq_true rfl) (Nat.le_of_ble_eq_true rfl) (xcat1_of rfl) h (fun _ => rfl) (fun v10 h => ?_)
  refine X_iload (x := i5) dX9_bestFor_40 rfl ?_
  refine X_iload_n (x := i3) dX9_bestFor_42 rfl ?_
  refine X_icmp_le 51 dX9_bestFor_43 (by decide) h (fun h => ?_) (fun h => ?_)
  · refine X_iload_n (x := i3) dX9_bestFor_51 rfl ?_
    exact x_X9_bestFor_52 hk7 h
  · refine X_iload (x := i5) dX9_bestFor_46 rfl ?_
    refine X_goto 52 dX9_bestFor_48 (by decide) ?_
    exact x_X9_bestFor_52 hk7 h
def f_X9_bestFor_7 (M : xM) : Nat → Int32 → Int32 → Int32 → Int32 → Option Int32
  | 0, _, _, _, _ => none
  | fu + 1, i1, i2, i3, i4 =>
    xgd (xin 4 916) <|
    if (M 150 (4 : Int32).toNatClampNeg) ≤ i4 then (
      some i2)
    else (
      xb (f_X9_qualityIn M i4 i1) fun v11 =>
      xl v11 fun v12 =>
      if v12 ≤ i3 then (
        f_X9_bestFor_39 M (f_X9_bestFor_7 M fu) i1 i2 i3 i4 v12 i2)
      else (
        f_X9_bestFor_39 M (f_X9_bestFor_7 M fu) i1 i2 i3 i4 v12 i4))
set_option maxHeartbeats 1000000 in
theorem x_X9_bestFor_7 {ξ : xX} {M : xM} : ∀ (fu : Nat) (i1 i2 i3 i4 : Int32) (z : Int32), f_X9_bestFor_7 M fu i1 i2 i3 i4 = some z → X ξ mX9_bestFor 7 [.ref 149, .int i1, .int i2, .int i3, .int i4] [] SH M 0 0 (xr (some (.int z)) SH M) := by
  intro fu
  induction fu with
  | zero => intro i1 i2 i3 i4 z h; rw [f_X9_bestFor_7] at h; cases h
  | succ fu ih =>
    intro i1 i2 i3 i4 z h
    rw [f_X9_bestFor_7] at h
    refine X_iload (x := i4) dX9_bestFor_7 rfl ?_
    refine X_aload_n (x := 149) dX9_bestFor_9 rfl ?_
    refine X_get (v := .ref 150) kF_RX9_7 sh_149 rfl rfl dX9_bestFor_10 ?_
    refine X_iconst 4 dX9_bestFor_13 rfl ?_
    refine X_iald sh_150 dX9_bestFor_14 h (fun h => ?_)
    refine X_icmp_ge 59 dX9_bestFor_15 (by decide) h (fun h => ?_) (fun h => ?_)
    · refine X_iload_n (x := i2) dX9_bestFor_59 rfl ?_
      exact X_retP dX9_bestFor_60 rfl (Nat.le_refl _) (Nat.le_refl _) h
    · refine X_aload_n (x := 149) dX9_bestFor_18 rfl ?_
      refine X_iload (x := i4) dX9_bestFor_19 rfl ?_
      refine X_iload_n (x := i1) dX9_bestFor_21 rfl ?_
      refine X_vP (μ' := mX9_qualityIn) [.int i4, .int i1] [] kL_RX9_120 kM_X9_qualityIn rv_149 rfl rfl rfl dX9_bestFor_22 h (fun _ hv => x_X9_qualityIn hv) (fun v11 h => ?_)
      refine X_istoreL (fun v12 => [.ref 149, .int i1, .int i2, .int i3, .int i4, .int v12]) dX9_bestFor_25 (Nat.le_of_ble_eq_true rfl) (Nat.le_of_ble_eq_true rfl) (xcat1_of rfl) h (fun _ => rfl) (fun v12 h => ?_)
      refine X_iload (x := v12) dX9_bestFor_27 rfl ?_
      refine X_iload_n (x := i3) dX9_bestFor_29 rfl ?_
      refine X_icmp_le 38 dX9_bestFor_30 (by decide) h (fun h => ?_) (fun h => ?_)
      · refine X_iload_n (x := i2) dX9_bestFor_38 rfl ?_
        exact x_X9_bestFor_39 ih h
      · refine X_iload (x := i4) dX9_bestFor_33 rfl ?_
        refine X_goto 39 dX9_bestFor_35 (by decide) ?_
        exact x_X9_bestFor_39 ih h
def f_X9_bestFor (M : xM) (a1 : Int32) : Option Int32 :=
  xl (-1 : Int32) fun v13 =>
  xl (0 : Int32) fun v14 =>
  xl (0 : Int32) fun v15 =>
  f_X9_bestFor_7 M xFU a1 v13 v14 v15
set_option maxHeartbeats 1000000 in
theorem x_X9_bestFor {ξ : xX} {M : xM} {a1 : Int32} {z : Int32} (h : f_X9_bestFor M a1 = some z) : X ξ mX9_bestFor 0 [.ref 149, .int a1] [] SH M 0 0 (xr (some (.int z)) SH M) := by
  rw [f_X9_bestFor] at h
  refine X_iconst (-1) dX9_bestFor_0 rfl ?_
  refine X_istoreL_n (fun v13 => [.ref 149, .int a1, .int v13]) dX9_bestFor_1 (Nat.le_of_ble_eq_true rfl) (Nat.le_of_ble_eq_true rfl) (xcat1_of rfl) h (fun _ => rfl) (fun v13 h => ?_)
  refine X_iconst 0 dX9_bestFor_2 rfl ?_
  refine X_istoreL_n (fun v14 => [.ref 149, .int a1, .int v13, .int v14]) dX9_bestFor_3 (Nat.le_of_ble_eq_true rfl) (Nat.le_of_ble_eq_true rfl) (xcat1_of rfl) h (fun _ => rfl) (fun v14 h => ?_)
  refine X_iconst 0 dX9_bestFor_4 rfl ?_
  refine X_istoreL (fun v15 => [.ref 149, .int a1, .int v13, .int v14, .int v15]) dX9_bestFor_5 (Nat.le_of_ble_eq_true rfl) (Nat.le_of_ble_eq_true rfl) (xcat1_of rfl) h (fun _ => rfl) (fun v15 h => ?_)
  exact x_X9_bestFor_7 _ _ _ _ _ _ h
def f_X9_permit (M : xM) (a1 a2 a3 a4 : Int32) : Option (Int32 × xM) :=
  xb (f_X9_in a1 0 7) fun v2 =>
  if v2 = 0 then (
    some ((-2), M))
  else (
    xb (f_X9_in a2 0 7) fun v3 =>
    if v3 = 0 then (
      some ((-2), M))
    else (
      xb (f_X9_in a3 0 2) fun v4 =>
      if v4 = 0 then (
        some ((-2), M))
      else (
        xb (f_X9_in a4 0 9999) fun v5 =>
        if v5 = 0 then (
          some ((-2), M))
        else (
          xgd (xin 5 916) <|
          if (M 150 (5 : Int32).toNatClampNeg) = 24 then (
            some ((-4), M))
          else (
            xb (f_X9_record M) fun M6 =>
            xgd (xin 5 916) <|
            xl (636 + (5 * (M6 150 (5 : Int32).toNatClampNeg))) fun v7 =>
            xgd (xin v7 916) <| xl (xw M6 150 v7.toNatClampNeg a1) fun M8 =>
            xgd (xin (v7 + 1) 916) <| xl (xw M8 150 (v7 + 1).toNatClampNeg a2) fun M9 =>
            xgd (xin (v7 + 2) 916) <| xl (xw M9 150 (v7 + 2).toNatClampNeg a3) fun M10 =>
            xgd (xin (v7 + 3) 916) <| xl (xw M10 150 (v7 + 3).toNatClampNeg a4) fun M11 =>
            xgd (xin (v7 + 4) 916) <| xl (xw M11 150 (v7 + 4).toNatClampNeg 0) fun M12 =>
            xgd (xin 5 916) <|
            xgd (xin 5 916) <| xl (xw M12 150 (5 : Int32).toNatClampNeg ((M12 150 (5 : Int32).toNatClampNeg) + 1)) fun M13 =>
            xgd (xin 5 916) <|
            some (((M13 150 (5 : Int32).toNatClampNeg) - 1), M13))))))
set_option maxHeartbeats 1000000 in
theorem x_X9_permit {ξ : xX} {M : xM} {a1 a2 a3 a4 : Int32} {z : (Int32 × xM)} (h : f_X9_permit M a1 a2 a3 a4 = some z) : X ξ mX9_permit 0 [.ref 149, .int a1, .int a2, .int a3, .int a4] [] SH M 0 0 (xr (some (.int z.1)) SH z.2) := by
  rw [f_X9_permit] at h
  refine X_iload_n (x := a1) dX9_permit_0 rfl ?_
  refine X_iconst 0 dX9_permit_1 rfl ?_
  refine X_bipush 7 dX9_permit_2 rfl ?_
  refine X_sP (μ' := mX9_in) [.int a1, .int 0, .int 7] [] kL_RX9_42 kM_X9_in rfl rfl rfl dX9_permit_4 h (fun _ hv => x_X9_in hv) (fun v2 h => ?_)
  refine X_if_eq 41 dX9_permit_7 (by decide) h (fun h => ?_) (fun h => ?_)
  · refine X_bipush (-2) dX9_permit_41 rfl ?_
    exact X_retI dX9_permit_43 rfl (Nat.le_refl _) (Nat.le_refl _) h
  · refine X_iload_n (x := a2) dX9_permit_10 rfl ?_
    refine X_iconst 0 dX9_permit_11 rfl ?_
    refine X_bipush 7 dX9_permit_12 rfl ?_
    refine X_sP (μ' := mX9_in) [.int a2, .int 0, .int 7] [] kL_RX9_42 kM_X9_in rfl rfl rfl dX9_permit_14 h (fun _ hv => x_X9_in hv) (fun v3 h => ?_)
    refine X_if_eq 41 dX9_permit_17 (by decide) h (fun h => ?_) (fun h => ?_)
    · refine X_bipush (-2) dX9_permit_41 rfl ?_
      exact X_retI dX9_permit_43 rfl (Nat.le_refl _) (Nat.le_refl _) h
    · refine X_iload_n (x := a3) dX9_permit_20 rfl ?_
      refine X_iconst 0 dX9_permit_21 rfl ?_
      refine X_iconst 2 dX9_permit_22 rfl ?_
      refine X_sP (μ' := mX9_in) [.int a3, .int 0, .int 2] [] kL_RX9_42 kM_X9_in rfl rfl rfl dX9_permit_23 h (fun _ hv => x_X9_in hv) (fun v4 h => ?_)
      refine X_if_eq 41 dX9_permit_26 (by decide) h (fun h => ?_) (fun h => ?_)
      · refine X_bipush (-2) dX9_permit_41 rfl ?_
        exact X_retI dX9_permit_43 rfl (Nat.le_refl _) (Nat.le_refl _) h
      · refine X_iload (x := a4) dX9_permit_29 rfl ?_
        refine X_iconst 0 dX9_permit_31 rfl ?_
        refine X_sipush 9999 dX9_permit_32 rfl ?_
        refine X_sP (μ' := mX9_in) [.int a4, .int 0, .int 9999] [] kL_RX9_42 kM_X9_in rfl rfl rfl dX9_permit_35 h (fun _ hv => x_X9_in hv) (fun v5 h => ?_)
        refine X_if_ne 44 dX9_permit_38 (by decide) h (fun h => ?_) (fun h => ?_)
        · refine X_aload_n (x := 149) dX9_permit_44 rfl ?_
          refine X_get (v := .ref 150) kF_RX9_7 sh_149 rfl rfl dX9_permit_45 ?_
          refine X_iconst 5 dX9_permit_48 rfl ?_
          refine X_iald sh_150 dX9_permit_49 h (fun h => ?_)
          refine X_bipush 24 dX9_permit_50 rfl ?_
          refine X_icmp_ne 58 dX9_permit_52 (by decide) h (fun h => ?_) (fun h => ?_)
          · refine X_aload_n (x := 149) dX9_permit_58 rfl ?_
            refine X_vV (μ' := mX9_record) [] [] kL_RX9_54 kM_X9_record rv_149 rfl rfl rfl dX9_permit_59 h (fun _ hv => x_X9_record hv) (fun M6 h => ?_)
            refine X_sipush 636 dX9_permit_62 rfl ?_
            refine X_iconst 5 dX9_permit_65 rfl ?_
            refine X_aload_n (x := 149) dX9_permit_66 rfl ?_
            refine X_get (v := .ref 150) kF_RX9_7 sh_149 rfl rfl dX9_permit_67 ?_
            refine X_iconst 5 dX9_permit_70 rfl ?_
            refine X_iald sh_150 dX9_permit_71 h (fun h => ?_)
            refine X_imul dX9_permit_72 ?_
            refine X_iadd dX9_permit_73 ?_
            refine X_istoreL (fun v7 => [.ref 149, .int a1, .int a2, .int a3, .int a4, .int v7]) dX9_permit_74 (Nat.le_of_ble_eq_true rfl) (Nat.le_of_ble_eq_true rfl) (xcat1_of rfl) h (fun _ => rfl) (fun v7 h => ?_)
            refine X_aload_n (x := 149) dX9_permit_76 rfl ?_
            refine X_get (v := .ref 150) kF_RX9_7 sh_149 rfl rfl dX9_permit_77 ?_
            refine X_iload (x := v7) dX9_permit_80 rfl ?_
            refine X_iload_n (x := a1) dX9_permit_82 rfl ?_
            refine X_iast sh_150 dX9_permit_83 h (fun M8 h => ?_)
            refine X_aload_n (x := 149) dX9_permit_84 rfl ?_
            refine X_get (v := .ref 150) kF_RX9_7 sh_149 rfl rfl dX9_permit_85 ?_
            refine X_iload (x := v7) dX9_permit_88 rfl ?_
            refine X_iconst 1 dX9_permit_90 rfl ?_
            refine X_iadd dX9_permit_91 ?_
            refine X_iload_n (x := a2) dX9_permit_92 rfl ?_
            refine X_iast sh_150 dX9_permit_93 h (fun M9 h => ?_)
            refine X_aload_n (x := 149) dX9_permit_94 rfl ?_
            refine X_get (v := .ref 150) kF_RX9_7 sh_149 rfl rfl dX9_permit_95 ?_
            refine X_iload (x := v7) dX9_permit_98 rfl ?_
            refine X_iconst 2 dX9_permit_100 rfl ?_
            refine X_iadd dX9_permit_101 ?_
            refine X_iload_n (x := a3) dX9_permit_102 rfl ?_
            refine X_iast sh_150 dX9_permit_103 h (fun M10 h => ?_)
            refine X_aload_n (x := 149) dX9_permit_104 rfl ?_
            refine X_get (v := .ref 150) kF_RX9_7 sh_149 rfl rfl dX9_permit_105 ?_
            refine X_iload (x := v7) dX9_permit_108 rfl ?_
            refine X_iconst 3 dX9_permit_110 rfl ?_
            refine X_iadd dX9_permit_111 ?_
            refine X_iload (x := a4) dX9_permit_112 rfl ?_
            refine X_iast sh_150 dX9_permit_114 h (fun M11 h => ?_)
            refine X_aload_n (x := 149) dX9_permit_115 rfl ?_
            refine X_get (v := .ref 150) kF_RX9_7 sh_149 rfl rfl dX9_permit_116 ?_
            refine X_iload (x := v7) dX9_permit_119 rfl ?_
            refine X_iconst 4 dX9_permit_121 rfl ?_
            refine X_iadd dX9_permit_122 ?_
            refine X_iconst 0 dX9_permit_123 rfl ?_
            refine X_iast sh_150 dX9_permit_124 h (fun M12 h => ?_)
            refine X_aload_n (x := 149) dX9_permit_125 rfl ?_
            refine X_get (v := .ref 150) kF_RX9_7 sh_149 rfl rfl dX9_permit_126 ?_
            refine X_iconst 5 dX9_permit_129 rfl ?_
            refine X_dup2 dX9_permit_130 rfl rfl ?_
            refine X_iald sh_150 dX9_permit_131 h (fun h => ?_)
            refine X_iconst 1 dX9_permit_132 rfl ?_
            refine X_iadd dX9_permit_133 ?_
            refine X_iast sh_150 dX9_permit_134 h (fun M13 h => ?_)
            refine X_aload_n (x := 149) dX9_permit_135 rfl ?_
            refine X_get (v := .ref 150) kF_RX9_7 sh_149 rfl rfl dX9_permit_136 ?_
            refine X_iconst 5 dX9_permit_139 rfl ?_
            refine X_iald sh_150 dX9_permit_140 h (fun h => ?_)
            refine X_iconst 1 dX9_permit_141 rfl ?_
            refine X_isub dX9_permit_142 ?_
            exact X_retI dX9_permit_143 rfl (Nat.le_refl _) (Nat.le_refl _) h
          · refine X_bipush (-4) dX9_permit_55 rfl ?_
            exact X_retI dX9_permit_57 rfl (Nat.le_refl _) (Nat.le_refl _) h
        · refine X_bipush (-2) dX9_permit_41 rfl ?_
          exact X_retI dX9_permit_43 rfl (Nat.le_refl _) (Nat.le_refl _) h
def f_X9_revoke_55 : Nat → xM → Int32 → Int32 → Int32 → Option (Int32 × xM)
  | 0, _, _, _, _ => none
  | fu + 1, M, i1, i2, i3 =>
    xgd (xin 5 916) <|
    if (M 150 (5 : Int32).toNatClampNeg) ≤ i3 then (
      some (i2, M))
    else (
      xgd (xin ((636 + (5 * i3)) + 4) 916) <|
      xl (i2 + (1 - (M 150 ((636 + (5 * i3)) + 4).toNatClampNeg))) fun v5 =>
      xl (i3 + 1) fun v6 =>
      (f_X9_revoke_55 fu) M i1 v5 v6)
set_option maxHeartbeats 1000000 in
theorem x_X9_revoke_55 {ξ : xX} : ∀ (fu : Nat) (M : xM) (i1 i2 i3 : Int32) (z : (Int32 × xM)), f_X9_revoke_55 fu M i1 i2 i3 = some z → X ξ mX9_revoke 55 [.ref 149, .int i1, .int i2, .int i3] [] SH M 0 0 (xr (some (.int z.1)) SH z.2) := by
  intro fu
  induction fu with
  | zero => intro M i1 i2 i3 z h; rw [f_X9_revoke_55] at h; cases h
  | succ fu ih =>
    intro M i1 i2 i3 z h
    rw [f_X9_revoke_55] at h
    refine X_iload_n (x := i3) dX9_revoke_55 rfl ?_
    refine X_aload_n (x := 149) dX9_revoke_56 rfl ?_
    refine X_get (v := .ref 150) kF_RX9_7 sh_149 rfl rfl dX9_revoke_57 ?_
    refine X_iconst 5 dX9_revoke_60 rfl ?_
    refine X_iald sh_150 dX9_revoke_61 h (fun h => ?_)
    refine X_icmp_ge 90 dX9_revoke_62 (by decide) h (fun h => ?_) (fun h => ?_)
    · refine X_iload_n (x := i2) dX9_revoke_90 rfl ?_
      exact X_retI dX9_revoke_91 rfl (Nat.le_refl _) (Nat.le_refl _) h
    · refine X_iload_n (x := i2) dX9_revoke_65 rfl ?_
      refine X_iconst 1 dX9_revoke_66 rfl ?_
      refine X_aload_n (x := 149) dX9_revoke_67 rfl ?_
      refine X_get (v := .ref 150) kF_RX9_7 sh_149 rfl rfl dX9_revoke_68 ?_
      refine X_sipush 636 dX9_revoke_71 rfl ?_
      refine X_iconst 5 dX9_revoke_74 rfl ?_
      refine X_iload_n (x := i3) dX9_revoke_75 rfl ?_
      refine X_imul dX9_revoke_76 ?_
      refine X_iadd dX9_revoke_77 ?_
      refine X_iconst 4 dX9_revoke_78 rfl ?_
      refine X_iadd dX9_revoke_79 ?_
      refine X_iald sh_150 dX9_revoke_80 h (fun h => ?_)
      refine X_isub dX9_revoke_81 ?_
      refine X_iadd dX9_revoke_82 ?_
      refine X_istoreL_n (fun v5 => [.ref 149, .int i1, .int v5, .int i3]) dX9_revoke_83 (Nat.le_of_ble_eq_true rfl) (Nat.le_of_ble_eq_true rfl) (xcat1_of rfl) h (fun _ => rfl) (fun v5 h => ?_)
      refine X_iincL (x := i3) 1 (fun v6 => [.ref 149, .int i1, .int v5, .int v6]) dX9_revoke_84 rfl rfl (Nat.le_of_ble_eq_true rfl) (xcat1_of rfl) h (fun _ => rfl) (fun v6 h => ?_)
      refine X_goto 55 dX9_revoke_87 (by decide) ?_
      exact ih _ _ _ _ _ h
def f_X9_revoke (M : xM) (a1 : Int32) : Option (Int32 × xM) :=
  xb (f_X9_isOne M 5 a1) fun v7 =>
  if v7 = 0 then (
    some ((-1), M))
  else (
    xgd (xin ((636 + (5 * a1)) + 4) 916) <|
    if (M 150 ((636 + (5 * a1)) + 4).toNatClampNeg) = 1 then (
      some ((-3), M))
    else (
      xb (f_X9_record M) fun M8 =>
      xgd (xin ((636 + (5 * a1)) + 4) 916) <| xl (xw M8 150 ((636 + (5 * a1)) + 4).toNatClampNeg 1) fun M9 =>
      xl (0 : Int32) fun v10 =>
      xl (0 : Int32) fun v11 =>
      f_X9_revoke_55 xFU M9 a1 v10 v11))
set_option maxHeartbeats 1000000 in
theorem x_X9_revoke {ξ : xX} {M : xM} {a1 : Int32} {z : (Int32 × xM)} (h : f_X9_revoke M a1 = some z) : X ξ mX9_revoke 0 [.ref 149, .int a1] [] SH M 0 0 (xr (some (.int z.1)) SH z.2) := by
  rw [f_X9_revoke] at h
  refine X_aload_n (x := 149) dX9_revoke_0 rfl ?_
  refine X_iconst 5 dX9_revoke_1 rfl ?_
  refine X_iload_n (x := a1) dX9_revoke_2 rfl ?_
  refine X_vP (μ' := mX9_isOne) [.int 5, .int a1] [] kL_RX9_64 kM_X9_isOne rv_149 rfl rfl rfl dX9_revoke_3 h (fun _ hv => x_X9_isOne hv) (fun v7 h => ?_)
  refine X_if_ne 11 dX9_revoke_6 (by decide) h (fun h => ?_) (fun h => ?_)
  · refine X_aload_n (x := 149) dX9_revoke_11 rfl ?_
    refine X_get (v := .ref 150) kF_RX9_7 sh_149 rfl rfl dX9_revoke_12 ?_
    refine X_sipush 636 dX9_revoke_15 rfl ?_
    refine X_iconst 5 dX9_revoke_18 rfl ?_
    refine X_iload_n (x := a1) dX9_revoke_19 rfl ?_
    refine X_imul dX9_revoke_20 ?_
    refine X_iadd dX9_revoke_21 ?_
    refine X_iconst 4 dX9_revoke_22 rfl ?_
    refine X_iadd dX9_revoke_23 ?_
    refine X_iald sh_150 dX9_revoke_24 h (fun h => ?_)
    refine X_iconst 1 dX9_revoke_25 rfl ?_
    refine X_icmp_ne 32 dX9_revoke_26 (by decide) h (fun h => ?_) (fun h => ?_)
    · refine X_aload_n (x := 149) dX9_revoke_32 rfl ?_
      refine X_vV (μ' := mX9_record) [] [] kL_RX9_54 kM_X9_record rv_149 rfl rfl rfl dX9_revoke_33 h (fun _ hv => x_X9_record hv) (fun M8 h => ?_)
      refine X_aload_n (x := 149) dX9_revoke_36 rfl ?_
      refine X_get (v := .ref 150) kF_RX9_7 sh_149 rfl rfl dX9_revoke_37 ?_
      refine X_sipush 636 dX9_revoke_40 rfl ?_
      refine X_iconst 5 dX9_revoke_43 rfl ?_
      refine X_iload_n (x := a1) dX9_revoke_44 rfl ?_
      refine X_imul dX9_revoke_45 ?_
      refine X_iadd dX9_revoke_46 ?_
      refine X_iconst 4 dX9_revoke_47 rfl ?_
      refine X_iadd dX9_revoke_48 ?_
      refine X_iconst 1 dX9_revoke_49 rfl ?_
      refine X_iast sh_150 dX9_revoke_50 h (fun M9 h => ?_)
      refine X_iconst 0 dX9_revoke_51 rfl ?_
      refine X_istoreL_n (fun v10 => [.ref 149, .int a1, .int v10]) dX9_revoke_52 (Nat.le_of_ble_eq_true rfl) (Nat.le_of_ble_eq_true rfl) (xcat1_of rfl) h (fun _ => rfl) (fun v10 h => ?_)
      refine X_iconst 0 dX9_revoke_53 rfl ?_
      refine X_istoreL_n (fun v11 => [.ref 149, .int a1, .int v10, .int v11]) dX9_revoke_54 (Nat.le_of_ble_eq_true rfl) (Nat.le_of_ble_eq_true rfl) (xcat1_of rfl) h (fun _ => rfl) (fun v11 h => ?_)
      exact x_X9_revoke_55 _ _ _ _ _ _ h
    · refine X_bipush (-3) dX9_revoke_29 rfl ?_
      exact X_retI dX9_revoke_31 rfl (Nat.le_refl _) (Nat.le_refl _) h
  · refine X_iconst (-1) dX9_revoke_9 rfl ?_
    exact X_retI dX9_revoke_10 rfl (Nat.le_refl _) (Nat.le_refl _) h
def f_X9_isPermitted_104 (M : xM) (k6 : Int32 → Int32 → Int32 → Int32 → Int32 → Option Int32) (i1 : Int32) (i2 : Int32) (i3 : Int32) (i4 : Int32) (i5 : Int32) (i6 : Int32) (s0 : Int32) : Option Int32 :=
  xl s0 fun v6 =>
  xl (i5 + 1) fun v7 =>
  k6 i1 i2 i3 v6 v7
set_option maxHeartbeats 1000000 in
theorem x_X9_isPermitted_104 {ξ : xX} {M : xM} {k6 : Int32 → Int32 → Int32 → Int32 → Int32 → Option Int32} {i1 : Int32} {i2 : Int32} {i3 : Int32} {i4 : Int32} {i5 : Int32} {i6 : Int32} {s0 : Int32} (hk6 : ∀ (j1 j2 j3 j4 j5 : Int32) (z : Int32), k6 j1 j2 j3 j4 j5 = some z → X ξ mX9_isPermitted 6 [.ref 149, .int j1, .int j2, .int j3, .int j4, .int j5] [] SH M 0 0 (xr (some (.int z)) SH M)) {z : Int32} (h : f_X9_isPermitted_104 M k6 i1 i2 i3 i4 i5 i6 s0 = some z) : X ξ mX9_isPermitted 104 [.ref 149, .int i1, .int i2, .int i3, .int i4, .int i5, .int i6] [.int s0] SH M 0 0 (xr (some (.int z)) SH M) := by
  rw [f_X9_isPermitted_104] at h
  refine X_istoreL (fun v6 => [.ref 149, .int i1, .int i2, .int i3, .int v6, .int i5, .int i6]) dX9_isPermitted_104 (Nat.le_of_ble_eq_true rfl) (Nat.le_of_ble_eq_true rfl) (xcat1_of rfl) h (fun _ => rfl) (fun v6 h => ?_)
  refine X_iincL (x := i5) 1 (fun v7 => [.ref 149, .int i1, .int i2, .int i3, .int v6, .int v7, .int i6]) dX9_isPermitted_106 rfl rfl (Nat.le_of_ble_eq_true rfl) (xcat1_of rfl) h (fun _ => rfl) (fun v7 h => ?_)
  refine X_goto 6 dX9_isPermitted_109 (by decide) ?_
  refine X_cut 6 ?_
  exact hk6 _ _ _ _ _ _ h
def f_X9_isPermitted_99 (M : xM) (k6 : Int32 → Int32 → Int32 → Int32 → Int32 → Option Int32) (i1 : Int32) (i2 : Int32) (i3 : Int32) (i4 : Int32) (i5 : Int32) (i6 : Int32) : Option Int32 :=
  f_X9_isPermitted_104 M k6 i1 i2 i3 i4 i5 i6 1
set_option maxHeartbeats 1000000 in
theorem x_X9_isPermitted_99 {ξ : xX} {M : xM} {k6 : Int32 → Int32 → Int32 → Int32 → Int32 → Option Int32} {i1 : Int32} {i2 : Int32} {i3 : Int32} {i4 : Int32} {i5 : Int32} {i6 : Int32} (hk6 : ∀ (j1 j2 j3 j4 j5 : Int32) (z : Int32), k6 j1 j2 j3 j4 j5 = some z → X ξ mX9_isPermitted 6 [.ref 149, .int j1, .int j2, .int j3, .int j4, .int j5] [] SH M 0 0 (xr (some (.int z)) SH M)) {z : Int32} (h : f_X9_isPermitted_99 M k6 i1 i2 i3 i4 i5 i6 = some z) : X ξ mX9_isPermitted 99 [.ref 149, .int i1, .int i2, .int i3, .int i4, .int i5, .int i6] [] SH M 0 0 (xr (some (.int z)) SH M) := by
  rw [f_X9_isPermitted_99] at h
  refine X_iconst 1 dX9_isPermitted_99 rfl ?_
  refine X_goto 104 dX9_isPermitted_100 (by decide) ?_
  exact x_X9_isPermitted_104 hk6 h
def f_X9_isPermitted_103 (M : xM) (k6 : Int32 → Int32 → Int32 → Int32 → Int32 → Option Int32) (i1 : Int32) (i2 : Int32) (i3 : Int32) (i4 : Int32) (i5 : Int32) (i6 : Int32) : Option Int32 :=
  f_X9_isPermitted_104 M k6 i1 i2 i3 i4 i5 i6 0
set_option maxHeartbeats 1000000 in
theorem x_X9_isPermitted_103 {ξ : xX} {M : xM} {k6 : Int32 → Int32 → Int32 → Int32 → Int32 → Option Int32} {i1 : Int32} {i2 : Int32} {i3 : Int32} {i4 : Int32} {i5 : Int32} {i6 : Int32} (hk6 : ∀ (j1 j2 j3 j4 j5 : Int32) (z : Int32), k6 j1 j2 j3 j4 j5 = some z → X ξ mX9_isPermitted 6 [.ref 149, .int j1, .int j2, .int j3, .int j4, .int j5] [] SH M 0 0 (xr (some (.int z)) SH M)) {z : Int32} (h : f_X9_isPermitted_103 M k6 i1 i2 i3 i4 i5 i6 = some z) : X ξ mX9_isPermitted 103 [.ref 149, .int i1, .int i2, .int i3, .int i4, .int i5, .int i6] [] SH M 0 0 (xr (some (.int z)) SH M) := by
  rw [f_X9_isPermitted_103] at h
  refine X_iconst 0 dX9_isPermitted_103 rfl ?_
  exact x_X9_isPermitted_104 hk6 h
def f_X9_isPermitted_6 (M : xM) : Nat → Int32 → Int32 → Int32 → Int32 → Int32 → Option Int32
  | 0, _, _, _, _, _ => none
  | fu + 1, i1, i2, i3, i4, i5 =>
    xgd (xin 5 916) <|
    if (M 150 (5 : Int32).toNatClampNeg) ≤ i5 then (
      xgd (xz i4) (some i4))
    else (
      xl (636 + (5 * i5)) fun v8 =>
      if i4 = 0 then (
        xgd (xin v8 916) <|
        if (M 150 v8.toNatClampNeg) = i1 then (
          xgd (xin (v8 + 1) 916) <|
          if (M 150 (v8 + 1).toNatClampNeg) = i2 then (
            xgd (xin (v8 + 2) 916) <|
            if (M 150 (v8 + 2).toNatClampNeg) < i3 then (
              f_X9_isPermitted_103 M (f_X9_isPermitted_6 M fu) i1 i2 i3 i4 i5 v8)
            else (
              xgd (xin (v8 + 3) 916) <|
              xgd (xin 0 916) <|
              if (M 150 (v8 + 3).toNatClampNeg) < (M 150 (0 : Int32).toNatClampNeg) then (
                f_X9_isPermitted_103 M (f_X9_isPermitted_6 M fu) i1 i2 i3 i4 i5 v8)
              else (
                xgd (xin (v8 + 4) 916) <|
                if (M 150 (v8 + 4).toNatClampNeg) = 0 then (
                  f_X9_isPermitted_99 M (f_X9_isPermitted_6 M fu) i1 i2 i3 i4 i5 v8)
                else (
                  f_X9_isPermitted_103 M (f_X9_isPermitted_6 M fu) i1 i2 i3 i4 i5 v8))))
          else (
            f_X9_isPermitted_103 M (f_X9_isPermitted_6 M fu) i1 i2 i3 i4 i5 v8))
        else (
          f_X9_isPermitted_103 M (f_X9_isPermitted_6 M fu) i1 i2 i3 i4 i5 v8))
      else (
        f_X9_isPermitted_99 M (f_X9_isPermitted_6 M fu) i1 i2 i3 i4 i5 v8))
set_option maxHeartbeats 1000000 in
theorem x_X9_isPermitted_6 {ξ : xX} {M : xM} : ∀ (fu : Nat) (i1 i2 i3 i4 i5 : Int32) (z : Int32), f_X9_isPermitted_6 M fu i1 i2 i3 i4 i5 = some z → X ξ mX9_isPermitted 6 [.ref 149, .int i1, .int i2, .int i3, .int i4, .int i5] [] SH M 0 0 (xr (some (.int z)) SH M) := by
  intro fu
  induction fu with
  | zero => intro i1 i2 i3 i4 i5 z h; rw [f_X9_isPermitted_6] at h; cases h
  | succ fu ih =>
    intro i1 i2 i3 i4 i5 z h
    rw [f_X9_isPermitted_6] at h
    refine X_iload (x := i5) dX9_isPermitted_6 rfl ?_
    refine X_aload_n (x := 149) dX9_isPermitted_8 rfl ?_
    refine X_get (v := .ref 150) kF_RX9_7 sh_149 rfl rfl dX9_isPermitted_9 ?_
    refine X_iconst 5 dX9_isPermitted_12 rfl ?_
    refine X_iald sh_150 dX9_isPermitted_13 h (fun h => ?_)
    refine X_icmp_ge 112 dX9_isPermitted_14 (by decide) h (fun h => ?_) (fun h => ?_)
    · refine X_iload (x := i4) dX9_isPermitted_112 rfl ?_
      exact X_retZ dX9_isPermitted_114 rfl (Nat.le_refl _) (Nat.le_refl _) h
    · refine X_sipush 636 dX9_isPermitted_17 rfl ?_
      refine X_iconst 5 dX9_isPermitted_20 rfl ?_
      refine X_iload (x := i5) dX9_isPermitted_21 rfl ?_
      refine X_imul dX9_isPermitted_23 ?_
      refine X_iadd dX9_isPermitted_24 ?_
      refine X_istoreL (fun v8 => [.ref 149, .int i1, .int i2, .int i3, .int i4, .int i5, .int v8]) dX9_isPermitted_25 (Nat.le_of_ble_eq_true rfl) (Nat.le_of_ble_eq_true rfl) (xcat1_of rfl) h (fun _ => rfl) (fun v8 h => ?_)
      refine X_iload (x := i4) dX9_isPermitted_27 rfl ?_
      refine X_if_ne 99 dX9_isPermitted_29 (by decide) h (fun h => ?_) (fun h => ?_)
      · exact x_X9_isPermitted_99 ih h
      · refine X_aload_n (x := 149) dX9_isPermitted_32 rfl ?_
        refine X_get (v := .ref 150) kF_RX9_7 sh_149 rfl rfl dX9_isPermitted_33 ?_
        refine X_iload (x := v8) dX9_isPermitted_36 rfl ?_
        refine X_iald sh_150 dX9_isPermitted_38 h (fun h => ?_)
        refine X_iload_n (x := i1) dX9_isPermitted_39 rfl ?_
        refine X_icmp_ne 103 dX9_isPermitted_40 (by decide) h (fun h => ?_) (fun h => ?_)
        · exact x_X9_isPermitted_103 ih h
        · refine X_aload_n (x := 149) dX9_isPermitted_43 rfl ?_
          refine X_get (v := .ref 150) kF_RX9_7 sh_149 rfl rfl dX9_isPermitted_44 ?_
          refine X_iload (x := v8) dX9_isPermitted_47 rfl ?_
          refine X_iconst 1 dX9_isPermitted_49 rfl ?_
          refine X_iadd dX9_isPermitted_50 ?_
          refine X_iald sh_150 dX9_isPermitted_51 h (fun h => ?_)
          refine X_iload_n (x := i2) dX9_isPermitted_52 rfl ?_
          refine X_icmp_ne 103 dX9_isPermitted_53 (by decide) h (fun h => ?_) (fun h => ?_)
          · exact x_X9_isPermitted_103 ih h
          · refine X_aload_n (x := 149) dX9_isPermitted_56 rfl ?_
            refine X_get (v := .ref 150) kF_RX9_7 sh_149 rfl rfl dX9_isPermitted_57 ?_
            refine X_iload (x := v8) dX9_isPermitted_60 rfl ?_
            refine X_iconst 2 dX9_isPermitted_62 rfl ?_
            refine X_iadd dX9_isPermitted_63 ?_
            refine X_iald sh_150 dX9_isPermitted_64 h (fun h => ?_)
            refine X_iload_n (x := i3) dX9_isPermitted_65 rfl ?_
            refine X_icmp_lt 103 dX9_isPermitted_66 (by decide) h (fun h => ?_) (fun h => ?_)
            · exact x_X9_isPermitted_103 ih h
            · refine X_aload_n (x := 149) dX9_isPermitted_69 rfl ?_
              refine X_get (v := .ref 150) kF_RX9_7 sh_149 rfl rfl dX9_isPermitted_70 ?_
              refine X_iload (x := v8) dX9_isPermitted_73 rfl ?_
              refine X_iconst 3 dX9_isPermitted_75 rfl ?_
              refine X_iadd dX9_isPermitted_76 ?_
              refine X_iald sh_150 dX9_isPermitted_77 h (fun h => ?_)
              refine X_aload_n (x := 149) dX9_isPermitted_78 rfl ?_
              refine X_get (v := .ref 150) kF_RX9_7 sh_149 rfl rfl dX9_isPermitted_79 ?_
              refine X_iconst 0 dX9_isPermitted_82 rfl ?_
              refine X_iald sh_150 dX9_isPermitted_83 h (fun h => ?_)
              refine X_icmp_lt 103 dX9_isPermitted_84 (by decide) h (fun h => ?_) (fun h => ?_)
              · exact x_X9_isPermitted_103 ih h
              · refine X_aload_n (x := 149) dX9_isPermitted_87 rfl ?_
                refine X_get (v := .ref 150) kF_RX9_7 sh_149 rfl rfl dX9_isPermitted_88 ?_
                refine X_iload (x := v8) dX9_isPermitted_91 rfl ?_
                refine X_iconst 4 dX9_isPermitted_93 rfl ?_
                refine X_iadd dX9_isPermitted_94 ?_
                refine X_iald sh_150 dX9_isPermitted_95 h (fun h => ?_)
                refine X_if_ne 103 dX9_isPermitted_96 (by decide) h (fun h => ?_) (fun h => ?_)
                · exact x_X9_isPermitted_103 ih h
                · exact x_X9_isPermitted_99 ih h
def f_X9_isPermitted (M : xM) (a1 a2 a3 : Int32) : Option Int32 :=
  xl (0 : Int32) fun v9 =>
  xl (0 : Int32) fun v10 =>
  f_X9_isPermitted_6 M xFU a1 a2 a3 v9 v10
set_option maxHeartbeats 1000000 in
theorem x_X9_isPermitted {ξ : xX} {M : xM} {a1 a2 a3 : Int32} {z : Int32} (h : f_X9_isPermitted M a1 a2 a3 = some z) : X ξ mX9_isPermitted 0 [.ref 149, .int a1, .int a2, .int a3] [] SH M 0 0 (xr (some (.int z)) SH M) := by
  rw [f_X9_isPermitted] at h
  refine X_iconst 0 dX9_isPermitted_0 rfl ?_
  refine X_istoreL (fun v9 => [.ref 149, .int a1, .int a2, .int a3, .int v9]) dX9_isPermitted_1 (Nat.le_of_ble_eq_true rfl) (Nat.le_of_ble_eq_true rfl) (xcat1_of rfl) h (fun _ => rfl) (fun v9 h => ?_)
  refine X_iconst 0 dX9_isPermitted_3 rfl ?_
  refine X_istoreL (fun v10 => [.ref 149, .int a1, .int a2, .int a3, .int v9, .int v10]) dX9_isPermitted_4 (Nat.le_of_ble_eq_true rfl) (Nat.le_of_ble_eq_true rfl) (xcat1_of rfl) h (fun _ => rfl) (fun v10 h => ?_)
  exact x_X9_isPermitted_6 _ _ _ _ _ _ _ h
def f_X9_shared_66 (M : xM) (i1 : Int32) (i2 : Int32) (i3 : Int32) (i4 : Int32) (i5 : Int32) (i6 : Int32) (i7 : Int32) (s0 : Int32) : Option Int32 :=
  xl s0 fun v4 =>
  xgd (xin (i6 + 2) 916) <|
  if (M 150 (i6 + 2).toNatClampNeg) = i5 then (
    some 0)
  else (
    xgd (xin 0 916) <|
    xgd (xin (i6 + 3) 916) <|
    if (M 150 (i6 + 3).toNatClampNeg) ≤ (M 150 (0 : Int32).toNatClampNeg) then (
      some 0)
    else (
      if v4 ≤ i7 then (
        some 0)
      else (
        some (v4 - i7))))
set_option maxHeartbeats 1000000 in
theorem x_X9_shared_66 {ξ : xX} {M : xM} {i1 : Int32} {i2 : Int32} {i3 : Int32} {i4 : Int32} {i5 : Int32} {i6 : Int32} {i7 : Int32} {s0 : Int32} {z : Int32} (h : f_X9_shared_66 M i1 i2 i3 i4 i5 i6 i7 s0 = some z) : X ξ mX9_shared 66 [.ref 149, .int i1, .int i2, .int i3, .int i4, .int i5, .int i6, .int i7] [.int s0] SH M 0 0 (xr (some (.int z)) SH M) := by
  rw [f_X9_shared_66] at h
  refine X_istoreL (fun v4 => [.ref 149, .int i1, .int i2, .int i3, .int i4, .int i5, .int i6, .int i7, .int v4]) dX9_shared_66 (Nat.le_of_ble_eq_true rfl) (Nat.le_of_ble_eq_true rfl) (xcat1_of rfl) h (fun _ => rfl) (fun v4 h => ?_)
  refine X_aload_n (x := 149) dX9_shared_68 rfl ?_
  refine X_get (v := .ref 150) kF_RX9_7 sh_149 rfl rfl dX9_shared_69 ?_
  refine X_iload (x := i6) dX9_shared_72 rfl ?_
  refine X_iconst 2 dX9_shared_74 rfl ?_
  refine X_iadd dX9_shared_75 ?_
  refine X_iald sh_150 dX9_shared_76 h (fun h => ?_)
  refine X_iload (x := i5) dX9_shared_77 rfl ?_
  refine X_icmp_eq 115 dX9_shared_79 (by decide) h (fun h => ?_) (fun h => ?_)
  · refine X_iconst 0 dX9_shared_115 rfl ?_
    exact X_retP dX9_shared_116 rfl (Nat.le_refl _) (Nat.le_refl _) h
  · refine X_aload_n (x := 149) dX9_shared_82 rfl ?_
    refine X_get (v := .ref 150) kF_RX9_7 sh_149 rfl rfl dX9_shared_83 ?_
    refine X_iconst 0 dX9_shared_86 rfl ?_
    refine X_iald sh_150 dX9_shared_87 h (fun h => ?_)
    refine X_aload_n (x := 149) dX9_shared_88 rfl ?_
    refine X_get (v := .ref 150) kF_RX9_7 sh_149 rfl rfl dX9_shared_89 ?_
    refine X_iload (x := i6) dX9_shared_92 rfl ?_
    refine X_iconst 3 dX9_shared_94 rfl ?_
    refine X_iadd dX9_shared_95 ?_
    refine X_iald sh_150 dX9_shared_96 h (fun h => ?_)
    refine X_icmp_ge 115 dX9_shared_97 (by decide) h (fun h => ?_) (fun h => ?_)
    · refine X_iconst 0 dX9_shared_115 rfl ?_
      exact X_retP dX9_shared_116 rfl (Nat.le_refl _) (Nat.le_refl _) h
    · refine X_iload (x := v4) dX9_shared_100 rfl ?_
      refine X_iload (x := i7) dX9_shared_102 rfl ?_
      refine X_icmp_le 115 dX9_shared_104 (by decide) h (fun h => ?_) (fun h => ?_)
      · refine X_iconst 0 dX9_shared_115 rfl ?_
        exact X_retP dX9_shared_116 rfl (Nat.le_refl _) (Nat.le_refl _) h
      · refine X_iload (x := v4) dX9_shared_107 rfl ?_
        refine X_iload (x := i7) dX9_shared_109 rfl ?_
        refine X_isub dX9_shared_111 ?_
        refine X_goto 116 dX9_shared_112 (by decide) ?_
        exact X_retP dX9_shared_116 rfl (Nat.le_refl _) (Nat.le_refl _) h
def f_X9_shared_36 (M : xM) (i1 : Int32) (i2 : Int32) (i3 : Int32) (i4 : Int32) (i5 : Int32) (i6 : Int32) (s0 : Int32) : Option Int32 :=
  xl s0 fun v5 =>
  xgd (xin (i6 + 1) 916) <|
  if i4 ≤ (M 150 (i6 + 1).toNatClampNeg) then (
    f_X9_shared_66 M i1 i2 i3 i4 i5 i6 v5 i4)
  else (
    xgd (xin (i6 + 1) 916) <|
    f_X9_shared_66 M i1 i2 i3 i4 i5 i6 v5 (M 150 (i6 + 1).toNatClampNeg))
set_option maxHeartbeats 1000000 in
theorem x_X9_shared_36 {ξ : xX} {M : xM} {i1 : Int32} {i2 : Int32} {i3 : Int32} {i4 : Int32} {i5 : Int32} {i6 : Int32} {s0 : Int32} {z : Int32} (h : f_X9_shared_36 M i1 i2 i3 i4 i5 i6 s0 = some z) : X ξ mX9_shared 36 [.ref 149, .int i1, .int i2, .int i3, .int i4, .int i5, .int i6] [.int s0] SH M 0 0 (xr (some (.int z)) SH M) := by
  rw [f_X9_shared_36] at h
  refine X_istoreL (fun v5 => [.ref 149, .int i1, .int i2, .int i3, .int i4, .int i5, .int i6, .int v5]) dX9_shared_36 (Nat.le_of_ble_eq_true rfl) (Nat.le_of_ble_eq_true rfl) (xcat1_of rfl) h (fun _ => rfl) (fun v5 h => ?_)
  refine X_aload_n (x := 149) dX9_shared_38 rfl ?_
  refine X_get (v := .ref 150) kF_RX9_7 sh_149 rfl rfl dX9_shared_39 ?_
  refine X_iload (x := i6) dX9_shared_42 rfl ?_
  refine X_iconst 1 dX9_shared_44 rfl ?_
  refine X_iadd dX9_shared_45 ?_
  refine X_iald sh_150 dX9_shared_46 h (fun h => ?_)
  refine X_iload (x := i4) dX9_shared_47 rfl ?_
  refine X_icmp_ge 64 dX9_shared_49 (by decide) h (fun h => ?_) (fun h => ?_)
  · refine X_iload (x := i4) dX9_shared_64 rfl ?_
    exact x_X9_shared_66 h
  · refine X_aload_n (x := 149) dX9_shared_52 rfl ?_
    refine X_get (v := .ref 150) kF_RX9_7 sh_149 rfl rfl dX9_shared_53 ?_
    refine X_iload (x := i6) dX9_shared_56 rfl ?_
    refine X_iconst 1 dX9_shared_58 rfl ?_
    refine X_iadd dX9_shared_59 ?_
    refine X_iald sh_150 dX9_shared_60 h (fun h => ?_)
    refine X_goto 66 dX9_shared_61 (by decide) ?_
    exact x_X9_shared_66 h
def f_X9_shared (M : xM) (a1 a2 a3 a4 a5 : Int32) : Option Int32 :=
  xl ((164 + (16 * a1)) + (4 * a2)) fun v6 =>
  xgd (xin v6 916) <|
  if (M 150 v6.toNatClampNeg) ≤ a3 then (
    f_X9_shared_36 M a1 a2 a3 a4 a5 v6 a3)
  else (
    xgd (xin v6 916) <|
    f_X9_shared_36 M a1 a2 a3 a4 a5 v6 (M 150 v6.toNatClampNeg))
set_option maxHeartbeats 1000000 in
theorem x_X9_shared {ξ : xX} {M : xM} {a1 a2 a3 a4 a5 : Int32} {z : Int32} (h : f_X9_shared M a1 a2 a3 a4 a5 = some z) : X ξ mX9_shared 0 [.ref 149, .int a1, .int a2, .int a3, .int a4, .int a5] [] SH M 0 0 (xr (some (.int z)) SH M) := by
  rw [f_X9_shared] at h
  refine X_sipush 164 dX9_shared_0 rfl ?_
  refine X_bipush 16 dX9_shared_3 rfl ?_
  refine X_iload_n (x := a1) dX9_shared_5 rfl ?_
  refine X_imul dX9_shared_6 ?_
  refine X_iadd dX9_shared_7 ?_
  refine X_iconst 4 dX9_shared_8 rfl ?_
  refine X_iload_n (x := a2) dX9_shared_9 rfl ?_
  refine X_imul dX9_shared_10 ?_
  refine X_iadd dX9_shared_11 ?_
  refine X_istoreL (fun v6 => [.ref 149, .int a1, .int a2, .int a3, .int a4, .int a5, .int v6]) dX9_shared_12 (Nat.le_of_ble_eq_true rfl) (Nat.le_of_ble_eq_true rfl) (xcat1_of rfl) h (fun _ => rfl) (fun v6 h => ?_)
  refine X_aload_n (x := 149) dX9_shared_14 rfl ?_
  refine X_get (v := .ref 150) kF_RX9_7 sh_149 rfl rfl dX9_shared_15 ?_
  refine X_iload (x := v6) dX9_shared_18 rfl ?_
  refine X_iald sh_150 dX9_shared_20 h (fun h => ?_)
  refine X_iload_n (x := a3) dX9_shared_21 rfl ?_
  refine X_icmp_le 35 dX9_shared_22 (by decide) h (fun h => ?_) (fun h => ?_)
  · refine X_iload_n (x := a3) dX9_shared_35 rfl ?_
    exact x_X9_shared_36 h
  · refine X_aload_n (x := 149) dX9_shared_25 rfl ?_
    refine X_get (v := .ref 150) kF_RX9_7 sh_149 rfl rfl dX9_shared_26 ?_
    refine X_iload (x := v6) dX9_shared_29 rfl ?_
    refine X_iald sh_150 dX9_shared_31 h (fun h => ?_)
    refine X_goto 36 dX9_shared_32 (by decide) ?_
    exact x_X9_shared_36 h
def f_X9_lacks_82 (M : xM) (k6 : Int32 → Int32 → Int32 → Int32 → Int32 → Int32 → Int32 → Option Int32) (i1 : Int32) (i2 : Int32) (i3 : Int32) (i4 : Int32) (i5 : Int32) (i6 : Int32) (i7 : Int32) (i8 : Int32) (s0 : Int32) (s1 : Int32) : Option Int32 :=
  xl (s0 ||| s1) fun v6 =>
  xl (i7 + 1) fun v7 =>
  k6 i1 i2 i3 i4 i5 v6 v7
set_option maxHeartbeats 1000000 in
theorem x_X9_lacks_82 {ξ : xX} {M : xM} {k6 : Int32 → Int32 → Int32 → Int32 → Int32 → Int32 → Int32 → Option Int32} {i1 : Int32} {i2 : Int32} {i3 : Int32} {i4 : Int32} {i5 : Int32} {i6 : Int32} {i7 : Int32} {i8 : Int32} {s0 : Int32} {s1 : Int32} (hk6 : ∀ (j1 j2 j3 j4 j5 j6 j7 : Int32) (z : Int32), k6 j1 j2 j3 j4 j5 j6 j7 = some z → X ξ mX9_lacks 6 [.ref 149, .int j1, .int j2, .int j3, .int j4, .int j5, .int j6, .int j7] [] SH M 0 0 (xr (some (.int z)) SH M)) {z : Int32} (h : f_X9_lacks_82 M k6 i1 i2 i3 i4 i5 i6 i7 i8 s0 s1 = some z) : X ξ mX9_lacks 82 [.ref 149, .int i1, .int i2, .int i3, .int i4, .int i5, .int i6, .int i7, .int i8] [.int s1, .int s0] SH M 0 0 (xr (some (.int z)) SH M) := by
  rw [f_X9_lacks_82] at h
  refine X_ior dX9_lacks_82 ?_
  refine X_istoreL (fun v6 => [.ref 149, .int i1, .int i2, .int i3, .int i4, .int i5, .int v6, .int i7, .int i8]) dX9_lacks_83 (Nat.le_of_ble_eq_true rfl) (Nat.le_of_ble_eq_true rfl) (xcat1_of rfl) h (fun _ => rfl) (fun v6 h => ?_)
  refine X_iincL (x := i7) 1 (fun v7 => [.ref 149, .int i1, .int i2, .int i3, .int i4, .int i5, .int v6, .int v7, .int i8]) dX9_lacks_85 rfl rfl (Nat.le_of_ble_eq_true rfl) (xcat1_of rfl) h (fun _ => rfl) (fun v7 h => ?_)
  refine X_goto 6 dX9_lacks_88 (by decide) ?_
  refine X_cut 8 ?_
  exact hk6 _ _ _ _ _ _ _ _ h
def f_X9_lacks_81 (M : xM) (k6 : Int32 → Int32 → Int32 → Int32 → Int32 → Int32 → Int32 → Option Int32) (i1 : Int32) (i2 : Int32) (i3 : Int32) (i4 : Int32) (i5 : Int32) (i6 : Int32) (i7 : Int32) (i8 : Int32) (s0 : Int32) : Option Int32 :=
  f_X9_lacks_82 M k6 i1 i2 i3 i4 i5 i6 i7 i8 s0 0
set_option maxHeartbeats 1000000 in
theorem x_X9_lacks_81 {ξ : xX} {M : xM} {k6 : Int32 → Int32 → Int32 → Int32 → Int32 → Int32 → Int32 → Option Int32} {i1 : Int32} {i2 : Int32} {i3 : Int32} {i4 : Int32} {i5 : Int32} {i6 : Int32} {i7 : Int32} {i8 : Int32} {s0 : Int32} (hk6 : ∀ (j1 j2 j3 j4 j5 j6 j7 : Int32) (z : Int32), k6 j1 j2 j3 j4 j5 j6 j7 = some z → X ξ mX9_lacks 6 [.ref 149, .int j1, .int j2, .int j3, .int j4, .int j5, .int j6, .int j7] [] SH M 0 0 (xr (some (.int z)) SH M)) {z : Int32} (h : f_X9_lacks_81 M k6 i1 i2 i3 i4 i5 i6 i7 i8 s0 = some z) : X ξ mX9_lacks 81 [.ref 149, .int i1, .int i2, .int i3, .int i4, .int i5, .int i6, .int i7, .int i8] [.int s0] SH M 0 0 (xr (some (.int z)) SH M) := by
  rw [f_X9_lacks_81] at h
  refine X_iconst 0 dX9_lacks_81 rfl ?_
  exact x_X9_lacks_82 hk6 h
def f_X9_lacks_6 (M : xM) : Nat → Int32 → Int32 → Int32 → Int32 → Int32 → Int32 → Int32 → Option Int32
  | 0, _, _, _, _, _, _, _ => none
  | fu + 1, i1, i2, i3, i4, i5, i6, i7 =>
    xgd (xin ((84 + (5 * i2)) + 4) 916) <|
    if (M 150 ((84 + (5 * i2)) + 4).toNatClampNeg) ≤ i7 then (
      some i6)
    else (
      xgd (xin (((164 + (16 * i2)) + (4 * i7)) + 2) 916) <|
      xl (M 150 (((164 + (16 * i2)) + (4 * i7)) + 2).toNatClampNeg) fun v8 =>
      xb (f_X9_shared M i2 i7 i3 i4 i1) fun v9 =>
      if v9 ≤ 0 then (
        f_X9_lacks_81 M (f_X9_lacks_6 M fu) i1 i2 i3 i4 i5 i6 i7 v8 i6)
      else (
        xb (f_X9_isPermitted M v8 i1 i5) fun v10 =>
        if v10 = 0 then (
          f_X9_lacks_82 M (f_X9_lacks_6 M fu) i1 i2 i3 i4 i5 i6 i7 v8 i6 ((1 : Int32) <<< ((i7 : Int32) &&& 31)))
        else (
          f_X9_lacks_81 M (f_X9_lacks_6 M fu) i1 i2 i3 i4 i5 i6 i7 v8 i6)))
set_option maxHeartbeats 1000000 in
theorem x_X9_lacks_6 {ξ : xX} {M : xM} : ∀ (fu : Nat) (i1 i2 i3 i4 i5 i6 i7 : Int32) (z : Int32), f_X9_lacks_6 M fu i1 i2 i3 i4 i5 i6 i7 = some z → X ξ mX9_lacks 6 [.ref 149, .int i1, .int i2, .int i3, .int i4, .int i5, .int i6, .int i7] [] SH M 0 0 (xr (some (.int z)) SH M) := by
  intro fu
  induction fu with
  | zero => intro i1 i2 i3 i4 i5 i6 i7 z h; rw [f_X9_lacks_6] at h; cases h
  | succ fu ih =>
    intro i1 i2 i3 i4 i5 i6 i7 z h
    rw [f_X9_lacks_6] at h
    refine X_iload (x := i7) dX9_lacks_6 rfl ?_
    refine X_aload_n (x := 149) dX9_lacks_8 rfl ?_
    refine X_get (v := .ref 150) kF_RX9_7 sh_149 rfl rfl dX9_lacks_9 ?_
    refine X_bipush 84 dX9_lacks_12 rfl ?_
    refine X_iconst 5 dX9_lacks_14 rfl ?_
    refine X_iload_n (x := i2) dX9_lacks_15 rfl ?_
    refine X_imul dX9_lacks_16 ?_
    refine X_iadd dX9_lacks_17 ?_
    refine X_iconst 4 dX9_lacks_18 rfl ?_
    refine X_iadd dX9_lacks_19 ?_
    refine X_iald sh_150 dX9_lacks_20 h (fun h => ?_)
    refine X_icmp_ge 91 dX9_lacks_21 (by decide) h (fun h => ?_) (fun h => ?_)
    · refine X_iload (x := i6) dX9_lacks_91 rfl ?_
      exact X_retP dX9_lacks_93 rfl (Nat.le_refl _) (Nat.le_refl _) h
    · refine X_aload_n (x := 149) dX9_lacks_24 rfl ?_
      refine X_get (v := .ref 150) kF_RX9_7 sh_149 rfl rfl dX9_lacks_25 ?_
      refine X_sipush 164 dX9_lacks_28 rfl ?_
      refine X_bipush 16 dX9_lacks_31 rfl ?_
      refine X_iload_n (x := i2) dX9_lacks_33 rfl ?_
      refine X_imul dX9_lacks_34 ?_
      refine X_iadd dX9_lacks_35 ?_
      refine X_iconst 4 dX9_lacks_36 rfl ?_
      refine X_iload (x := i7) dX9_lacks_37 rfl ?_
      refine X_imul dX9_lacks_39 ?_
      refine X_iadd dX9_lacks_40 ?_
      refine X_iconst 2 dX9_lacks_41 rfl ?_
      refine X_iadd dX9_lacks_42 ?_
      refine X_iald sh_150 dX9_lacks_43 h (fun h => ?_)
      refine X_istoreL (fun v8 => [.ref 149, .int i1, .int i2, .int i3, .int i4, .int i5, .int i6, .int i7, .int v8]) dX9_lacks_44 (Nat.le_of_ble_eq_true rfl) (Nat.le_of_ble_eq_true rfl) (xcat1_of rfl) h (fun _ => rfl) (fun v8 h => ?_)
      refine X_iload (x := i6) dX9_lacks_46 rfl ?_
      refine X_aload_n (x := 149) dX9_lacks_48 rfl ?_
      refine X_iload_n (x := i2) dX9_lacks_49 rfl ?_
      refine X_iload (x := i7) dX9_lacks_50 rfl ?_
      refine X_iload_n (x := i3) dX9_lacks_52 rfl ?_
      refine X_iload (x := i4) dX9_lacks_53 rfl ?_
      refine X_iload_n (x := i1) dX9_lacks_55 rfl ?_
      refine X_vP (μ' := mX9_shared) [.int i2, .int i7, .int i3, .int i4, .int i1] [.int i6] kL_RX9_123 kM_X9_shared rv_149 rfl rfl rfl dX9_lacks_56 h (fun _ hv => x_X9_shared hv) (fun v9 h => ?_)
      refine X_if_le 81 dX9_lacks_59 (by decide) h (fun h => ?_) (fun h => ?_)
      · exact x_X9_lacks_81 ih h
      · refine X_aload_n (x := 149) dX9_lacks_62 rfl ?_
        refine X_iload (x := v8) dX9_lacks_63 rfl ?_
        refine X_iload_n (x := i1) dX9_lacks_65 rfl ?_
        refine X_iload (x := i5) dX9_lacks_66 rfl ?_
        refine X_vP (μ' := mX9_isPermitted) [.int v8, .int i1, .int i5] [.int i6] kL_RX9_126 kM_X9_isPermitted rv_149 rfl rfl rfl dX9_lacks_68 h (fun _ hv => x_X9_isPermitted hv) (fun v10 h => ?_)
        refine X_if_ne 81 dX9_lacks_71 (by decide) h (fun h => ?_) (fun h => ?_)
        · exact x_X9_lacks_81 ih h
        · refine X_iconst 1 dX9_lacks_74 rfl ?_
          refine X_iload (x := i7) dX9_lacks_75 rfl ?_
          refine X_ishl dX9_lacks_77 ?_
          refine X_goto 82 dX9_lacks_78 (by decide) ?_
          exact x_X9_lacks_82 ih h
def f_X9_lacks (M : xM) (a1 a2 a3 a4 a5 : Int32) : Option Int32 :=
  xl (0 : Int32) fun v11 =>
  xl (0 : Int32) fun v12 =>
  f_X9_lacks_6 M xFU a1 a2 a3 a4 a5 v11 v12
set_option maxHeartbeats 1000000 in
theorem x_X9_lacks {ξ : xX} {M : xM} {a1 a2 a3 a4 a5 : Int32} {z : Int32} (h : f_X9_lacks M a1 a2 a3 a4 a5 = some z) : X ξ mX9_lacks 0 [.ref 149, .int a1, .int a2, .int a3, .int a4, .int a5] [] SH M 0 0 (xr (some (.int z)) SH M) := by
  rw [f_X9_lacks] at h
  refine X_iconst 0 dX9_lacks_0 rfl ?_
  refine X_istoreL (fun v11 => [.ref 149, .int a1, .int a2, .int a3, .int a4, .int a5, .int v11]) dX9_lacks_1 (Nat.le_of_ble_eq_true rfl) (Nat.le_of_ble_eq_true rfl) (xcat1_of rfl) h (fun _ => rfl) (fun v11 h => ?_)
  refine X_iconst 0 dX9_lacks_3 rfl ?_
  refine X_istoreL (fun v12 => [.ref 149, .int a1, .int a2, .int a3, .int a4, .int a5, .int v11, .int v12]) dX9_lacks_4 (Nat.le_of_ble_eq_true rfl) (Nat.le_of_ble_eq_true rfl) (xcat1_of rfl) h (fun _ => rfl) (fun v12 h => ?_)
  exact x_X9_lacks_6 _ _ _ _ _ _ _ _ _ h
def f_X9_price (a1 : Int32) : Option Int32 :=
  if a1 = 0 then (
    some 0)
  else (
    if a1 = 1 then (
      some 1)
    else (
      some 3))
set_option maxHeartbeats 1000000 in
theorem x_X9_price {ξ : xX} {M : xM} {a1 : Int32} {z : Int32} (h : f_X9_price a1 = some z) : X ξ mX9_price 0 [.int a1] [] SH M 0 0 (xr (some (.int z)) SH M) := by
  rw [f_X9_price] at h
  refine X_iload_n (x := a1) dX9_price_0 rfl ?_
  refine X_if_ne 8 dX9_price_1 (by decide) h (fun h => ?_) (fun h => ?_)
  · refine X_iload_n (x := a1) dX9_price_8 rfl ?_
    refine X_iconst 1 dX9_price_9 rfl ?_
    refine X_icmp_ne 17 dX9_price_10 (by decide) h (fun h => ?_) (fun h => ?_)
    · refine X_iconst 3 dX9_price_17 rfl ?_
      exact X_retP dX9_price_18 rfl (Nat.le_refl _) (Nat.le_refl _) h
    · refine X_iconst 1 dX9_price_13 rfl ?_
      refine X_goto 18 dX9_price_14 (by decide) ?_
      exact X_retP dX9_price_18 rfl (Nat.le_refl _) (Nat.le_refl _) h
  · refine X_iconst 0 dX9_price_4 rfl ?_
    refine X_goto 18 dX9_price_5 (by decide) ?_
    exact X_retP dX9_price_18 rfl (Nat.le_refl _) (Nat.le_refl _) h
