def f_X9_next_68 (M : xM) (k9 : Int32 → Int32 → Option Int32) (k25 : Int32 → Int32 → Int32 → Int32 → Option Int32) (i1 : Int32) (i2 : Int32) (i3 : Int32) (i4 : Int32) (s0 : Int32) (s1 : Int32) : Option Int32 :=
  xl (s0 + s1) fun v7 =>
  xl (i4 + 1) fun v8 =>
  k25 i1 i2 v7 v8
set_option maxHeartbeats 1000000 in
theorem x_X9_next_68 {ξ : xX} {M : xM} {k9 : Int32 → Int32 → Option Int32} {k25 : Int32 → Int32 → Int32 → Int32 → Option Int32} {i1 : Int32} {i2 : Int32} {i3 : Int32} {i4 : Int32} {s0 : Int32} {s1 : Int32} (hk9 : ∀ (j1 j2 : Int32) (z : Int32), k9 j1 j2 = some z → X ξ mX9_next 9 [.ref 149, .int j1, .int j2] [] SH M 0 0 (xr (some (.int z)) SH M)) (hk25 : ∀ (j1 j2 j3 j4 : Int32) (z : Int32), k25 j1 j2 j3 j4 = some z → X ξ mX9_next 25 [.ref 149, .int j1, .int j2, .int j3, .int j4] [] SH M 0 0 (xr (some (.int z)) SH M)) {z : Int32} (h : f_X9_next_68 M k9 k25 i1 i2 i3 i4 s0 s1 = some z) : X ξ mX9_next 68 [.ref 149, .int i1, .int i2, .int i3, .int i4] [.int s1, .int s0] SH M 0 0 (xr (some (.int z)) SH M) := by
  rw [f_X9_next_68] at h
  refine X_iadd dX9_next_68 ?_
  refine X_istoreL_n (fun v7 => [.ref 149, .int i1, .int i2, .int v7, .int i4]) dX9_next_69 (Nat.le_of_ble_eq_true rfl) (Nat.le_of_ble_eq_true rfl) (xcat1_of rfl) h (fun _ => rfl) (fun v7 h => ?_)
  refine X_iincL (x := i4) 1 (fun v8 => [.ref 149, .int i1, .int i2, .int v7, .int v8]) dX9_next_70 rfl rfl (Nat.le_of_ble_eq_true rfl) (xcat1_of rfl) h (fun _ => rfl) (fun v8 h => ?_)
  refine X_goto 25 dX9_next_73 (by decide) ?_
  exact hk25 _ _ _ _ _ h
def f_X9_next_67 (M : xM) (k9 : Int32 → Int32 → Option Int32) (k25 : Int32 → Int32 → Int32 → Int32 → Option Int32) (i1 : Int32) (i2 : Int32) (i3 : Int32) (i4 : Int32) (s0 : Int32) : Option Int32 :=
  f_X9_next_68 M k9 k25 i1 i2 i3 i4 s0 0
set_option maxHeartbeats 1000000 in
theorem x_X9_next_67 {ξ : xX} {M : xM} {k9 : Int32 → Int32 → Option Int32} {k25 : Int32 → Int32 → Int32 → Int32 → Option Int32} {i1 : Int32} {i2 : Int32} {i3 : Int32} {i4 : Int32} {s0 : Int32} (hk9 : ∀ (j1 j2 : Int32) (z : Int32), k9 j1 j2 = some z → X ξ mX9_next 9 [.ref 149, .int j1, .int j2] [] SH M 0 0 (xr (some (.int z)) SH M)) (hk25 : ∀ (j1 j2 j3 j4 : Int32) (z : Int32), k25 j1 j2 j3 j4 = some z → X ξ mX9_next 25 [.ref 149, .int j1, .int j2, .int j3, .int j4] [] SH M 0 0 (xr (some (.int z)) SH M)) {z : Int32} (h : f_X9_next_67 M k9 k25 i1 i2 i3 i4 s0 = some z) : X ξ mX9_next 67 [.ref 149, .int i1, .int i2, .int i3, .int i4] [.int s0] SH M 0 0 (xr (some (.int z)) SH M) := by
  rw [f_X9_next_67] at h
  refine X_iconst 0 dX9_next_67 rfl ?_
  exact x_X9_next_68 hk9 hk25 h
def f_X9_next_91 (M : xM) (k9 : Int32 → Int32 → Option Int32) (i1 : Int32) (i2 : Int32) (i3 : Int32) (i4 : Int32) : Option Int32 :=
  xl (i2 + 1) fun v9 =>
  k9 i1 v9
set_option maxHeartbeats 1000000 in
theorem x_X9_next_91 {ξ : xX} {M : xM} {k9 : Int32 → Int32 → Option Int32} {i1 : Int32} {i2 : Int32} {i3 : Int32} {i4 : Int32} (hk9 : ∀ (j1 j2 : Int32) (z : Int32), k9 j1 j2 = some z → X ξ mX9_next 9 [.ref 149, .int j1, .int j2] [] SH M 0 0 (xr (some (.int z)) SH M)) {z : Int32} (h : f_X9_next_91 M k9 i1 i2 i3 i4 = some z) : X ξ mX9_next 91 [.ref 149, .int i1, .int i2, .int i3, .int i4] [] SH M 0 0 (xr (some (.int z)) SH M) := by
  rw [f_X9_next_91] at h
  refine X_iincL (x := i2) 1 (fun v9 => [.ref 149, .int i1, .int v9, .int i3, .int i4]) dX9_next_91 rfl rfl (Nat.le_of_ble_eq_true rfl) (xcat1_of rfl) h (fun _ => rfl) (fun v9 h => ?_)
  refine X_goto 9 dX9_next_94 (by decide) ?_
  refine X_cut 3 ?_
  exact hk9 _ _ _ h
def f_X9_next_25 (M : xM) (k9 : Int32 → Int32 → Option Int32) : Nat → Int32 → Int32 → Int32 → Int32 → Option Int32
  | 0, _, _, _, _ => none
  | fu + 1, i1, i2, i3, i4 =>
    xgd (xin 6 916) <|
    if (M 150 (6 : Int32).toNatClampNeg) ≤ i4 then (
      xb (f_X9_isOpen M i2) fun v10 =>
      if v10 = 0 then (
        f_X9_next_91 M k9 i1 i2 i3 i4)
      else (
        if i3 = i1 then (
          some i2)
        else (
          f_X9_next_91 M k9 i1 i2 i3 i4)))
    else (
      if i4 = i2 then (
        f_X9_next_67 M k9 (f_X9_next_25 M k9 fu) i1 i2 i3 i4 i3)
      else (
        xb (f_X9_isOpen M i4) fun v11 =>
        if v11 = 0 then (
          f_X9_next_67 M k9 (f_X9_next_25 M k9 fu) i1 i2 i3 i4 i3)
        else (
          xb (f_X9_isAhead M i4 i2) fun v12 =>
          if v12 = 0 then (
            f_X9_next_67 M k9 (f_X9_next_25 M k9 fu) i1 i2 i3 i4 i3)
          else (
            f_X9_next_68 M k9 (f_X9_next_25 M k9 fu) i1 i2 i3 i4 i3 1))))
set_option maxHeartbeats 1000000 in
theorem x_X9_next_25 {ξ : xX} {M : xM} {k9 : Int32 → Int32 → Option Int32} (hk9 : ∀ (j1 j2 : Int32) (z : Int32), k9 j1 j2 = some z → X ξ mX9_next 9 [.ref 149, .int j1, .int j2] [] SH M 0 0 (xr (some (.int z)) SH M)) : ∀ (fu : Nat) (i1 i2 i3 i4 : Int32) (z : Int32), f_X9_next_25 M k9 fu i1 i2 i3 i4 = some z → X ξ mX9_next 25 [.ref 149, .int i1, .int i2, .int i3, .int i4] [] SH M 0 0 (xr (some (.int z)) SH M) := by
  intro fu
  induction fu with
  | zero => intro i1 i2 i3 i4 z h; rw [f_X9_next_25] at h; cases h
  | succ fu ih =>
    intro i1 i2 i3 i4 z h
    rw [f_X9_next_25] at h
    refine X_iload (x := i4) dX9_next_25 rfl ?_
    refine X_aload_n (x := 149) dX9_next_27 rfl ?_
    refine X_get (v := .ref 150) kF_RX9_7 sh_149 rfl rfl dX9_next_28 ?_
    refine X_bipush 6 dX9_next_31 rfl ?_
    refine X_iald sh_150 dX9_next_33 h (fun h => ?_)
    refine X_icmp_ge 76 dX9_next_34 (by decide) h (fun h => ?_) (fun h => ?_)
    · refine X_aload_n (x := 149) dX9_next_76 rfl ?_
      refine X_iload_n (x := i2) dX9_next_77 rfl ?_
      refine X_vP (μ' := mX9_isOpen) [.int i2] [] kL_RX9_132 kM_X9_isOpen rv_149 rfl rfl rfl dX9_next_78 h (fun _ hv => x_X9_isOpen hv) (fun v10 h => ?_)
      refine X_if_eq 91 dX9_next_81 (by decide) h (fun h => ?_) (fun h => ?_)
      · exact x_X9_next_91 hk9 h
      · refine X_iload_n (x := i3) dX9_next_84 rfl ?_
        refine X_iload_n (x := i1) dX9_next_85 rfl ?_
        refine X_icmp_ne 91 dX9_next_86 (by decide) h (fun h => ?_) (fun h => ?_)
        · exact x_X9_next_91 hk9 h
        · refine X_iload_n (x := i2) dX9_next_89 rfl ?_
          exact X_retP dX9_next_90 rfl (Nat.le_refl _) (Nat.le_refl _) h
    · refine X_iload_n (x := i3) dX9_next_37 rfl ?_
      refine X_iload (x := i4) dX9_next_38 rfl ?_
      refine X_iload_n (x := i2) dX9_next_40 rfl ?_
      refine X_icmp_eq 67 dX9_next_41 (by decide) h (fun h => ?_) (fun h => ?_)
      · exact x_X9_next_67 hk9 ih h
      · refine X_aload_n (x := 149) dX9_next_44 rfl ?_
        refine X_iload (x := i4) dX9_next_45 rfl ?_
        refine X_vP (μ' := mX9_isOpen) [.int i4] [.int i3] kL_RX9_132 kM_X9_isOpen rv_149 rfl rfl rfl dX9_next_47 h (fun _ hv => x_X9_isOpen hv) (fun v11 h => ?_)
        refine X_if_eq 67 dX9_next_50 (by decide) h (fun h => ?_) (fun h => ?_)
        · exact x_X9_next_67 hk9 ih h
        · refine X_aload_n (x := 149) dX9_next_53 rfl ?_
          refine X_iload (x := i4) dX9_next_54 rfl ?_
          refine X_iload_n (x := i2) dX9_next_56 rfl ?_
          refine X_vP (μ' := mX9_isAhead) [.int i4, .int i2] [.int i3] kL_RX9_187 kM_X9_isAhead rv_149 rfl rfl rfl dX9_next_57 h (fun _ hv => x_X9_isAhead hv) (fun v12 h => ?_)
          refine X_if_eq 67 dX9_next_60 (by decide) h (fun h => ?_) (fun h => ?_)
          · exact x_X9_next_67 hk9 ih h
          · refine X_iconst 1 dX9_next_63 rfl ?_
            refine X_goto 68 dX9_next_64 (by decide) ?_
            exact x_X9_next_68 hk9 ih h
def f_X9_next_9 (M : xM) : Nat → Int32 → Int32 → Option Int32
  | 0, _, _ => none
  | fu + 1, i1, i2 =>
    xgd (xin 6 916) <|
    if (M 150 (6 : Int32).toNatClampNeg) ≤ i2 then (
      some (-6))
    else (
      xl (0 : Int32) fun v13 =>
      xl (0 : Int32) fun v14 =>
      f_X9_next_25 M (f_X9_next_9 M fu) xFU i1 i2 v13 v14)
set_option maxHeartbeats 1000000 in
theorem x_X9_next_9 {ξ : xX} {M : xM} : ∀ (fu : Nat) (i1 i2 : Int32) (z : Int32), f_X9_next_9 M fu i1 i2 = some z → X ξ mX9_next 9 [.ref 149, .int i1, .int i2] [] SH M 0 0 (xr (some (.int z)) SH M) := by
  intro fu
  induction fu with
  | zero => intro i1 i2 z h; rw [f_X9_next_9] at h; cases h
  | succ fu ih =>
    intro i1 i2 z h
    rw [f_X9_next_9] at h
    refine X_iload_n (x := i2) dX9_next_9 rfl ?_
    refine X_aload_n (x := 149) dX9_next_10 rfl ?_
    refine X_get (v := .ref 150) kF_RX9_7 sh_149 rfl rfl dX9_next_11 ?_
    refine X_bipush 6 dX9_next_14 rfl ?_
    refine X_iald sh_150 dX9_next_16 h (fun h => ?_)
    refine X_icmp_ge 97 dX9_next_17 (by decide) h (fun h => ?_) (fun h => ?_)
    · refine X_bipush (-6) dX9_next_97 rfl ?_
      exact X_retP dX9_next_99 rfl (Nat.le_refl _) (Nat.le_refl _) h
    · refine X_iconst 0 dX9_next_20 rfl ?_
      refine X_istoreL_n (fun v13 => [.ref 149, .int i1, .int i2, .int v13]) dX9_next_21 (Nat.le_of_ble_eq_true rfl) (Nat.le_of_ble_eq_true rfl) (xcat1_of rfl) h (fun _ => rfl) (fun v13 h => ?_)
      refine X_iconst 0 dX9_next_22 rfl ?_
      refine X_istoreL (fun v14 => [.ref 149, .int i1, .int i2, .int v13, .int v14]) dX9_next_23 (Nat.le_of_ble_eq_true rfl) (Nat.le_of_ble_eq_true rfl) (xcat1_of rfl) h (fun _ => rfl) (fun v14 h => ?_)
      exact x_X9_next_25 ih _ _ _ _ _ _ h
def f_X9_next (M : xM) (a1 : Int32) : Option Int32 :=
  if 0 ≤ a1 then (
    xl (0 : Int32) fun v15 =>
    f_X9_next_9 M xFU a1 v15)
  else (
    some (-2))
set_option maxHeartbeats 1000000 in
theorem x_X9_next {ξ : xX} {M : xM} {a1 : Int32} {z : Int32} (h : f_X9_next M a1 = some z) : X ξ mX9_next 0 [.ref 149, .int a1] [] SH M 0 0 (xr (some (.int z)) SH M) := by
  rw [f_X9_next] at h
  refine X_iload_n (x := a1) dX9_next_0 rfl ?_
  refine X_if_ge 7 dX9_next_1 (by decide) h (fun h => ?_) (fun h => ?_)
  · refine X_iconst 0 dX9_next_7 rfl ?_
    refine X_istoreL_n (fun v15 => [.ref 149, .int a1, .int v15]) dX9_next_8 (Nat.le_of_ble_eq_true rfl) (Nat.le_of_ble_eq_true rfl) (xcat1_of rfl) h (fun _ => rfl) (fun v15 h => ?_)
    exact x_X9_next_9 _ _ _ _ h
  · refine X_bipush (-2) dX9_next_4 rfl ?_
    exact X_retP dX9_next_6 rfl (Nat.le_refl _) (Nat.le_refl _) h
def f_X9_total (M : xM) (a1 : Int32) : Option Int32 :=
  xb (f_X9_in a1 0 13) fun v1 =>
  if v1 = 0 then (
    some (-2))
  else (
    if 7 ≤ a1 then (
      if 11 ≤ a1 then (
        if a1 = 11 then (
          xgd (xin 7 916) <|
          some (M 150 (7 : Int32).toNatClampNeg))
        else (
          if a1 = 12 then (
            some (M 149 2))
          else (
            some (M 149 6))))
      else (
        xb (f_X9_inState M (a1 - 7)) fun v2 =>
        some v2))
    else (
      xgd (xin a1 916) <|
      some (M 150 a1.toNatClampNeg)))
set_option maxHeartbeats 1000000 in
theorem x_X9_total {ξ : xX} {M : xM} {a1 : Int32} {z : Int32} (h : f_X9_total M a1 = some z) : X ξ mX9_total 0 [.ref 149, .int a1] [] SH M 0 0 (xr (some (.int z)) SH M) := by
  rw [f_X9_total] at h
  refine X_iload_n (x := a1) dX9_total_0 rfl ?_
  refine X_iconst 0 dX9_total_1 rfl ?_
  refine X_bipush 13 dX9_total_2 rfl ?_
  refine X_sP (μ' := mX9_in) [.int a1, .int 0, .int 13] [] kL_RX9_42 kM_X9_in rfl rfl rfl dX9_total_4 h (fun _ hv => x_X9_in hv) (fun v1 h => ?_)
  refine X_if_ne 13 dX9_total_7 (by decide) h (fun h => ?_) (fun h => ?_)
  · refine X_iload_n (x := a1) dX9_total_13 rfl ?_
    refine X_bipush 7 dX9_total_14 rfl ?_
    refine X_icmp_ge 28 dX9_total_16 (by decide) h (fun h => ?_) (fun h => ?_)
    · refine X_iload_n (x := a1) dX9_total_28 rfl ?_
      refine X_bipush 11 dX9_total_29 rfl ?_
      refine X_icmp_ge 45 dX9_total_31 (by decide) h (fun h => ?_) (fun h => ?_)
      · refine X_iload_n (x := a1) dX9_total_45 rfl ?_
        refine X_bipush 11 dX9_total_46 rfl ?_
        refine X_icmp_ne 61 dX9_total_48 (by decide) h (fun h => ?_) (fun h => ?_)
        · refine X_iload_n (x := a1) dX9_total_61 rfl ?_
          refine X_bipush 12 dX9_total_62 rfl ?_
          refine X_icmp_ne 74 dX9_total_64 (by decide) h (fun h => ?_) (fun h => ?_)
          · refine X_aload_n (x := 149) dX9_total_74 rfl ?_
            refine X_get (v := .int (M 149 6)) kF_RX9_155 sh_149 rfl rfl dX9_total_75 ?_
            exact X_retP dX9_total_78 rfl (Nat.le_refl _) (Nat.le_refl _) h
          · refine X_aload_n (x := 149) dX9_total_67 rfl ?_
            refine X_get (v := .int (M 149 2)) kF_RX9_38 sh_149 rfl rfl dX9_total_68 ?_
            refine X_goto 78 dX9_total_71 (by decide) ?_
            exact X_retP dX9_total_78 rfl (Nat.le_refl _) (Nat.le_refl _) h
        · refine X_aload_n (x := 149) dX9_total_51 rfl ?_
          refine X_get (v := .ref 150) kF_RX9_7 sh_149 rfl rfl dX9_total_52 ?_
          refine X_bipush 7 dX9_total_55 rfl ?_
          refine X_iald sh_150 dX9_total_57 h (fun h => ?_)
          refine X_goto 78 dX9_total_58 (by decide) ?_
          exact X_retP dX9_total_78 rfl (Nat.le_refl _) (Nat.le_refl _) h
      · refine X_aload_n (x := 149) dX9_total_34 rfl ?_
        refine X_iload_n (x := a1) dX9_total_35 rfl ?_
        refine X_bipush 7 dX9_total_36 rfl ?_
        refine X_isub dX9_total_38 ?_
        refine X_vP (μ' := mX9_inState) [.int (a1 - 7)] [] kL_RX9_136 kM_X9_inState rv_149 rfl rfl rfl dX9_total_39 h (fun _ hv => x_X9_inState hv) (fun v2 h => ?_)
        refine X_goto 78 dX9_total_42 (by decide) ?_
        exact X_retP dX9_total_78 rfl (Nat.le_refl _) (Nat.le_refl _) h
    · refine X_aload_n (x := 149) dX9_total_19 rfl ?_
      refine X_get (v := .ref 150) kF_RX9_7 sh_149 rfl rfl dX9_total_20 ?_
      refine X_iload_n (x := a1) dX9_total_23 rfl ?_
      refine X_iald sh_150 dX9_total_24 h (fun h => ?_)
      refine X_goto 78 dX9_total_25 (by decide) ?_
      exact X_retP dX9_total_78 rfl (Nat.le_refl _) (Nat.le_refl _) h
  · refine X_bipush (-2) dX9_total_10 rfl ?_
    exact X_retP dX9_total_12 rfl (Nat.le_refl _) (Nat.le_refl _) h
def f_X9_heard (M : xM) (a1 a2 a3 a4 a5 : Int32) : Option Int32 :=
  xb (f_X9_isOne M 1 a1) fun v1 =>
  if v1 = 0 then (
    some (-1))
  else (
    xb (f_X9_isOne M 2 a2) fun v2 =>
    if v2 = 0 then (
      some (-1))
    else (
      xgd (xin ((24 + (5 * a1)) + 2) 916) <|
      xb (f_X9_tracksOf (M 150 ((24 + (5 * a1)) + 2).toNatClampNeg)) fun v3 =>
      xb (f_X9_in a5 0 (v3 - 1)) fun v4 =>
      if v4 = 0 then (
        some (-1))
      else (
        xb (f_X9_errorOf M a1 a2 a3 a4) fun v5 =>
        if 0 ≤ v5 then (
          xgd (xin (24 + (5 * a1)) 916) <|
          xgd (xin (64 + (5 * a2)) 916) <|
          if (M 150 (24 + (5 * a1)).toNatClampNeg) = (M 150 (64 + (5 * a2)).toNatClampNeg) then (
            xb (f_X9_captureOf M a1 a2 a3 a4 a5) fun v6 =>
            some v6)
          else (
            some (-3)))
        else (
          some (-2)))))
set_option maxHeartbeats 1000000 in
theorem x_X9_heard {ξ : xX} {M : xM} {a1 a2 a3 a4 a5 : Int32} {z : Int32} (h : f_X9_heard M a1 a2 a3 a4 a5 = some z) : X ξ mX9_heard 0 [.ref 149, .int a1, .int a2, .int a3, .int a4, .int a5] [] SH M 0 0 (xr (some (.int z)) SH M) := by
  rw [f_X9_heard] at h
  refine X_aload_n (x := 149) dX9_heard_0 rfl ?_
  refine X_iconst 1 dX9_heard_1 rfl ?_
  refine X_iload_n (x := a1) dX9_heard_2 rfl ?_
  refine X_vP (μ' := mX9_isOne) [.int 1, .int a1] [] kL_RX9_64 kM_X9_isOne rv_149 rfl rfl rfl dX9_heard_3 h (fun _ hv => x_X9_isOne hv) (fun v1 h => ?_)
  refine X_if_eq 45 dX9_heard_6 (by decide) h (fun h => ?_) (fun h => ?_)
  · refine X_iconst (-1) dX9_heard_45 rfl ?_
    exact X_retP dX9_heard_46 rfl (Nat.le_refl _) (Nat.le_refl _) h
  · refine X_aload_n (x := 149) dX9_heard_9 rfl ?_
    refine X_iconst 2 dX9_heard_10 rfl ?_
    refine X_iload_n (x := a2) dX9_heard_11 rfl ?_
    refine X_vP (μ' := mX9_isOne) [.int 2, .int a2] [] kL_RX9_64 kM_X9_isOne rv_149 rfl rfl rfl dX9_heard_12 h (fun _ hv => x_X9_isOne hv) (fun v2 h => ?_)
    refine X_if_eq 45 dX9_heard_15 (by decide) h (fun h => ?_) (fun h => ?_)
    · refine X_iconst (-1) dX9_heard_45 rfl ?_
      exact X_retP dX9_heard_46 rfl (Nat.le_refl _) (Nat.le_refl _) h
    · refine X_iload (x := a5) dX9_heard_18 rfl ?_
      refine X_iconst 0 dX9_heard_20 rfl ?_
      refine X_aload_n (x := 149) dX9_heard_21 rfl ?_
      refine X_get (v := .ref 150) kF_RX9_7 sh_149 rfl rfl dX9_heard_22 ?_
      refine X_bipush 24 dX9_heard_25 rfl ?_
      refine X_iconst 5 dX9_heard_27 rfl ?_
      refine X_iload_n (x := a1) dX9_heard_28 rfl ?_
      refine X_imul dX9_heard_29 ?_
      refine X_iadd dX9_heard_30 ?_
      refine X_iconst 2 dX9_heard_31 rfl ?_
      refine X_iadd dX9_heard_32 ?_
      refine X_iald sh_150 dX9_heard_33 h (fun h => ?_)
      refine X_sP (μ' := mX9_tracksOf) [.int (M 150 ((24 + (5 * a1)) + 2).toNatClampNeg)] [.int 0, .int a5] kL_RX9_57 kM_X9_tracksOf rfl rfl rfl dX9_heard_34 h (fun _ hv => x_X9_tracksOf hv) (fun v3 h => ?_)
      refine X_iconst 1 dX9_heard_37 rfl ?_
      refine X_isub dX9_heard_38 ?_
      refine X_sP (μ' := mX9_in) [.int a5, .int 0, .int (v3 - 1)] [] kL_RX9_42 kM_X9_in rfl rfl rfl dX9_heard_39 h (fun _ hv => x_X9_in hv) (fun v4 h => ?_)
      refine X_if_ne 47 dX9_heard_42 (by decide) h (fun h => ?_) (fun h => ?_)
      · refine X_aload_n (x := 149) dX9_heard_47 rfl ?_
        refine X_iload_n (x := a1) dX9_heard_48 rfl ?_
        refine X_iload_n (x := a2) dX9_heard_49 rfl ?_
        refine X_iload_n (x := a3) dX9_heard_50 rfl ?_
        refine X_iload (x := a4) dX9_heard_51 rfl ?_
        refine X_vP (μ' := mX9_errorOf) [.int a1, .int a2, .int a3, .int a4] [] kL_RX9_106 kM_X9_errorOf rv_149 rfl rfl rfl dX9_heard_53 h (fun _ hv => x_X9_errorOf hv) (fun v5 h => ?_)
        refine X_if_ge 62 dX9_heard_56 (by decide) h (fun h => ?_) (fun h => ?_)
        · refine X_aload_n (x := 149) dX9_heard_62 rfl ?_
          refine X_get (v := .ref 150) kF_RX9_7 sh_149 rfl rfl dX9_heard_63 ?_
          refine X_bipush 24 dX9_heard_66 rfl ?_
          refine X_iconst 5 dX9_heard_68 rfl ?_
          refine X_iload_n (x := a1) dX9_heard_69 rfl ?_
          refine X_imul dX9_heard_70 ?_
          refine X_iadd dX9_heard_71 ?_
          refine X_iald sh_150 dX9_heard_72 h (fun h => ?_)
          refine X_aload_n (x := 149) dX9_heard_73 rfl ?_
          refine X_get (v := .ref 150) kF_RX9_7 sh_149 rfl rfl dX9_heard_74 ?_
          refine X_bipush 64 dX9_heard_77 rfl ?_
          refine X_iconst 5 dX9_heard_79 rfl ?_
          refine X_iload_n (x := a2) dX9_heard_80 rfl ?_
          refine X_imul dX9_heard_81 ?_
          refine X_iadd dX9_heard_82 ?_
          refine X_iald sh_150 dX9_heard_83 h (fun h => ?_)
          refine X_icmp_ne 101 dX9_heard_84 (by decide) h (fun h => ?_) (fun h => ?_)
          · refine X_bipush (-3) dX9_heard_101 rfl ?_
            exact X_retP dX9_heard_103 rfl (Nat.le_refl _) (Nat.le_refl _) h
          · refine X_aload_n (x := 149) dX9_heard_87 rfl ?_
            refine X_iload_n (x := a1) dX9_heard_88 rfl ?_
            refine X_iload_n (x := a2) dX9_heard_89 rfl ?_
            refine X_iload_n (x := a3) dX9_heard_90 rfl ?_
            refine X_iload (x := a4) dX9_heard_91 rfl ?_
            refine X_iload (x := a5) dX9_heard_93 rfl ?_
            refine X_vP (μ' := mX9_captureOf) [.int a1, .int a2, .int a3, .int a4, .int a5] [] kL_RX9_89 kM_X9_captureOf rv_149 rfl rfl rfl dX9_heard_95 h (fun _ hv => x_X9_captureOf hv) (fun v6 h => ?_)
            refine X_goto 103 dX9_heard_98 (by decide) ?_
            exact X_retP dX9_heard_103 rfl (Nat.le_refl _) (Nat.le_refl _) h
        · refine X_bipush (-2) dX9_heard_59 rfl ?_
          exact X_retP dX9_heard_61 rfl (Nat.le_refl _) (Nat.le_refl _) h
      · refine X_iconst (-1) dX9_heard_45 rfl ?_
        exact X_retP dX9_heard_46 rfl (Nat.le_refl _) (Nat.le_refl _) h
def f_X9_duration (M : xM) (a1 a2 : Int32) : Option Int32 :=
  xb (f_X9_isOne M 1 a1) fun v1 =>
  if v1 = 0 then (
    some (-1))
  else (
    xgd (xin (24 + (5 * a1)) 916) <|
    xb (f_X9_placeOfSpeed M (M 150 (24 + (5 * a1)).toNatClampNeg) a2) fun v2 =>
    if 0 ≤ v2 then (
      xb (f_X9_timeOf M a1 a2) fun v3 =>
      some v3)
    else (
      some (-2)))
set_option maxHeartbeats 1000000 in
theorem x_X9_duration {ξ : xX} {M : xM} {a1 a2 : Int32} {z : Int32} (h : f_X9_duration M a1 a2 = some z) : X ξ mX9_duration 0 [.ref 149, .int a1, .int a2] [] SH M 0 0 (xr (some (.int z)) SH M) := by
  rw [f_X9_duration] at h
  refine X_aload_n (x := 149) dX9_duration_0 rfl ?_
  refine X_iconst 1 dX9_duration_1 rfl ?_
  refine X_iload_n (x := a1) dX9_duration_2 rfl ?_
  refine X_vP (μ' := mX9_isOne) [.int 1, .int a1] [] kL_RX9_64 kM_X9_isOne rv_149 rfl rfl rfl dX9_duration_3 h (fun _ hv => x_X9_isOne hv) (fun v1 h => ?_)
  refine X_if_ne 11 dX9_duration_6 (by decide) h (fun h => ?_) (fun h => ?_)
  · refine X_aload_n (x := 149) dX9_duration_11 rfl ?_
    refine X_aload_n (x := 149) dX9_duration_12 rfl ?_
    refine X_get (v := .ref 150) kF_RX9_7 sh_149 rfl rfl dX9_duration_13 ?_
    refine X_bipush 24 dX9_duration_16 rfl ?_
    refine X_iconst 5 dX9_duration_18 rfl ?_
    refine X_iload_n (x := a1) dX9_duration_19 rfl ?_
    refine X_imul dX9_duration_20 ?_
    refine X_iadd dX9_duration_21 ?_
    refine X_iald sh_150 dX9_duration_22 h (fun h => ?_)
    refine X_iload_n (x := a2) dX9_duration_23 rfl ?_
    refine X_vP (μ' := mX9_placeOfSpeed) [.int (M 150 (24 + (5 * a1)).toNatClampNeg), .int a2] [] kL_RX9_46 kM_X9_placeOfSpeed rv_149 rfl rfl rfl dX9_duration_24 h (fun _ hv => x_X9_placeOfSpeed hv) (fun v2 h => ?_)
    refine X_if_ge 35 dX9_duration_27 (by decide) h (fun h => ?_) (fun h => ?_)
    · refine X_aload_n (x := 149) dX9_duration_35 rfl ?_
      refine X_iload_n (x := a1) dX9_duration_36 rfl ?_
      refine X_iload_n (x := a2) dX9_duration_37 rfl ?_
      refine X_vP (μ' := mX9_timeOf) [.int a1, .int a2] [] kL_RX9_96 kM_X9_timeOf rv_149 rfl rfl rfl dX9_duration_38 h (fun _ hv => x_X9_timeOf hv) (fun v3 h => ?_)
      exact X_retP dX9_duration_41 rfl (Nat.le_refl _) (Nat.le_refl _) h
    · refine X_bipush (-2) dX9_duration_30 rfl ?_
      refine X_goto 41 dX9_duration_32 (by decide) ?_
      exact X_retP dX9_duration_41 rfl (Nat.le_refl _) (Nat.le_refl _) h
  · refine X_iconst (-1) dX9_duration_9 rfl ?_
    exact X_retP dX9_duration_10 rfl (Nat.le_refl _) (Nat.le_refl _) h
def f_X9_speedOfPass_72 (M : xM) (i1 : Int32) (i2 : Int32) (i3 : Int32) (i4 : Int32) (s0 : Int32) : Option Int32 :=
  xl s0 fun v4 =>
  if v4 = 0 then (
    some 0)
  else (
    xgd (xin i3 916) <|
    xgd (xin ((3 * (M 150 i3.toNatClampNeg)) + i4) 9) <|
    some (M 155 ((3 * (M 150 i3.toNatClampNeg)) + i4).toNatClampNeg))
set_option maxHeartbeats 1000000 in
theorem x_X9_speedOfPass_72 {ξ : xX} {M : xM} {i1 : Int32} {i2 : Int32} {i3 : Int32} {i4 : Int32} {s0 : Int32} {z : Int32} (h : f_X9_speedOfPass_72 M i1 i2 i3 i4 s0 = some z) : X ξ mX9_speedOfPass 72 [.ref 149, .int i1, .int i2, .int i3, .int i4] [.int s0] SH M 0 0 (xr (some (.int z)) SH M) := by
  rw [f_X9_speedOfPass_72] at h
  refine X_istoreL (fun v4 => [.ref 149, .int i1, .int i2, .int i3, .int i4, .int v4]) dX9_speedOfPass_72 (Nat.le_of_ble_eq_true rfl) (Nat.le_of_ble_eq_true rfl) (xcat1_of rfl) h (fun _ => rfl) (fun v4 h => ?_)
  refine X_iload (x := v4) dX9_speedOfPass_74 rfl ?_
  refine X_if_eq 98 dX9_speedOfPass_76 (by decide) h (fun h => ?_) (fun h => ?_)
  · refine X_iconst 0 dX9_speedOfPass_98 rfl ?_
    exact X_retP dX9_speedOfPass_99 rfl (Nat.le_refl _) (Nat.le_refl _) h
  · refine X_aload_n (x := 149) dX9_speedOfPass_79 rfl ?_
    refine X_get (v := .ref 155) kF_RX9_26 sh_149 rfl rfl dX9_speedOfPass_80 ?_
    refine X_iconst 3 dX9_speedOfPass_83 rfl ?_
    refine X_aload_n (x := 149) dX9_speedOfPass_84 rfl ?_
    refine X_get (v := .ref 150) kF_RX9_7 sh_149 rfl rfl dX9_speedOfPass_85 ?_
    refine X_iload_n (x := i3) dX9_speedOfPass_88 rfl ?_
    refine X_iald sh_150 dX9_speedOfPass_89 h (fun h => ?_)
    refine X_imul dX9_speedOfPass_90 ?_
    refine X_iload (x := i4) dX9_speedOfPass_91 rfl ?_
    refine X_iadd dX9_speedOfPass_93 ?_
    refine X_iald sh_155 dX9_speedOfPass_94 h (fun h => ?_)
    refine X_goto 99 dX9_speedOfPass_95 (by decide) ?_
    exact X_retP dX9_speedOfPass_99 rfl (Nat.le_refl _) (Nat.le_refl _) h
def f_X9_speedOfPass_71 (M : xM) (i1 : Int32) (i2 : Int32) (i3 : Int32) (i4 : Int32) : Option Int32 :=
  f_X9_speedOfPass_72 M i1 i2 i3 i4 0
set_option maxHeartbeats 1000000 in
theorem x_X9_speedOfPass_71 {ξ : xX} {M : xM} {i1 : Int32} {i2 : Int32} {i3 : Int32} {i4 : Int32} {z : Int32} (h : f_X9_speedOfPass_71 M i1 i2 i3 i4 = some z) : X ξ mX9_speedOfPass 71 [.ref 149, .int i1, .int i2, .int i3, .int i4] [] SH M 0 0 (xr (some (.int z)) SH M) := by
  rw [f_X9_speedOfPass_71] at h
  refine X_iconst 0 dX9_speedOfPass_71 rfl ?_
  exact x_X9_speedOfPass_72 h
def f_X9_speedOfPass (M : xM) (a1 a2 : Int32) : Option Int32 :=
  xl (64 + (5 * (a2 / 6))) fun v5 =>
  xl ((a2 / 2) - (a2 / 2) / 3 * 3) fun v6 =>
  xgd (xin 2 916) <|
  if (M 150 (2 : Int32).toNatClampNeg) ≤ (a2 / 6) then (
    f_X9_speedOfPass_71 M a1 a2 v5 v6)
  else (
    xgd (xin v5 916) <|
    xgd (xin (24 + (5 * a1)) 916) <|
    if (M 150 v5.toNatClampNeg) = (M 150 (24 + (5 * a1)).toNatClampNeg) then (
      xgd (xin (v5 + 1) 916) <|
      if ((((M 150 (v5 + 1).toNatClampNeg) : Int32) >>> ((v6 : Int32) &&& 31)) &&& 1) = 1 then (
        f_X9_speedOfPass_72 M a1 a2 v5 v6 1)
      else (
        f_X9_speedOfPass_71 M a1 a2 v5 v6))
    else (
      f_X9_speedOfPass_71 M a1 a2 v5 v6))
set_option maxHeartbeats 1000000 in
theorem x_X9_speedOfPass {ξ : xX} {M : xM} {a1 a2 : Int32} {z : Int32} (h : f_X9_speedOfPass M a1 a2 = some z) : X ξ mX9_speedOfPass 0 [.ref 149, .int a1, .int a2] [] SH M 0 0 (xr (some (.int z)) SH M) := by
  rw [f_X9_speedOfPass] at h
  refine X_bipush 64 dX9_speedOfPass_0 rfl ?_
  refine X_iconst 5 dX9_speedOfPass_2 rfl ?_
  refine X_iload_n (x := a2) dX9_speedOfPass_3 rfl ?_
  refine X_bipush 6 dX9_speedOfPass_4 rfl ?_
  refine X_idiv (by decide) dX9_speedOfPass_6 ?_
  refine X_imul dX9_speedOfPass_7 ?_
  refine X_iadd dX9_speedOfPass_8 ?_
  refine X_istoreL_n (fun v5 => [.ref 149, .int a1, .int a2, .int v5]) dX9_speedOfPass_9 (Nat.le_of_ble_eq_true rfl) (Nat.le_of_ble_eq_true rfl) (xcat1_of rfl) h (fun _ => rfl) (fun v5 h => ?_)
  refine X_iload_n (x := a2) dX9_speedOfPass_10 rfl ?_
  refine X_iconst 2 dX9_speedOfPass_11 rfl ?_
  refine X_idiv (by decide) dX9_speedOfPass_12 ?_
  refine X_iconst 3 dX9_speedOfPass_13 rfl ?_
  refine X_irem (by decide) dX9_speedOfPass_14 ?_
  refine X_istoreL (fun v6 => [.ref 149, .int a1, .int a2, .int v5, .int v6]) dX9_speedOfPass_15 (Nat.le_of_ble_eq_true rfl) (Nat.le_of_ble_eq_true rfl) (xcat1_of rfl) h (fun _ => rfl) (fun v6 h => ?_)
  refine X_iload_n (x := a2) dX9_speedOfPass_17 rfl ?_
  refine X_bipush 6 dX9_speedOfPass_18 rfl ?_
  refine X_idiv (by decide) dX9_speedOfPass_20 ?_
  refine X_aload_n (x := 149) dX9_speedOfPass_21 rfl ?_
  refine X_get (v := .ref 150) kF_RX9_7 sh_149 rfl rfl dX9_speedOfPass_22 ?_
  refine X_iconst 2 dX9_speedOfPass_25 rfl ?_
  refine X_iald sh_150 dX9_speedOfPass_26 h (fun h => ?_)
  refine X_icmp_ge 71 dX9_speedOfPass_27 (by decide) h (fun h => ?_) (fun h => ?_)
  · exact x_X9_speedOfPass_71 h
  · refine X_aload_n (x := 149) dX9_speedOfPass_30 rfl ?_
    refine X_get (v := .ref 150) kF_RX9_7 sh_149 rfl rfl dX9_speedOfPass_31 ?_
    refine X_iload_n (x := v5) dX9_speedOfPass_34 rfl ?_
    refine X_iald sh_150 dX9_speedOfPass_35 h (fun h => ?_)
    refine X_aload_n (x := 149) dX9_speedOfPass_36 rfl ?_
    refine X_get (v := .ref 150) kF_RX9_7 sh_149 rfl rfl dX9_speedOfPass_37 ?_
    refine X_bipush 24 dX9_speedOfPass_40 rfl ?_
    refine X_iconst 5 dX9_speedOfPass_42 rfl ?_
    refine X_iload_n (x := a1) dX9_speedOfPass_43 rfl ?_
    refine X_imul dX9_speedOfPass_44 ?_
    refine X_iadd dX9_speedOfPass_45 ?_
    refine X_iald sh_150 dX9_speedOfPass_46 h (fun h => ?_)
    refine X_icmp_ne 71 dX9_speedOfPass_47 (by decide) h (fun h => ?_) (fun h => ?_)
    · exact x_X9_speedOfPass_71 h
    · refine X_aload_n (x := 149) dX9_speedOfPass_50 rfl ?_
      refine X_get (v := .ref 150) kF_RX9_7 sh_149 rfl rfl dX9_speedOfPass_51 ?_
      refine X_iload_n (x := v5) dX9_speedOfPass_54 rfl ?_
      refine X_iconst 1 dX9_speedOfPass_55 rfl ?_
      refine X_iadd dX9_speedOfPass_56 ?_
      refine X_iald sh_150 dX9_speedOfPass_57 h (fun h => ?_)
      refine X_iload (x := v6) dX9_speedOfPass_58 rfl ?_
      refine X_ishr dX9_speedOfPass_60 ?_
      refine X_iconst 1 dX9_speedOfPass_61 rfl ?_
      refine X_iand dX9_speedOfPass_62 ?_
      refine X_iconst 1 dX9_speedOfPass_63 rfl ?_
      refine X_icmp_ne 71 dX9_speedOfPass_64 (by decide) h (fun h => ?_) (fun h => ?_)
      · exact x_X9_speedOfPass_71 h
      · refine X_iconst 1 dX9_speedOfPass_67 rfl ?_
        refine X_goto 72 dX9_speedOfPass_68 (by decide) ?_
        exact x_X9_speedOfPass_72 h
def f_X9_planned_178 (k47 : xM → Int32 → Int32 → Int32 → Int32 → Int32 → Int32 → Int32 → Option (Int32 × xM)) (M : xM) (i1 : Int32) (i2 : Int32) (i3 : Int32) (i4 : Int32) (i5 : Int32) (i6 : Int32) (i7 : Int32) (i8 : Int32) : Option (Int32 × xM) :=
  xl (i7 + 1) fun v13 =>
  k47 M i1 i2 i3 i4 i5 i6 v13
set_option maxHeartbeats 1000000 in
theorem x_X9_planned_178 {ξ : xX} {M : xM} {k47 : xM → Int32 → Int32 → Int32 → Int32 → Int32 → Int32 → Int32 → Option (Int32 × xM)} {i1 : Int32} {i2 : Int32} {i3 : Int32} {i4 : Int32} {i5 : Int32} {i6 : Int32} {i7 : Int32} {i8 : Int32} (hk47 : ∀ (M : xM) (j1 j2 j3 j4 j5 j6 j7 : Int32) (z : (Int32 × xM)), k47 M j1 j2 j3 j4 j5 j6 j7 = some z → X ξ mX9_planned 47 [.ref 149, .int j1, .int j2, .int j3, .int j4, .int j5, .int j6, .int j7] [] SH M 0 0 (xr (some (.int z.1)) SH z.2)) {z : (Int32 × xM)} (h : f_X9_planned_178 k47 M i1 i2 i3 i4 i5 i6 i7 i8 = some z) : X ξ mX9_planned 178 [.ref 149, .int i1, .int i2, .int i3, .int i4, .int i5, .int i6, .int i7, .int i8] [] SH M 0 0 (xr (some (.int z.1)) SH z.2) := by
  rw [f_X9_planned_178] at h
  refine X_iincL (x := i7) 1 (fun v13 => [.ref 149, .int i1, .int i2, .int i3, .int i4, .int i5, .int i6, .int v13, .int i8]) dX9_planned_178 rfl rfl (Nat.le_of_ble_eq_true rfl) (xcat1_of rfl) h (fun _ => rfl) (fun v13 h => ?_)
  refine X_goto 47 dX9_planned_181 (by decide) ?_
  refine X_cut 8 ?_
  exact hk47 _ _ _ _ _ _ _ _ _ h
def f_X9_planned_166 (k47 : xM → Int32 → Int32 → Int32 → Int32 → Int32 → Int32 → Int32 → Option (Int32 × xM)) (M : xM) (i1 : Int32) (i2 : Int32) (i3 : Int32) (i4 : Int32) (i5 : Int32) (i6 : Int32) (i7 : Int32) (i8 : Int32) (i9 : Int32) (i10 : Int32) : Option (Int32 × xM) :=
  xl i7 fun v14 =>
  xl i9 fun v15 =>
  xl i10 fun v16 =>
  f_X9_planned_178 k47 M i1 i2 i3 v14 v15 v16 i7 i8
set_option maxHeartbeats 1000000 in
theorem x_X9_planned_166 {ξ : xX} {M : xM} {k47 : xM → Int32 → Int32 → Int32 → Int32 → Int32 → Int32 → Int32 → Option (Int32 × xM)} {i1 : Int32} {i2 : Int32} {i3 : Int32} {i4 : Int32} {i5 : Int32} {i6 : Int32} {i7 : Int32} {i8 : Int32} {i9 : Int32} {i10 : Int32} (hk47 : ∀ (M : xM) (j1 j2 j3 j4 j5 j6 j7 : Int32) (z : (Int32 × xM)), k47 M j1 j2 j3 j4 j5 j6 j7 = some z → X ξ mX9_planned 47 [.ref 149, .int j1, .int j2, .int j3, .int j4, .int j5, .int j6, .int j7] [] SH M 0 0 (xr (some (.int z.1)) SH z.2)) {z : (Int32 × xM)} (h : f_X9_planned_166 k47 M i1 i2 i3 i4 i5 i6 i7 i8 i9 i10 = some z) : X ξ mX9_planned 166 [.ref 149, .int i1, .int i2, .int i3, .int i4, .int i5, .int i6, .int i7, .int i8, .int i9, .int i10] [] SH M 0 0 (xr (some (.int z.1)) SH z.2) := by
  rw [f_X9_planned_166] at h
  refine X_iload (x := i7) dX9_planned_166 rfl ?_
  refine X_istoreL (fun v14 => [.ref 149, .int i1, .int i2, .int i3, .int v14, .int i5, .int i6, .int i7, .int i8, .int i9, .int i10]) dX9_planned_168 (Nat.le_of_ble_eq_true rfl) (Nat.le_of_ble_eq_true rfl) (xcat1_of rfl) h (fun _ => rfl) (fun v14 h => ?_)
  refine X_iload (x := i9) dX9_planned_170 rfl ?_
  refine X_istoreL (fun v15 => [.ref 149, .int i1, .int i2, .int i3, .int v14, .int v15, .int i6, .int i7, .int i8, .int i9, .int i10]) dX9_planned_172 (Nat.le_of_ble_eq_true rfl) (Nat.le_of_ble_eq_true rfl) (xcat1_of rfl) h (fun _ => rfl) (fun v15 h => ?_)
  refine X_iload (x := i10) dX9_planned_174 rfl ?_
  refine X_istoreL (fun v16 => [.ref 149, .int i1, .int i2, .int i3, .int v14, .int v15, .int v16, .int i7, .int i8, .int i9, .int i10]) dX9_planned_176 (Nat.le_of_ble_eq_true rfl) (Nat.le_of_ble_eq_true rfl) (xcat1_of rfl) h (fun _ => rfl) (fun v16 h => ?_)
  refine X_cut 9 ?_
  exact x_X9_planned_178 hk47 h
def f_X9_planned_47 : Nat → xM → Int32 → Int32 → Int32 → Int32 → Int32 → Int32 → Int32 → Option (Int32 × xM)
  | 0, _, _, _, _, _, _, _, _ => none
  | fu + 1, M, i1, i2, i3, i4, i5, i6, i7 =>
    if 24 ≤ i7 then (
      if 0 ≤ i4 then (
        if i2 = 0 then (
          some ((i4 / 6), M))
        else (
          if i2 = 1 then (
            xb (f_X9_speedOfPass M i3 i4) fun v17 =>
            some (v17, M))
          else (
            if i2 = 2 then (
              some ((i4 - i4 / 2 * 2), M))
            else (
              if i2 = 3 then (
                some (i5, M))
              else (
                some (i6, M))))))
      else (
        some ((-6), M)))
    else (
      xb (f_X9_speedOfPass M i3 i7) fun v18 =>
      xl v18 fun v19 =>
      if v19 ≤ 0 then (
        f_X9_planned_178 (f_X9_planned_47 fu) M i1 i2 i3 i4 i5 i6 i7 v19)
      else (
        xgd (xin ((24 + (5 * i3)) + 4) 916) <|
        xb (f_X9_playsFor M i3 v19) fun v20 =>
        if (M 150 ((24 + (5 * i3)) + 4).toNatClampNeg) < v20 then (
          f_X9_planned_178 (f_X9_planned_47 fu) M i1 i2 i3 i4 i5 i6 i7 v19)
        else (
          xb2 (f_X9_hears M i3 (i7 / 6) v19 (i7 - i7 / 2 * 2)) fun v21 M22 =>
          xgd (xin ((84 + (5 * i1)) + 1) 916) <|
          xb (f_X9_least 157 4 M22 0 (M22 150 ((84 + (5 * i1)) + 1).toNatClampNeg)) fun v23 =>
          xl v23 fun v24 =>
          xb (f_X9_timeOf M22 i3 v19) fun v25 =>
          xl v25 fun v26 =>
          if i5 < v24 then (
            f_X9_planned_166 (f_X9_planned_47 fu) M22 i1 i2 i3 i4 i5 i6 i7 v19 v24 v26)
          else (
            if v24 = i5 then (
              if v24 ≤ 0 then (
                f_X9_planned_178 (f_X9_planned_47 fu) M22 i1 i2 i3 i4 i5 i6 i7 v19)
              else (
                if i6 ≤ v26 then (
                  f_X9_planned_178 (f_X9_planned_47 fu) M22 i1 i2 i3 i4 i5 i6 i7 v19)
                else (
                  f_X9_planned_166 (f_X9_planned_47 fu) M22 i1 i2 i3 i4 i5 i6 i7 v19 v24 v26)))
            else (
              f_X9_planned_178 (f_X9_planned_47 fu) M22 i1 i2 i3 i4 i5 i6 i7 v19)))))
set_option maxHeartbeats 1000000 in
theorem x_X9_planned_47 {ξ : xX} : ∀ (fu : Nat) (M : xM) (i1 i2 i3 i4 i5 i6 i7 : Int32) (z : (Int32 × xM)), f_X9_planned_47 fu M i1 i2 i3 i4 i5 i6 i7 = some z → X ξ mX9_planned 47 [.ref 149, .int i1, .int i2, .int i3, .int i4, .int i5, .int i6, .int i7] [] SH M 0 0 (xr (some (.int z.1)) SH z.2) := by
  intro fu
  induction fu with
  | zero => intro M i1 i2 i3 i4 i5 i6 i7 z h; rw [f_X9_planned_47] at h; cases h
  | succ fu ih =>
    intro M i1 i2 i3 i4 i5 i6 i7 z h
    rw [f_X9_planned_47] at h
    refine X_iload (x := i7) dX9_planned_47 rfl ?_
    refine X_bipush 24 dX9_planned_49 rfl ?_
    refine X_icmp_ge 184 dX9_planned_51 (by decide) h (fun h => ?_) (fun h => ?_)
    · refine X_iload (x := i4) dX9_planned_184 rfl ?_
      refine X_if_ge 192 dX9_planned_186 (by decide) h (fun h => ?_) (fun h => ?_)
      · refine X_iload_n (x := i2) dX9_planned_192 rfl ?_
        refine X_if_ne 204 dX9_planned_193 (by decide) h (fun h => ?_) (fun h => ?_)
        · refine X_iload_n (x := i2) dX9_planned_204 rfl ?_
          refine X_iconst 1 dX9_planned_205 rfl ?_
          refine X_icmp_ne 219 dX9_planned_206 (by decide) h (fun h => ?_) (fun h => ?_)
          · refine X_iload_n (x := i2) dX9_planned_219 rfl ?_
            refine X_iconst 2 dX9_planned_220 rfl ?_
            refine X_icmp_ne 231 dX9_planned_221 (by decide) h (fun h => ?_) (fun h => ?_)
            · refine X_iload_n (x := i2) dX9_planned_231 rfl ?_
              refine X_iconst 3 dX9_planned_232 rfl ?_
              refine X_icmp_ne 241 dX9_planned_233 (by decide) h (fun h => ?_) (fun h => ?_)
              · refine X_iload (x := i6) dX9_planned_241 rfl ?_
                exact X_retI dX9_planned_243 rfl (Nat.le_refl _) (Nat.le_refl _) h
              · refine X_iload (x := i5) dX9_planned_236 rfl ?_
                refine X_goto 243 dX9_planned_238 (by decide) ?_
                exact X_retI dX9_planned_243 rfl (Nat.le_refl _) (Nat.le_refl _) h
            · refine X_iload (x := i4) dX9_planned_224 rfl ?_
              refine X_iconst 2 dX9_planned_226 rfl ?_
              refine X_irem (by decide) dX9_planned_227 ?_
              refine X_goto 243 dX9_planned_228 (by decide) ?_
              exact X_retI dX9_planned_243 rfl (Nat.le_refl _) (Nat.le_refl _) h
          · refine X_aload_n (x := 149) dX9_planned_209 rfl ?_
            refine X_iload_n (x := i3) dX9_planned_210 rfl ?_
            refine X_iload (x := i4) dX9_planned_211 rfl ?_
            refine X_vP (μ' := mX9_speedOfPass) [.int i3, .int i4] [] kL_RX9_190 kM_X9_speedOfPass rv_149 rfl rfl rfl dX9_planned_213 h (fun _ hv => x_X9_speedOfPass hv) (fun v17 h => ?_)
            refine X_goto 243 dX9_planned_216 (by decide) ?_
            exact X_retI dX9_planned_243 rfl (Nat.le_refl _) (Nat.le_refl _) h
        · refine X_iload (x := i4) dX9_planned_196 rfl ?_
          refine X_bipush 6 dX9_planned_198 rfl ?_
          refine X_idiv (by decide) dX9_planned_200 ?_
          refine X_goto 243 dX9_planned_201 (by decide) ?_
          exact X_retI dX9_planned_243 rfl (Nat.le_refl _) (Nat.le_refl _) h
      · refine X_bipush (-6) dX9_planned_189 rfl ?_
        exact X_retI dX9_planned_191 rfl (Nat.le_refl _) (Nat.le_refl _) h
    · refine X_aload_n (x := 149) dX9_planned_54 rfl ?_
      refine X_iload_n (x := i3) dX9_planned_55 rfl ?_
      refine X_iload (x := i7) dX9_planned_56 rfl ?_
      refine X_vP (μ' := mX9_speedOfPass) [.int i3, .int i7] [] kL_RX9_190 kM_X9_speedOfPass rv_149 rfl rfl rfl dX9_planned_58 h (fun _ hv => x_X9_speedOfPass hv) (fun v18 h => ?_)
      refine X_istoreL (fun v19 => [.ref 149, .int i1, .int i2, .int i3, .int i4, .int i5, .int i6, .int i7, .int v19]) dX9_planned_61 (Nat.le_of_ble_eq_true rfl) (Nat.le_of_ble_eq_true rfl) (xcat1_of rfl) h (fun _ => rfl) (fun v19 h => ?_)
      refine X_iload (x := v19) dX9_planned_63 rfl ?_
      refine X_if_le 178 dX9_planned_65 (by decide) h (fun h => ?_) (fun h => ?_)
      · exact x_X9_planned_178 ih h
      · refine X_aload_n (x := 149) dX9_planned_68 rfl ?_
        refine X_get (v := .ref 150) kF_RX9_7 sh_149 rfl rfl dX9_planned_69 ?_
        refine X_bipush 24 dX9_planned_72 rfl ?_
        refine X_iconst 5 dX9_planned_74 rfl ?_
        refine X_iload_n (x := i3) dX9_planned_75 rfl ?_
        refine X_imul dX9_planned_76 ?_
        refine X_iadd dX9_planned_77 ?_
        refine X_iconst 4 dX9_planned_78 rfl ?_
        refine X_iadd dX9_planned_79 ?_
        refine X_iald sh_150 dX9_planned_80 h (fun h => ?_)
        refine X_aload_n (x := 149) dX9_planned_81 rfl ?_
        refine X_iload_n (x := i3) dX9_planned_82 rfl ?_
        refine X_iload (x := v19) dX9_planned_83 rfl ?_
        refine X_vP (μ' := mX9_playsFor) [.int i3, .int v19] [.int (M 150 ((24 + (5 * i3)) + 4).toNatClampNeg)] kL_RX9_93 kM_X9_playsFor rv_149 rfl rfl rfl dX9_planned_85 h (fun _ hv => x_X9_playsFor hv) (fun v20 h => ?_)
        refine X_icmp_lt 178 dX9_planned_88 (by decide) h (fun h => ?_) (fun h => ?_)
        · exact x_X9_planned_178 ih h
        · refine X_aload_n (x := 149) dX9_planned_91 rfl ?_
          refine X_iload_n (x := i3) dX9_planned_92 rfl ?_
          refine X_iload (x := i7) dX9_planned_93 rfl ?_
          refine X_bipush 6 dX9_planned_95 rfl ?_
          refine X_idiv (by decide) dX9_planned_97 ?_
          refine X_iload (x := v19) dX9_planned_98 rfl ?_
          refine X_iload (x := i7) dX9_planned_100 rfl ?_
          refine X_iconst 2 dX9_planned_102 rfl ?_
          refine X_irem (by decide) dX9_planned_103 ?_
          refine X_vI (μ' := mX9_hears) [.int i3, .int (i7 / 6), .int v19, .int (i7 - i7 / 2 * 2)] [] kL_RX9_99 kM_X9_hears rv_149 rfl rfl rfl dX9_planned_104 h (fun _ hv => x_X9_hears hv) (fun v21 M22 h => ?_)
          refine X_pop dX9_planned_107 rfl ?_
          refine X_aload_n (x := 149) dX9_planned_108 rfl ?_
          refine X_get (v := .ref 157) kF_RX9_32 sh_149 rfl rfl dX9_planned_109 ?_
          refine X_iconst 0 dX9_planned_112 rfl ?_
          refine X_aload_n (x := 149) dX9_planned_113 rfl ?_
          refine X_get (v := .ref 150) kF_RX9_7 sh_149 rfl rfl dX9_planned_114 ?_
          refine X_bipush 84 dX9_planned_117 rfl ?_
          refine X_iconst 5 dX9_planned_119 rfl ?_
          refine X_iload_n (x := i1) dX9_planned_120 rfl ?_
          refine X_imul dX9_planned_121 ?_
          refine X_iadd dX9_planned_122 ?_
          refine X_iconst 1 dX9_planned_123 rfl ?_
          refine X_iadd dX9_planned_124 ?_
          refine X_iald sh_150 dX9_planned_125 h (fun h => ?_)
          refine X_sP (μ' := mX9_least) [.ref 157, .int 0, .int (M22 150 ((84 + (5 * i1)) + 1).toNatClampNeg)] [] kL_RX9_116 kM_X9_least rfl rfl rfl dX9_planned_126 h (fun _ hv => x_X9_least ⟨trivial, sh_157⟩ hv) (fun v23 h => ?_)
          refine X_istoreL (fun v24 => [.ref 149, .int i1, .int i2, .int i3, .int i4, .int i5, .int i6, .int i7, .int v19, .int v24]) dX9_planned_129 (Nat.le_of_ble_eq_true rfl) (Nat.le_of_ble_eq_true rfl) (xcat1_of rfl) h (fun _ => rfl) (fun v24 h => ?_)
          refine X_aload_n (x := 149) dX9_planned_131 rfl ?_
          refine X_iload_n (x := i3) dX9_planned_132 rfl ?_
          refine X_iload (x := v19) dX9_planned_133 rfl ?_
          refine X_vP (μ' := mX9_timeOf) [.int i3, .int v19] [] kL_RX9_96 kM_X9_timeOf rv_149 rfl rfl rfl dX9_planned_135 h (fun _ hv => x_X9_timeOf hv) (fun v25 h => ?_)
          refine X_istoreL (fun v26 => [.ref 149, .int i1, .int i2, .int i3, .int i4, .int i5, .int i6, .int i7, .int v19, .int v24, .int v26]) dX9_planned_138 (Nat.le_of_ble_eq_true rfl) (Nat.le_of_ble_eq_true rfl) (xcat1_of rfl) h (fun _ => rfl) (fun v26 h => ?_)
          refine X_iload (x := v24) dX9_planned_140 rfl ?_
          refine X_iload (x := i5) dX9_planned_142 rfl ?_
          refine X_icmp_gt 166 dX9_planned_144 (by decide) h (fun h => ?_) (fun h => ?_)
          · exact x_X9_planned_166 ih h
          · refine X_iload (x := v24) dX9_planned_147 rfl ?_
            refine X_iload (x := i5) dX9_planned_149 rfl ?_
            refine X_icmp_ne 178 dX9_planned_151 (by decide) h (fun h => ?_) (fun h => ?_)
            · refine X_cut 9 ?_
              exact x_X9_planned_178 ih h
            · refine X_iload (x := v24) dX9_planned_154 rfl ?_
              refine X_if_le 178 dX9_planned_156 (by decide) h (fun h => ?_) (fun h => ?_)
              · refine X_cut 9 ?_
                exact x_X9_planned_178 ih h
              · refine X_iload (x := v26) dX9_planned_159 rfl ?_
                refine X_iload (x := i6) dX9_planned_161 rfl ?_
                refine X_icmp_ge 178 dX9_planned_163 (by decide) h (fun h => ?_) (fun h => ?_)
                · refine X_cut 9 ?_
                  exact x_X9_planned_178 ih h
                · exact x_X9_planned_166 ih h
def f_X9_planned (M : xM) (a1 a2 : Int32) : Option (Int32 × xM) :=
  xb (f_X9_isOne M 3 a1) fun v27 =>
  if v27 = 0 then (
    some ((-1), M))
  else (
    xb (f_X9_in a2 0 4) fun v28 =>
    if v28 = 0 then (
      some ((-2), M))
    else (
      xgd (xin (84 + (5 * a1)) 916) <|
      xl (M 150 (84 + (5 * a1)).toNatClampNeg) fun v29 =>
      xl (-1 : Int32) fun v30 =>
      xl (0 : Int32) fun v31 =>
      xl (0 : Int32) fun v32 =>
      xl (0 : Int32) fun v33 =>
      f_X9_planned_47 xFU M a1 a2 v29 v30 v31 v32 v33))
set_option maxHeartbeats 1000000 in
theorem x_X9_planned {ξ : xX} {M : xM} {a1 a2 : Int32} {z : (Int32 × xM)} (h : f_X9_planned M a1 a2 = some z) : X ξ mX9_planned 0 [.ref 149, .int a1, .int a2] [] SH M 0 0 (xr (some (.int z.1)) SH z.2) := by
  rw [f_X9_planned] at h
  refine X_aload_n (x := 149) dX9_planned_0 rfl ?_
  refine X_iconst 3 dX9_planned_1 rfl ?_
  refine X_iload_n (x := a1) dX9_planned_2 rfl ?_
  refine X_vP (μ' := mX9_isOne) [.int 3, .int a1] [] kL_RX9_64 kM_X9_isOne rv_149 rfl rfl rfl dX9_planned_3 h (fun _ hv => x_X9_isOne hv) (fun v27 h => ?_)
  refine X_if_ne 11 dX9_planned_6 (by decide) h (fun h => ?_) (fun h => ?_)
  · refine X_iload_n (x := a2) dX9_planned_11 rfl ?_
    refine X_iconst 0 dX9_planned_12 rfl ?_
    refine X_iconst 4 dX9_planned_13 rfl ?_
    refine X_sP (μ' := mX9_in) [.int a2, .int 0, .int 4] [] kL_RX9_42 kM_X9_in rfl rfl rfl dX9_planned_14 h (fun _ hv => x_X9_in hv) (fun v28 h => ?_)
    refine X_if_ne 23 dX9_planned_17 (by decide) h (fun h => ?_) (fun h => ?_)
    · refine X_aload_n (x := 149) dX9_planned_23 rfl ?_
      refine X_get (v := .ref 150) kF_RX9_7 sh_149 rfl rfl dX9_planned_24 ?_
      refine X_bipush 84 dX9_planned_27 rfl ?_
      refine X_iconst 5 dX9_planned_29 rfl ?_
      refine X_iload_n (x := a1) dX9_planned_30 rfl ?_
      refine X_imul dX9_planned_31 ?_
      refine X_iadd dX9_planned_32 ?_
      refine X_iald sh_150 dX9_planned_33 h (fun h => ?_)
      refine X_istoreL_n (fun v29 => [.ref 149, .int a1, .int a2, .int v29]) dX9_planned_34 (Nat.le_of_ble_eq_true rfl) (Nat.le_of_ble_eq_true rfl) (xcat1_of rfl) h (fun _ => rfl) (fun v29 h => ?_)
      refine X_iconst (-1) dX9_planned_35 rfl ?_
      refine X_istoreL (fun v30 => [.ref 149, .int a1, .int a2, .int v29, .int v30]) dX9_planned_36 (Nat.le_of_ble_eq_true rfl) (Nat.le_of_ble_eq_true rfl) (xcat1_of rfl) h (fun _ => rfl) (fun v30 h => ?_)
      refine X_iconst 0 dX9_planned_38 rfl ?_
      refine X_istoreL (fun v31 => [.ref 149, .int a1, .int a2, .int v29, .int v30, .int v31]) dX9_planned_39 (Nat.le_of_ble_eq_true rfl) (Nat.le_of_ble_eq_true rfl) (xcat1_of rfl) h (fun _ => rfl) (fun v31 h => ?_)
      refine X_iconst 0 dX9_planned_41 rfl ?_
      refine X_istoreL (fun v32 => [.ref 149, .int a1, .int a2, .int v29, .int v30, .int v31, .int v32]) dX9_planned_42 (Nat.le_of_ble_eq_true rfl) (Nat.le_of_ble_eq_true rfl) (xcat1_of rfl) h (fun _ => rfl) (fun v32 h => ?_)
      refine X_iconst 0 dX9_planned_44 rfl ?_
      refine X_istoreL (fun v33 => [.ref 149, .int a1, .int a2, .int v29, .int v30, .int v31, .int v32, .int v33]) dX9_planned_45 (Nat.le_of_ble_eq_true rfl) (Nat.le_of_ble_eq_true rfl) (xcat1_of rfl) h (fun _ => rfl) (fun v33 h => ?_)
      exact x_X9_planned_47 _ _ _ _ _ _ _ _ _ _ h
    · refine X_bipush (-2) dX9_planned_20 rfl ?_
      exact X_retI dX9_planned_22 rfl (Nat.le_refl _) (Nat.le_refl _) h
  · refine X_iconst (-1) dX9_planned_9 rfl ?_
    exact X_retI dX9_planned_10 rfl (Nat.le_refl _) (Nat.le_refl _) h
def f_X9_areCovered_91 (M : xM) (k5 : Int32 → Int32 → Int32 → Int32 → Option Int32) (k42 : Int32 → Int32 → Int32 → Int32 → Int32 → Int32 → Option Int32) (i1 : Int32) (i2 : Int32) (i3 : Int32) (i4 : Int32) (i5 : Int32) (i6 : Int32) (s0 : Int32) : Option Int32 :=
  xl s0 fun v9 =>
  xl (i6 + 1) fun v10 =>
  k42 i1 i2 i3 i4 v9 v10
set_option maxHeartbeats 1000000 in
theorem x_X9_areCovered_91 {ξ : xX} {M : xM} {k5 : Int32 → Int32 → Int32 → Int32 → Option Int32} {k42 : Int32 → Int32 → Int32 → Int32 → Int32 → Int32 → Option Int32} {i1 : Int32} {i2 : Int32} {i3 : Int32} {i4 : Int32} {i5 : Int32} {i6 : Int32} {s0 : Int32} (hk5 : ∀ (j1 j2 j3 j4 : Int32) (z : Int32), k5 j1 j2 j3 j4 = some z → X ξ mX9_areCovered 5 [.ref 149, .int j1, .int j2, .int j3, .int j4] [] SH M 0 0 (xr (some (.int z)) SH M)) (hk42 : ∀ (j1 j2 j3 j4 j5 j6 : Int32) (z : Int32), k42 j1 j2 j3 j4 j5 j6 = some z → X ξ mX9_areCovered 42 [.ref 149, .int j1, .int j2, .int j3, .int j4, .int j5, .int j6] [] SH M 0 0 (xr (some (.int z)) SH M)) {z : Int32} (h : f_X9_areCovered_91 M k5 k42 i1 i2 i3 i4 i5 i6 s0 = some z) : X ξ mX9_areCovered 91 [.ref 149, .int i1, .int i2, .int i3, .int i4, .int i5, .int i6] [.int s0] SH M 0 0 (xr (some (.int z)) SH M) := by
  rw [f_X9_areCovered_91] at h
  refine X_istoreL (fun v9 => [.ref 149, .int i1, .int i2, .int i3, .int i4, .int v9, .int i6]) dX9_areCovered_91 (Nat.le_of_ble_eq_true rfl) (Nat.le_of_ble_eq_true rfl) (xcat1_of rfl) h (fun _ => rfl) (fun v9 h => ?_)
  refine X_iincL (x := i6) 1 (fun v10 => [.ref 149, .int i1, .int i2, .int i3, .int i4, .int v9, .int v10]) dX9_areCovered_93 rfl rfl (Nat.le_of_ble_eq_true rfl) (xcat1_of rfl) h (fun _ => rfl) (fun v10 h => ?_)
  refine X_goto 42 dX9_areCovered_96 (by decide) ?_
  exact hk42 _ _ _ _ _ _ _ h
def f_X9_areCovered_86 (M : xM) (k5 : Int32 → Int32 → Int32 → Int32 → Option Int32) (k42 : Int32 → Int32 → Int32 → Int32 → Int32 → Int32 → Option Int32) (i1 : Int32) (i2 : Int32) (i3 : Int32) (i4 : Int32) (i5 : Int32) (i6 : Int32) : Option Int32 :=
  f_X9_areCovered_91 M k5 k42 i1 i2 i3 i4 i5 i6 1
set_option maxHeartbeats 1000000 in
theorem x_X9_areCovered_86 {ξ : xX} {M : xM} {k5 : Int32 → Int32 → Int32 → Int32 → Option Int32} {k42 : Int32 → Int32 → Int32 → Int32 → Int32 → Int32 → Option Int32} {i1 : Int32} {i2 : Int32} {i3 : Int32} {i4 : Int32} {i5 : Int32} {i6 : Int32} (hk5 : ∀ (j1 j2 j3 j4 : Int32) (z : Int32), k5 j1 j2 j3 j4 = some z → X ξ mX9_areCovered 5 [.ref 149, .int j1, .int j2, .int j3, .int j4] [] SH M 0 0 (xr (some (.int z)) SH M)) (hk42 : ∀ (j1 j2 j3 j4 j5 j6 : Int32) (z : Int32), k42 j1 j2 j3 j4 j5 j6 = some z → X ξ mX9_areCovered 42 [.ref 149, .int j1, .int j2, .int j3, .int j4, .int j5, .int j6] [] SH M 0 0 (xr (some (.int z)) SH M)) {z : Int32} (h : f_X9_areCovered_86 M k5 k42 i1 i2 i3 i4 i5 i6 = some z) : X ξ mX9_areCovered 86 [.ref 149, .int i1, .int i2, .int i3, .int i4, .int i5, .int i6] [] SH M 0 0 (xr (some (.int z)) SH M) := by
  rw [f_X9_areCovered_86] at h
  refine X_iconst 1 dX9_areCovered_86 rfl ?_
  refine X_goto 91 dX9_areCovered_87 (by decide) ?_
  exact x_X9_areCovered_91 hk5 hk42 h
def f_X9_areCovered_90 (M : xM) (k5 : Int32 → Int32 → Int32 → Int32 → Option Int32) (k42 : Int32 → Int32 → Int32 → Int32 → Int32 → Int32 → Option Int32) (i1 : Int32) (i2 : Int32) (i3 : Int32) (i4 : Int32) (i5 : Int32) (i6 : Int32) : Option Int32 :=
  f_X9_areCovered_91 M k5 k42 i1 i2 i3 i4 i5 i6 0
set_option maxHeartbeats 1000000 in
theorem x_X9_areCovered_90 {ξ : xX} {M : xM} {k5 : Int32 → Int32 → Int32 → Int32 → Option Int32} {k42 : Int32 → Int32 → Int32 → Int32 → Int32 → Int32 → Option Int32} {i1 : Int32} {i2 : Int32} {i3 : Int32} {i4 : Int32} {i5 : Int32} {i6 : Int32} (hk5 : ∀ (j1 j2 j3 j4 : Int32) (z : Int32), k5 j1 j2 j3 j4 = some z → X ξ mX9_areCovered 5 [.ref 149, .int j1, .int j2, .int j3, .int j4] [] SH M 0 0 (xr (some (.int z)) SH M)) (hk42 : ∀ (j1 j2 j3 j4 j5 j6 : Int32) (z : Int32), k42 j1 j2 j3 j4 j5 j6 = some z → X ξ mX9_areCovered 42 [.ref 149, .int j1, .int j2, .int j3, .int j4, .int j5, .int j6] [] SH M 0 0 (xr (some (.int z)) SH M)) {z : Int32} (h : f_X9_areCovered_90 M k5 k42 i1 i2 i3 i4 i5 i6 = some z) : X ξ mX9_areCovered 90 [.ref 149, .int i1, .int i2, .int i3, .int i4, .int i5, .int i6] [] SH M 0 0 (xr (some (.int z)) SH M) := by
  rw [f_X9_areCovered_90] at h
  refine X_iconst 0 dX9_areCovered_90 rfl ?_
  exact x_X9_areCovered_91 hk5 hk42 h
def f_X9_areCovered_113 (M : xM) (k5 : Int32 → Int32 → Int32 → Int32 → Option Int32) (i1 : Int32) (i2 : Int32) (i3 : Int32) (i4 : Int32) (i5 : Int32) (i6 : Int32) (s0 : Int32) : Option Int32 :=
  xl s0 fun v11 =>
  xl (i4 + 1) fun v12 =>
  k5 i1 i2 v11 v12
set_option maxHeartbeats 1000000 in
theorem x_X9_areCovered_113 {ξ : xX} {M : xM} {k5 : Int32 → Int32 → Int32 → Int32 → Option Int32} {i1 : Int32} {i2 : Int32} {i3 : Int32} {i4 : Int32} {i5 : Int32} {i6 : Int32} {s0 : Int32} (hk5 : ∀ (j1 j2 j3 j4 : Int32) (z : Int32), k5 j1 j2 j3 j4 = some z → X ξ mX9_areCovered 5 [.ref 149, .int j1, .int j2, .int j3, .int j4] [] SH M 0 0 (xr (some (.int z)) SH M)) {z : Int32} (h : f_X9_areCovered_113 M k5 i1 i2 i3 i4 i5 i6 s0 = some z) : X ξ mX9_areCovered 113 [.ref 149, .int i1, .int i2, .int i3, .int i4, .int i5, .int i6] [.int s0] SH M 0 0 (xr (some (.int z)) SH M) := by
  rw [f_X9_areCovered_113] at h
  refine X_istoreL_n (fun v11 => [.ref 149, .int i1, .int i2, .int v11, .int i4, .int i5, .int i6]) dX9_areCovered_113 (Nat.le_of_ble_eq_true rfl) (Nat.le_of_ble_eq_true rfl) (xcat1_of rfl) h (fun _ => rfl) (fun v11 h => ?_)
  refine X_iincL (x := i4) 1 (fun v12 => [.ref 149, .int i1, .int i2, .int v11, .int v12, .int i5, .int i6]) dX9_areCovered_114 rfl rfl (Nat.le_of_ble_eq_true rfl) (xcat1_of rfl) h (fun _ => rfl) (fun v12 h => ?_)
  refine X_goto 5 dX9_areCovered_117 (by decide) ?_
  refine X_cut 5 ?_
  exact hk5 _ _ _ _ _ h
def f_X9_areCovered_112 (M : xM) (k5 : Int32 → Int32 → Int32 → Int32 → Option Int32) (i1 : Int32) (i2 : Int32) (i3 : Int32) (i4 : Int32) (i5 : Int32) (i6 : Int32) : Option Int32 :=
  f_X9_areCovered_113 M k5 i1 i2 i3 i4 i5 i6 0
set_option maxHeartbeats 1000000 in
theorem x_X9_areCovered_112 {ξ : xX} {M : xM} {k5 : Int32 → Int32 → Int32 → Int32 → Option Int32} {i1 : Int32} {i2 : Int32} {i3 : Int32} {i4 : Int32} {i5 : Int32} {i6 : Int32} (hk5 : ∀ (j1 j2 j3 j4 : Int32) (z : Int32), k5 j1 j2 j3 j4 = some z → X ξ mX9_areCovered 5 [.ref 149, .int j1, .int j2, .int j3, .int j4] [] SH M 0 0 (xr (some (.int z)) SH M)) {z : Int32} (h : f_X9_areCovered_112 M k5 i1 i2 i3 i4 i5 i6 = some z) : X ξ mX9_areCovered 112 [.ref 149, .int i1, .int i2, .int i3, .int i4, .int i5, .int i6] [] SH M 0 0 (xr (some (.int z)) SH M) := by
  rw [f_X9_areCovered_112] at h
  refine X_iconst 0 dX9_areCovered_112 rfl ?_
  exact x_X9_areCovered_113 hk5 h
def f_X9_areCovered_42 (M : xM) (k5 : Int32 → Int32 → Int32 → Int32 → Option Int32) : Nat → Int32 → Int32 → Int32 → Int32 → Int32 → Int32 → Option Int32
  | 0, _, _, _, _, _, _ => none
  | fu + 1, i1, i2, i3, i4, i5, i6 =>
    if 16 ≤ i6 then (
      if i3 = 0 then (
        f_X9_areCovered_112 M k5 i1 i2 i3 i4 i5 i6)
      else (
        if i5 = 0 then (
          f_X9_areCovered_112 M k5 i1 i2 i3 i4 i5 i6)
        else (
          f_X9_areCovered_113 M k5 i1 i2 i3 i4 i5 i6 1)))
    else (
      if i5 = 0 then (
        if (((i2 : Int32) >>> ((i6 : Int32) &&& 31)) &&& 1) = 1 then (
          xgd (xin ((84 + (5 * i4)) + 1) 916) <|
          if ((M 150 ((84 + (5 * i4)) + 1).toNatClampNeg) &&& (i6 ^^^ (-1))) = 0 then (
            f_X9_areCovered_86 M k5 (f_X9_areCovered_42 M k5 fu) i1 i2 i3 i4 i5 i6)
          else (
            f_X9_areCovered_90 M k5 (f_X9_areCovered_42 M k5 fu) i1 i2 i3 i4 i5 i6))
        else (
          f_X9_areCovered_90 M k5 (f_X9_areCovered_42 M k5 fu) i1 i2 i3 i4 i5 i6))
      else (
        f_X9_areCovered_86 M k5 (f_X9_areCovered_42 M k5 fu) i1 i2 i3 i4 i5 i6))
set_option maxHeartbeats 1000000 in
theorem x_X9_areCovered_42 {ξ : xX} {M : xM} {k5 : Int32 → Int32 → Int32 → Int32 → Option Int32} (hk5 : ∀ (j1 j2 j3 j4 : Int32) (z : Int32), k5 j1 j2 j3 j4 = some z → X ξ mX9_areCovered 5 [.ref 149, .int j1, .int j2, .int j3, .int j4] [] SH M 0 0 (xr (some (.int z)) SH M)) : ∀ (fu : Nat) (i1 i2 i3 i4 i5 i6 : Int32) (z : Int32), f_X9_areCovered_42 M k5 fu i1 i2 i3 i4 i5 i6 = some z → X ξ mX9_areCovered 42 [.ref 149, .int i1, .int i2, .int i3, .int i4, .int i5, .int i6] [] SH M 0 0 (xr (some (.int z)) SH M) := by
  intro fu
  induction fu with
  | zero => intro i1 i2 i3 i4 i5 i6 z h; rw [f_X9_areCovered_42] at h; cases h
  | succ fu ih =>
    intro i1 i2 i3 i4 i5 i6 z h
    rw [f_X9_areCovered_42] at h
    refine X_iload (x := i6) dX9_areCovered_42 rfl ?_
    refine X_bipush 16 dX9_areCovered_44 rfl ?_
    refine X_icmp_ge 99 dX9_areCovered_46 (by decide) h (fun h => ?_) (fun h => ?_)
    · refine X_iload_n (x := i3) dX9_areCovered_99 rfl ?_
      refine X_if_eq 112 dX9_areCovered_100 (by decide) h (fun h => ?_) (fun h => ?_)
      · exact x_X9_areCovered_112 hk5 h
      · refine X_iload (x := i5) dX9_areCovered_103 rfl ?_
        refine X_if_eq 112 dX9_areCovered_105 (by decide) h (fun h => ?_) (fun h => ?_)
        · exact x_X9_areCovered_112 hk5 h
        · refine X_iconst 1 dX9_areCovered_108 rfl ?_
          refine X_goto 113 dX9_areCovered_109 (by decide) ?_
          exact x_X9_areCovered_113 hk5 h
    · refine X_iload (x := i5) dX9_areCovered_49 rfl ?_
      refine X_if_ne 86 dX9_areCovered_51 (by decide) h (fun h => ?_) (fun h => ?_)
      · exact x_X9_areCovered_86 hk5 ih h
      · refine X_iload_n (x := i2) dX9_areCovered_54 rfl ?_
        refine X_iload (x := i6) dX9_areCovered_55 rfl ?_
        refine X_ishr dX9_areCovered_57 ?_
        refine X_iconst 1 dX9_areCovered_58 rfl ?_
        refine X_iand dX9_areCovered_59 ?_
        refine X_iconst 1 dX9_areCovered_60 rfl ?_
        refine X_icmp_ne 90 dX9_areCovered_61 (by decide) h (fun h => ?_) (fun h => ?_)
        · exact x_X9_areCovered_90 hk5 ih h
        · refine X_aload_n (x := 149) dX9_areCovered_64 rfl ?_
          refine X_get (v := .ref 150) kF_RX9_7 sh_149 rfl rfl dX9_areCovered_65 ?_
          refine X_bipush 84 dX9_areCovered_68 rfl ?_
          refine X_iconst 5 dX9_areCovered_70 rfl ?_
          refine X_iload (x := i4) dX9_areCovered_71 rfl ?_
          refine X_imul dX9_areCovered_73 ?_
          refine X_iadd dX9_areCovered_74 ?_
          refine X_iconst 1 dX9_areCovered_75 rfl ?_
          refine X_iadd dX9_areCovered_76 ?_
          refine X_iald sh_150 dX9_areCovered_77 h (fun h => ?_)
          refine X_iload (x := i6) dX9_areCovered_78 rfl ?_
          refine X_iconst (-1) dX9_areCovered_80 rfl ?_
          refine X_ixor dX9_areCovered_81 ?_
          refine X_iand dX9_areCovered_82 ?_
          refine X_if_ne 90 dX9_areCovered_83 (by decide) h (fun h => ?_) (fun h => ?_)
          · exact x_X9_areCovered_90 hk5 ih h
          · exact x_X9_areCovered_86 hk5 ih h
def f_X9_areCovered_37 (M : xM) (k5 : Int32 → Int32 → Int32 → Int32 → Option Int32) (i1 : Int32) (i2 : Int32) (i3 : Int32) (i4 : Int32) (s0 : Int32) : Option Int32 :=
  xl s0 fun v13 =>
  xl (1 : Int32) fun v14 =>
  f_X9_areCovered_42 M k5 xFU i1 i2 i3 i4 v13 v14
set_option maxHeartbeats 1000000 in
theorem x_X9_areCovered_37 {ξ : xX} {M : xM} {k5 : Int32 → Int32 → Int32 → Int32 → Option Int32} {i1 : Int32} {i2 : Int32} {i3 : Int32} {i4 : Int32} {s0 : Int32} (hk5 : ∀ (j1 j2 j3 j4 : Int32) (z : Int32), k5 j1 j2 j3 j4 = some z → X ξ mX9_areCovered 5 [.ref 149, .int j1, .int j2, .int j3, .int j4] [] SH M 0 0 (xr (some (.int z)) SH M)) {z : Int32} (h : f_X9_areCovered_37 M k5 i1 i2 i3 i4 s0 = some z) : X ξ mX9_areCovered 37 [.ref 149, .int i1, .int i2, .int i3, .int i4] [.int s0] SH M 0 0 (xr (some (.int z)) SH M) := by
  rw [f_X9_areCovered_37] at h
  refine X_istoreL (fun v13 => [.ref 149, .int i1, .int i2, .int i3, .int i4, .int v13]) dX9_areCovered_37 (Nat.le_of_ble_eq_true rfl) (Nat.le_of_ble_eq_true rfl) (xcat1_of rfl) h (fun _ => rfl) (fun v13 h => ?_)
  refine X_iconst 1 dX9_areCovered_39 rfl ?_
  refine X_istoreL (fun v14 => [.ref 149, .int i1, .int i2, .int i3, .int i4, .int v13, .int v14]) dX9_areCovered_40 (Nat.le_of_ble_eq_true rfl) (Nat.le_of_ble_eq_true rfl) (xcat1_of rfl) h (fun _ => rfl) (fun v14 h => ?_)
  exact x_X9_areCovered_42 hk5 _ _ _ _ _ _ _ _ h
def f_X9_areCovered_5 (M : xM) : Nat → Int32 → Int32 → Int32 → Int32 → Option Int32
  | 0, _, _, _, _ => none
  | fu + 1, i1, i2, i3, i4 =>
    xgd (xin 3 916) <|
    if (M 150 (3 : Int32).toNatClampNeg) ≤ i4 then (
      xgd (xz i3) (some i3))
    else (
      xgd (xin (84 + (5 * i4)) 916) <|
      if (M 150 (84 + (5 * i4)).toNatClampNeg) = i1 then (
        f_X9_areCovered_37 M (f_X9_areCovered_5 M fu) i1 i2 i3 i4 0)
      else (
        f_X9_areCovered_37 M (f_X9_areCovered_5 M fu) i1 i2 i3 i4 1))
set_option maxHeartbeats 1000000 in
theorem x_X9_areCovered_5 {ξ : xX} {M : xM} : ∀ (fu : Nat) (i1 i2 i3 i4 : Int32) (z : Int32), f_X9_areCovered_5 M fu i1 i2 i3 i4 = some z → X ξ mX9_areCovered 5 [.ref 149, .int i1, .int i2, .int i3, .int i4] [] SH M 0 0 (xr (some (.int z)) SH M) := by
  intro fu
  induction fu with
  | zero => intro i1 i2 i3 i4 z h; rw [f_X9_areCovered_5] at h; cases h
  | succ fu ih =>
    intro i1 i2 i3 i4 z h
    rw [f_X9_areCovered_5] at h
    refine X_iload (x := i4) dX9_areCovered_5 rfl ?_
    refine X_aload_n (x := 149) dX9_areCovered_7 rfl ?_
    refine X_get (v := .ref 150) kF_RX9_7 sh_149 rfl rfl dX9_areCovered_8 ?_
    refine X_iconst 3 dX9_areCovered_11 rfl ?_
    refine X_iald sh_150 dX9_areCovered_12 h (fun h => ?_)
    refine X_icmp_ge 120 dX9_areCovered_13 (by decide) h (fun h => ?_) (fun h => ?_)
    · refine X_iload_n (x := i3) dX9_areCovered_120 rfl ?_
      exact X_retZ dX9_areCovered_121 rfl (Nat.le_refl _) (Nat.le_refl _) h
    · refine X_aload_n (x := 149) dX9_areCovered_16 rfl ?_
      refine X_get (v := .ref 150) kF_RX9_7 sh_149 rfl rfl dX9_areCovered_17 ?_
      refine X_bipush 84 dX9_areCovered_20 rfl ?_
      refine X_iconst 5 dX9_areCovered_22 rfl ?_
      refine X_iload (x := i4) dX9_areCovered_23 rfl ?_
      refine X_imul dX9_areCovered_25 ?_
      refine X_iadd dX9_areCovered_26 ?_
      refine X_iald sh_150 dX9_areCovered_27 h (fun h => ?_)
      refine X_iload_n (x := i1) dX9_areCovered_28 rfl ?_
      refine X_icmp_eq 36 dX9_areCovered_29 (by decide) h (fun h => ?_) (fun h => ?_)
      · refine X_iconst 0 dX9_areCovered_36 rfl ?_
        exact x_X9_areCovered_37 ih h
      · refine X_iconst 1 dX9_areCovered_32 rfl ?_
        refine X_goto 37 dX9_areCovered_33 (by decide) ?_
        exact x_X9_areCovered_37 ih h
def f_X9_areCovered (M : xM) (a1 a2 : Int32) : Option Int32 :=
  xl (1 : Int32) fun v15 =>
  xl (0 : Int32) fun v16 =>
  f_X9_areCovered_5 M xFU a1 a2 v15 v16
set_option maxHeartbeats 1000000 in
theorem x_X9_areCovered {ξ : xX} {M : xM} {a1 a2 : Int32} {z : Int32} (h : f_X9_areCovered M a1 a2 = some z) : X ξ mX9_areCovered 0 [.ref 149, .int a1, .int a2] [] SH M 0 0 (xr (some (.int z)) SH M) := by
  rw [f_X9_areCovered] at h
  refine X_iconst 1 dX9_areCovered_0 rfl ?_
  refine X_istoreL_n (fun v15 => [.ref 149, .int a1, .int a2, .int v15]) dX9_areCovered_1 (Nat.le_of_ble_eq_true rfl) (Nat.le_of_ble_eq_true rfl) (xcat1_of rfl) h (fun _ => rfl) (fun v15 h => ?_)
  refine X_iconst 0 dX9_areCovered_2 rfl ?_
  refine X_istoreL (fun v16 => [.ref 149, .int a1, .int a2, .int v15, .int v16]) dX9_areCovered_3 (Nat.le_of_ble_eq_true rfl) (Nat.le_of_ble_eq_true rfl) (xcat1_of rfl) h (fun _ => rfl) (fun v16 h => ?_)
  exact x_X9_areCovered_5 _ _ _ _ _ _ h
def f_X9_fewestPasses_100 (k29 : xM → Int32 → Int32 → Int32 → Int32 → Option (Int32 × xM)) (k73 : xM → Int32 → Int32 → Int32 → Int32 → Int32 → Int32 → Int32 → Option (Int32 × xM)) (M : xM) (i1 : Int32) (i2 : Int32) (i3 : Int32) (i4 : Int32) (i5 : Int32) (i6 : Int32) (i7 : Int32) (s0 : Int32) (s1 : Int32) : Option (Int32 × xM) :=
  xl (s0 ||| s1) fun v15 =>
  xl (i7 + 1) fun v16 =>
  k73 M i1 i2 i3 i4 i5 v15 v16
set_option maxHeartbeats 1000000 in
theorem x_X9_fewestPasses_100 {ξ : xX} {M : xM} {k29 : xM → Int32 → Int32 → Int32 → Int32 → Option (Int32 × xM)} {k73 : xM → Int32 → Int32 → Int32 → Int32 → Int32 → Int32 → Int32 → Option (Int32 × xM)} {i1 : Int32} {i2 : Int32} {i3 : Int32} {i4 : Int32} {i5 : Int32} {i6 : Int32} {i7 : Int32} {s0 : Int32} {s1 : Int32} (hk29 : ∀ (M : xM) (j1 j2 j3 j4 : Int32) (z : (Int32 × xM)), k29 M j1 j2 j3 j4 = some z → X ξ mX9_fewestPasses 29 [.ref 149, .int j1, .int j2, .int j3, .int j4] [] SH M 0 0 (xr (some (.int z.1)) SH z.2)) (hk73 : ∀ (M : xM) (j1 j2 j3 j4 j5 j6 j7 : Int32) (z : (Int32 × xM)), k73 M j1 j2 j3 j4 j5 j6 j7 = some z → X ξ mX9_fewestPasses 73 [.ref 149, .int j1, .int j2, .int j3, .int j4, .int j5, .int j6, .int j7] [] SH M 0 0 (xr (some (.int z.1)) SH z.2)) {z : (Int32 × xM)} (h : f_X9_fewestPasses_100 k29 k73 M i1 i2 i3 i4 i5 i6 i7 s0 s1 = some z) : X ξ mX9_fewestPasses 100 [.ref 149, .int i1, .int i2, .int i3, .int i4, .int i5, .int i6, .int i7] [.int s1, .int s0] SH M 0 0 (xr (some (.int z.1)) SH z.2) := by
  rw [f_X9_fewestPasses_100] at h
  refine X_ior dX9_fewestPasses_100 ?_
  refine X_istoreL (fun v15 => [.ref 149, .int i1, .int i2, .int i3, .int i4, .int i5, .int v15, .int i7]) dX9_fewestPasses_101 (Nat.le_of_ble_eq_true rfl) (Nat.le_of_ble_eq_true rfl) (xcat1_of rfl) h (fun _ => rfl) (fun v15 h => ?_)
  refine X_iincL (x := i7) 1 (fun v16 => [.ref 149, .int i1, .int i2, .int i3, .int i4, .int i5, .int v15, .int v16]) dX9_fewestPasses_103 rfl rfl (Nat.le_of_ble_eq_true rfl) (xcat1_of rfl) h (fun _ => rfl) (fun v16 h => ?_)
  refine X_goto 73 dX9_fewestPasses_106 (by decide) ?_
  exact hk73 _ _ _ _ _ _ _ _ _ h
def f_X9_fewestPasses_116 (k29 : xM → Int32 → Int32 → Int32 → Int32 → Option (Int32 × xM)) (M : xM) (i1 : Int32) (i2 : Int32) (i3 : Int32) (i4 : Int32) (i5 : Int32) : Option (Int32 × xM) :=
  xl (i4 + 1) fun v17 =>
  k29 M i1 i2 i3 v17
set_option maxHeartbeats 1000000 in
theorem x_X9_fewestPasses_116 {ξ : xX} {M : xM} {k29 : xM → Int32 → Int32 → Int32 → Int32 → Option (Int32 × xM)} {i1 : Int32} {i2 : Int32} {i3 : Int32} {i4 : Int32} {i5 : Int32} (hk29 : ∀ (M : xM) (j1 j2 j3 j4 : Int32) (z : (Int32 × xM)), k29 M j1 j2 j3 j4 = some z → X ξ mX9_fewestPasses 29 [.ref 149, .int j1, .int j2, .int j3, .int j4] [] SH M 0 0 (xr (some (.int z.1)) SH z.2)) {z : (Int32 × xM)} (h : f_X9_fewestPasses_116 k29 M i1 i2 i3 i4 i5 = some z) : X ξ mX9_fewestPasses 116 [.ref 149, .int i1, .int i2, .int i3, .int i4, .int i5] [] SH M 0 0 (xr (some (.int z.1)) SH z.2) := by
  rw [f_X9_fewestPasses_116] at h
  refine X_iincL (x := i4) 1 (fun v17 => [.ref 149, .int i1, .int i2, .int i3, .int v17, .int i5]) dX9_fewestPasses_116 rfl rfl (Nat.le_of_ble_eq_true rfl) (xcat1_of rfl) h (fun _ => rfl) (fun v17 h => ?_)
  refine X_goto 29 dX9_fewestPasses_119 (by decide) ?_
  refine X_cut 5 ?_
  exact hk29 _ _ _ _ _ _ h
def f_X9_fewestPasses_73 (k29 : xM → Int32 → Int32 → Int32 → Int32 → Option (Int32 × xM)) : Nat → xM → Int32 → Int32 → Int32 → Int32 → Int32 → Int32 → Int32 → Option (Int32 × xM)
  | 0, _, _, _, _, _, _, _, _ => none
  | fu + 1, M, i1, i2, i3, i4, i5, i6, i7 =>
    if 4 ≤ i7 then (
      xl (i3 ||| ((1 : Int32) <<< ((i6 : Int32) &&& 31))) fun v18 =>
      f_X9_fewestPasses_116 k29 M i1 i2 v18 i4 i5)
    else (
      xgd (xin i7 4) <|
      if (M 157 i7.toNatClampNeg) < i2 then (
        f_X9_fewestPasses_100 k29 (f_X9_fewestPasses_73 k29 fu) M i1 i2 i3 i4 i5 i6 i7 i6 0)
      else (
        f_X9_fewestPasses_100 k29 (f_X9_fewestPasses_73 k29 fu) M i1 i2 i3 i4 i5 i6 i7 i6 ((1 : Int32) <<< ((i7 : Int32) &&& 31))))
set_option maxHeartbeats 1000000 in
theorem x_X9_fewestPasses_73 {ξ : xX} {k29 : xM → Int32 → Int32 → Int32 → Int32 → Option (Int32 × xM)} (hk29 : ∀ (M : xM) (j1 j2 j3 j4 : Int32) (z : (Int32 × xM)), k29 M j1 j2 j3 j4 = some z → X ξ mX9_fewestPasses 29 [.ref 149, .int j1, .int j2, .int j3, .int j4] [] SH M 0 0 (xr (some (.int z.1)) SH z.2)) : ∀ (fu : Nat) (M : xM) (i1 i2 i3 i4 i5 i6 i7 : Int32) (z : (Int32 × xM)), f_X9_fewestPasses_73 k29 fu M i1 i2 i3 i4 i5 i6 i7 = some z → X ξ mX9_fewestPasses 73 [.ref 149, .int i1, .int i2, .int i3, .int i4, .int i5, .int i6, .int i7] [] SH M 0 0 (xr (some (.int z.1)) SH z.2) := by
  intro fu
  induction fu with
  | zero => intro M i1 i2 i3 i4 i5 i6 i7 z h; rw [f_X9_fewestPasses_73] at h; cases h
  | succ fu ih =>
    intro M i1 i2 i3 i4 i5 i6 i7 z h
    rw [f_X9_fewestPasses_73] at h
    refine X_iload (x := i7) dX9_fewestPasses_73 rfl ?_
    refine X_iconst 4 dX9_fewestPasses_75 rfl ?_
    refine X_icmp_ge 109 dX9_fewestPasses_76 (by decide) h (fun h => ?_) (fun h => ?_)
    · refine X_iload_n (x := i3) dX9_fewestPasses_109 rfl ?_
      refine X_iconst 1 dX9_fewestPasses_110 rfl ?_
      refine X_iload (x := i6) dX9_fewestPasses_111 rfl ?_
      refine X_ishl dX9_fewestPasses_113 ?_
      refine X_ior dX9_fewestPasses_114 ?_
      refine X_istoreL_n (fun v18 => [.ref 149, .int i1, .int i2, .int v18, .int i4, .int i5, .int i6, .int i7]) dX9_fewestPasses_115 (Nat.le_of_ble_eq_true rfl) (Nat.le_of_ble_eq_true rfl) (xcat1_of rfl) h (fun _ => rfl) (fun v18 h => ?_)
      refine X_cut 6 ?_
      exact x_X9_fewestPasses_116 hk29 h
    · refine X_iload (x := i6) dX9_fewestPasses_79 rfl ?_
      refine X_aload_n (x := 149) dX9_fewestPasses_81 rfl ?_
      refine X_get (v := .ref 157) kF_RX9_32 sh_149 rfl rfl dX9_fewestPasses_82 ?_
      refine X_iload (x := i7) dX9_fewestPasses_85 rfl ?_
      refine X_iald sh_157 dX9_fewestPasses_87 h (fun h => ?_)
      refine X_iload_n (x := i2) dX9_fewestPasses_88 rfl ?_
      refine X_icmp_lt 99 dX9_fewestPasses_89 (by decide) h (fun h => ?_) (fun h => ?_)
      · refine X_iconst 0 dX9_fewestPasses_99 rfl ?_
        exact x_X9_fewestPasses_100 hk29 ih h
      · refine X_iconst 1 dX9_fewestPasses_92 rfl ?_
        refine X_iload (x := i7) dX9_fewestPasses_93 rfl ?_
        refine X_ishl dX9_fewestPasses_95 ?_
        refine X_goto 100 dX9_fewestPasses_96 (by decide) ?_
        exact x_X9_fewestPasses_100 hk29 ih h
def f_X9_fewestPasses_198 (k129 : xM → Int32 → Int32 → Int32 → Int32 → Int32 → Option (Int32 × xM)) (M : xM) (i1 : Int32) (i2 : Int32) (i3 : Int32) (i4 : Int32) (i5 : Int32) (i6 : Int32) (s0 : Int32) : Option (Int32 × xM) :=
  xl s0 fun v19 =>
  k129 M i1 i2 i3 i4 v19
set_option maxHeartbeats 1000000 in
theorem x_X9_fewestPasses_198 {ξ : xX} {M : xM} {k129 : xM → Int32 → Int32 → Int32 → Int32 → Int32 → Option (Int32 × xM)} {i1 : Int32} {i2 : Int32} {i3 : Int32} {i4 : Int32} {i5 : Int32} {i6 : Int32} {s0 : Int32} (hk129 : ∀ (M : xM) (j1 j2 j3 j4 j5 : Int32) (z : (Int32 × xM)), k129 M j1 j2 j3 j4 j5 = some z → X ξ mX9_fewestPasses 129 [.ref 149, .int j1, .int j2, .int j3, .int j4, .int j5] [] SH M 0 0 (xr (some (.int z.1)) SH z.2)) {z : (Int32 × xM)} (h : f_X9_fewestPasses_198 k129 M i1 i2 i3 i4 i5 i6 s0 = some z) : X ξ mX9_fewestPasses 198 [.ref 149, .int i1, .int i2, .int i3, .int i4, .int i5, .int i6] [.int s0] SH M 0 0 (xr (some (.int z.1)) SH z.2) := by
  rw [f_X9_fewestPasses_198] at h
  refine X_istoreL (fun v19 => [.ref 149, .int i1, .int i2, .int i3, .int i4, .int v19, .int i6]) dX9_fewestPasses_198 (Nat.le_of_ble_eq_true rfl) (Nat.le_of_ble_eq_true rfl) (xcat1_of rfl) h (fun _ => rfl) (fun v19 h => ?_)
  refine X_goto 129 dX9_fewestPasses_200 (by decide) ?_
  refine X_cut 6 ?_
  exact hk129 _ _ _ _ _ _ _ h
def f_X9_fewestPasses_181 (k129 : xM → Int32 → Int32 → Int32 → Int32 → Int32 → Option (Int32 × xM)) (M : xM) (i1 : Int32) (i2 : Int32) (i3 : Int32) (i4 : Int32) (i5 : Int32) (i6 : Int32) (s0 : Int32) : Option (Int32 × xM) :=
  xl s0 fun v20 =>
  if i5 = 0 then (
    f_X9_fewestPasses_198 k129 M i1 i2 i3 v20 i5 i6 (-1))
  else (
    f_X9_fewestPasses_198 k129 M i1 i2 i3 v20 i5 i6 ((i5 - 1) &&& i3))
set_option maxHeartbeats 1000000 in
theorem x_X9_fewestPasses_181 {ξ : xX} {M : xM} {k129 : xM → Int32 → Int32 → Int32 → Int32 → Int32 → Option (Int32 × xM)} {i1 : Int32} {i2 : Int32} {i3 : Int32} {i4 : Int32} {i5 : Int32} {i6 : Int32} {s0 : Int32} (hk129 : ∀ (M : xM) (j1 j2 j3 j4 j5 : Int32) (z : (Int32 × xM)), k129 M j1 j2 j3 j4 j5 = some z → X ξ mX9_fewestPasses 129 [.ref 149, .int j1, .int j2, .int j3, .int j4, .int j5] [] SH M 0 0 (xr (some (.int z.1)) SH z.2)) {z : (Int32 × xM)} (h : f_X9_fewestPasses_181 k129 M i1 i2 i3 i4 i5 i6 s0 = some z) : X ξ mX9_fewestPasses 181 [.ref 149, .int i1, .int i2, .int i3, .int i4, .int i5, .int i6] [.int s0] SH M 0 0 (xr (some (.int z.1)) SH z.2) := by
  rw [f_X9_fewestPasses_181] at h
  refine X_istoreL (fun v20 => [.ref 149, .int i1, .int i2, .int i3, .int v20, .int i5, .int i6]) dX9_fewestPasses_181 (Nat.le_of_ble_eq_true rfl) (Nat.le_of_ble_eq_true rfl) (xcat1_of rfl) h (fun _ => rfl) (fun v20 h => ?_)
  refine X_iload (x := i5) dX9_fewestPasses_183 rfl ?_
  refine X_if_ne 192 dX9_fewestPasses_185 (by decide) h (fun h => ?_) (fun h => ?_)
  · refine X_iload (x := i5) dX9_fewestPasses_192 rfl ?_
    refine X_iconst 1 dX9_fewestPasses_194 rfl ?_
    refine X_isub dX9_fewestPasses_195 ?_
    refine X_iload_n (x := i3) dX9_fewestPasses_196 rfl ?_
    refine X_iand dX9_fewestPasses_197 ?_
    exact x_X9_fewestPasses_198 hk129 h
  · refine X_iconst (-1) dX9_fewestPasses_188 rfl ?_
    refine X_goto 198 dX9_fewestPasses_189 (by decide) ?_
    exact x_X9_fewestPasses_198 hk129 h
def f_X9_fewestPasses_179 (k129 : xM → Int32 → Int32 → Int32 → Int32 → Int32 → Option (Int32 × xM)) (M : xM) (i1 : Int32) (i2 : Int32) (i3 : Int32) (i4 : Int32) (i5 : Int32) (i6 : Int32) : Option (Int32 × xM) :=
  f_X9_fewestPasses_181 k129 M i1 i2 i3 i4 i5 i6 i4
set_option maxHeartbeats 1000000 in
theorem x_X9_fewestPasses_179 {ξ : xX} {M : xM} {k129 : xM → Int32 → Int32 → Int32 → Int32 → Int32 → Option (Int32 × xM)} {i1 : Int32} {i2 : Int32} {i3 : Int32} {i4 : Int32} {i5 : Int32} {i6 : Int32} (hk129 : ∀ (M : xM) (j1 j2 j3 j4 j5 : Int32) (z : (Int32 × xM)), k129 M j1 j2 j3 j4 j5 = some z → X ξ mX9_fewestPasses 129 [.ref 149, .int j1, .int j2, .int j3, .int j4, .int j5] [] SH M 0 0 (xr (some (.int z.1)) SH z.2)) {z : (Int32 × xM)} (h : f_X9_fewestPasses_179 k129 M i1 i2 i3 i4 i5 i6 = some z) : X ξ mX9_fewestPasses 179 [.ref 149, .int i1, .int i2, .int i3, .int i4, .int i5, .int i6] [] SH M 0 0 (xr (some (.int z.1)) SH z.2) := by
  rw [f_X9_fewestPasses_179] at h
  refine X_iload (x := i4) dX9_fewestPasses_179 rfl ?_
  exact x_X9_fewestPasses_181 hk129 h
def f_X9_fewestPasses_154 (k129 : xM → Int32 → Int32 → Int32 → Int32 → Int32 → Option (Int32 × xM)) (M : xM) (i1 : Int32) (i2 : Int32) (i3 : Int32) (i4 : Int32) (i5 : Int32) (s0 : Int32) : Option (Int32 × xM) :=
  xl s0 fun v21 =>
  if v21 = 0 then (
    f_X9_fewestPasses_179 k129 M i1 i2 i3 i4 i5 v21)
  else (
    xb (f_X9_areCovered M i1 i5) fun v22 =>
    if v22 = 0 then (
      f_X9_fewestPasses_179 k129 M i1 i2 i3 i4 i5 v21)
    else (
      xb (f_X9_ones i5) fun v23 =>
      f_X9_fewestPasses_181 k129 M i1 i2 i3 i4 i5 v21 v23))
set_option maxHeartbeats 1000000 in
theorem x_X9_fewestPasses_154 {ξ : xX} {M : xM} {k129 : xM → Int32 → Int32 → Int32 → Int32 → Int32 → Option (Int32 × xM)} {i1 : Int32} {i2 : Int32} {i3 : Int32} {i4 : Int32} {i5 : Int32} {s0 : Int32} (hk129 : ∀ (M : xM) (j1 j2 j3 j4 j5 : Int32) (z : (Int32 × xM)), k129 M j1 j2 j3 j4 j5 = some z → X ξ mX9_fewestPasses 129 [.ref 149, .int j1, .int j2, .int j3, .int j4, .int j5] [] SH M 0 0 (xr (some (.int z.1)) SH z.2)) {z : (Int32 × xM)} (h : f_X9_fewestPasses_154 k129 M i1 i2 i3 i4 i5 s0 = some z) : X ξ mX9_fewestPasses 154 [.ref 149, .int i1, .int i2, .int i3, .int i4, .int i5] [.int s0] SH M 0 0 (xr (some (.int z.1)) SH z.2) := by
  rw [f_X9_fewestPasses_154] at h
  refine X_istoreL (fun v21 => [.ref 149, .int i1, .int i2, .int i3, .int i4, .int i5, .int v21]) dX9_fewestPasses_154 (Nat.le_of_ble_eq_true rfl) (Nat.le_of_ble_eq_true rfl) (xcat1_of rfl) h (fun _ => rfl) (fun v21 h => ?_)
  refine X_iload (x := v21) dX9_fewestPasses_156 rfl ?_
  refine X_if_eq 179 dX9_fewestPasses_158 (by decide) h (fun h => ?_) (fun h => ?_)
  · exact x_X9_fewestPasses_179 hk129 h
  · refine X_aload_n (x := 149) dX9_fewestPasses_161 rfl ?_
    refine X_iload_n (x := i1) dX9_fewestPasses_162 rfl ?_
    refine X_iload (x := i5) dX9_fewestPasses_163 rfl ?_
    refine X_vP (μ' := mX9_areCovered) [.int i1, .int i5] [] kL_RX9_193 kM_X9_areCovered rv_149 rfl rfl rfl dX9_fewestPasses_165 h (fun _ hv => x_X9_areCovered hv) (fun v22 h => ?_)
    refine X_if_eq 179 dX9_fewestPasses_168 (by decide) h (fun h => ?_) (fun h => ?_)
    · exact x_X9_fewestPasses_179 hk129 h
    · refine X_iload (x := i5) dX9_fewestPasses_171 rfl ?_
      refine X_sP (μ' := mX9_ones) [.int i5] [] kL_RX9_79 kM_X9_ones rfl rfl rfl dX9_fewestPasses_173 h (fun _ hv => x_X9_ones hv) (fun v23 h => ?_)
      refine X_goto 181 dX9_fewestPasses_176 (by decide) ?_
      exact x_X9_fewestPasses_181 hk129 h
def f_X9_fewestPasses_149 (k129 : xM → Int32 → Int32 → Int32 → Int32 → Int32 → Option (Int32 × xM)) (M : xM) (i1 : Int32) (i2 : Int32) (i3 : Int32) (i4 : Int32) (i5 : Int32) : Option (Int32 × xM) :=
  f_X9_fewestPasses_154 k129 M i1 i2 i3 i4 i5 1
set_option maxHeartbeats 1000000 in
theorem x_X9_fewestPasses_149 {ξ : xX} {M : xM} {k129 : xM → Int32 → Int32 → Int32 → Int32 → Int32 → Option (Int32 × xM)} {i1 : Int32} {i2 : Int32} {i3 : Int32} {i4 : Int32} {i5 : Int32} (hk129 : ∀ (M : xM) (j1 j2 j3 j4 j5 : Int32) (z : (Int32 × xM)), k129 M j1 j2 j3 j4 j5 = some z → X ξ mX9_fewestPasses 129 [.ref 149, .int j1, .int j2, .int j3, .int j4, .int j5] [] SH M 0 0 (xr (some (.int z.1)) SH z.2)) {z : (Int32 × xM)} (h : f_X9_fewestPasses_149 k129 M i1 i2 i3 i4 i5 = some z) : X ξ mX9_fewestPasses 149 [.ref 149, .int i1, .int i2, .int i3, .int i4, .int i5] [] SH M 0 0 (xr (some (.int z.1)) SH z.2) := by
  rw [f_X9_fewestPasses_149] at h
  refine X_iconst 1 dX9_fewestPasses_149 rfl ?_
  refine X_goto 154 dX9_fewestPasses_150 (by decide) ?_
  exact x_X9_fewestPasses_154 hk129 h
def f_X9_fewestPasses_129 : Nat → xM → Int32 → Int32 → Int32 → Int32 → Int32 → Option (Int32 × xM)
  | 0, _, _, _, _, _, _ => none
  | fu + 1, M, i1, i2, i3, i4, i5 =>
    if i5 < 0 then (
      some (i4, M))
    else (
      if i4 < 0 then (
        f_X9_fewestPasses_149 (f_X9_fewestPasses_129 fu) M i1 i2 i3 i4 i5)
      else (
        xb (f_X9_ones i5) fun v24 =>
        if i4 ≤ v24 then (
          f_X9_fewestPasses_154 (f_X9_fewestPasses_129 fu) M i1 i2 i3 i4 i5 0)
        else (
          f_X9_fewestPasses_149 (f_X9_fewestPasses_129 fu) M i1 i2 i3 i4 i5)))
set_option maxHeartbeats 1000000 in
theorem x_X9_fewestPasses_129 {ξ : xX} : ∀ (fu : Nat) (M : xM) (i1 i2 i3 i4 i5 : Int32) (z : (Int32 × xM)), f_X9_fewestPasses_129 fu M i1 i2 i3 i4 i5 = some z → X ξ mX9_fewestPasses 129 [.ref 149, .int i1, .int i2, .int i3, .int i4, .int i5] [] SH M 0 0 (xr (some (.int z.1)) SH z.2) := by
  intro fu
  induction fu with
  | zero => intro M i1 i2 i3 i4 i5 z h; rw [f_X9_fewestPasses_129] at h; cases h
  | succ fu ih =>
    intro M i1 i2 i3 i4 i5 z h
    rw [f_X9_fewestPasses_129] at h
    refine X_iload (x := i5) dX9_fewestPasses_129 rfl ?_
    refine X_if_lt 203 dX9_fewestPasses_131 (by decide) h (fun h => ?_) (fun h => ?_)
    · refine X_iload (x := i4) dX9_fewestPasses_203 rfl ?_
      exact X_retI dX9_fewestPasses_205 rfl (Nat.le_refl _) (Nat.le_refl _) h
    · refine X_iload (x := i4) dX9_fewestPasses_134 rfl ?_
      refine X_if_lt 149 dX9_fewestPasses_136 (by decide) h (fun h => ?_) (fun h => ?_)
      · exact x_X9_fewestPasses_149 ih h
      · refine X_iload (x := i5) dX9_fewestPasses_139 rfl ?_
        refine X_sP (μ' := mX9_ones) [.int i5] [] kL_RX9_79 kM_X9_ones rfl rfl rfl dX9_fewestPasses_141 h (fun _ hv => x_X9_ones hv) (fun v24 h => ?_)
        refine X_iload (x := i4) dX9_fewestPasses_144 rfl ?_
        refine X_icmp_ge 153 dX9_fewestPasses_146 (by decide) h (fun h => ?_) (fun h => ?_)
        · refine X_iconst 0 dX9_fewestPasses_153 rfl ?_
          exact x_X9_fewestPasses_154 ih h
        · exact x_X9_fewestPasses_149 ih h
def f_X9_fewestPasses_29 : Nat → xM → Int32 → Int32 → Int32 → Int32 → Option (Int32 × xM)
  | 0, _, _, _, _, _ => none
  | fu + 1, M, i1, i2, i3, i4 =>
    if 24 ≤ i4 then (
      xl (-6 : Int32) fun v25 =>
      xl i3 fun v26 =>
      f_X9_fewestPasses_129 xFU M i1 i2 i3 v25 v26)
    else (
      xb (f_X9_speedOfPass M i1 i4) fun v27 =>
      xl v27 fun v28 =>
      if v28 ≤ 0 then (
        f_X9_fewestPasses_116 (f_X9_fewestPasses_29 fu) M i1 i2 i3 i4 v28)
      else (
        xb2 (f_X9_hears M i1 (i4 / 6) v28 (i4 - i4 / 2 * 2)) fun v29 M30 =>
        xl (0 : Int32) fun v31 =>
        xl (0 : Int32) fun v32 =>
        f_X9_fewestPasses_73 (f_X9_fewestPasses_29 fu) xFU M30 i1 i2 i3 i4 v28 v31 v32))
set_option maxHeartbeats 1000000 in
theorem x_X9_fewestPasses_29 {ξ : xX} : ∀ (fu : Nat) (M : xM) (i1 i2 i3 i4 : Int32) (z : (Int32 × xM)), f_X9_fewestPasses_29 fu M i1 i2 i3 i4 = some z → X ξ mX9_fewestPasses 29 [.ref 149, .int i1, .int i2, .int i3, .int i4] [] SH M 0 0 (xr (some (.int z.1)) SH z.2) := by
  intro fu
  induction fu with
  | zero => intro M i1 i2 i3 i4 z h; rw [f_X9_fewestPasses_29] at h; cases h
  | succ fu ih =>
    intro M i1 i2 i3 i4 z h
    rw [f_X9_fewestPasses_29] at h
    refine X_iload (x := i4) dX9_fewestPasses_29 rfl ?_
    refine X_bipush 24 dX9_fewestPasses_31 rfl ?_
    refine X_icmp_ge 122 dX9_fewestPasses_33 (by decide) h (fun h => ?_) (fun h => ?_)
    · refine X_bipush (-6) dX9_fewestPasses_122 rfl ?_
      refine X_istoreL (fun v25 => [.ref 149, .int i1, .int i2, .int i3, .int v25]) dX9_fewestPasses_124 (Nat.le_of_ble_eq_true rfl) (Nat.le_of_ble_eq_true rfl) (xcat1_of rfl) h (fun _ => rfl) (fun v25 h => ?_)
      refine X_iload_n (x := i3) dX9_fewestPasses_126 rfl ?_
      refine X_istoreL (fun v26 => [.ref 149, .int i1, .int i2, .int i3, .int v25, .int v26]) dX9_fewestPasses_127 (Nat.le_of_ble_eq_true rfl) (Nat.le_of_ble_eq_true rfl) (xcat1_of rfl) h (fun _ => rfl) (fun v26 h => ?_)
      exact x_X9_fewestPasses_129 _ _ _ _ _ _ _ _ h
    · refine X_aload_n (x := 149) dX9_fewestPasses_36 rfl ?_
      refine X_iload_n (x := i1) dX9_fewestPasses_37 rfl ?_
      refine X_iload (x := i4) dX9_fewestPasses_38 rfl ?_
      refine X_vP (μ' := mX9_speedOfPass) [.int i1, .int i4] [] kL_RX9_190 kM_X9_speedOfPass rv_149 rfl rfl rfl dX9_fewestPasses_40 h (fun _ hv => x_X9_speedOfPass hv) (fun v27 h => ?_)
      refine X_istoreL (fun v28 => [.ref 149, .int i1, .int i2, .int i3, .int i4, .int v28]) dX9_fewestPasses_43 (Nat.le_of_ble_eq_true rfl) (Nat.le_of_ble_eq_true rfl) (xcat1_of rfl) h (fun _ => rfl) (fun v28 h => ?_)
      refine X_iload (x := v28) dX9_fewestPasses_45 rfl ?_
      refine X_if_le 116 dX9_fewestPasses_47 (by decide) h (fun h => ?_) (fun h => ?_)
      · exact x_X9_fewestPasses_116 ih h
      · refine X_aload_n (x := 149) dX9_fewestPasses_50 rfl ?_
        refine X_iload_n (x := i1) dX9_fewestPasses_51 rfl ?_
        refine X_iload (x := i4) dX9_fewestPasses_52 rfl ?_
        refine X_bipush 6 dX9_fewestPasses_54 rfl ?_
        refine X_idiv (by decide) dX9_fewestPasses_56 ?_
        refine X_iload (x := v28) dX9_fewestPasses_57 rfl ?_
        refine X_iload (x := i4) dX9_fewestPasses_59 rfl ?_
        refine X_iconst 2 dX9_fewestPasses_61 rfl ?_
        refine X_irem (by decide) dX9_fewestPasses_62 ?_
        refine X_vI (μ' := mX9_hears) [.int i1, .int (i4 / 6), .int v28, .int (i4 - i4 / 2 * 2)] [] kL_RX9_99 kM_X9_hears rv_149 rfl rfl rfl dX9_fewestPasses_63 h (fun _ hv => x_X9_hears hv) (fun v29 M30 h => ?_)
        refine X_pop dX9_fewestPasses_66 rfl ?_
        refine X_iconst 0 dX9_fewestPasses_67 rfl ?_
        refine X_istoreL (fun v31 => [.ref 149, .int i1, .int i2, .int i3, .int i4, .int v28, .int v31]) dX9_fewestPasses_68 (Nat.le_of_ble_eq_true rfl) (Nat.le_of_ble_eq_true rfl) (xcat1_of rfl) h (fun _ => rfl) (fun v31 h => ?_)
        refine X_iconst 0 dX9_fewestPasses_70 rfl ?_
        refine X_istoreL (fun v32 => [.ref 149, .int i1, .int i2, .int i3, .int i4, .int v28, .int v31, .int v32]) dX9_fewestPasses_71 (Nat.le_of_ble_eq_true rfl) (Nat.le_of_ble_eq_true rfl) (xcat1_of rfl) h (fun _ => rfl) (fun v32 h => ?_)
        exact x_X9_fewestPasses_73 ih _ _ _ _ _ _ _ _ _ _ h
def f_X9_fewestPasses (M : xM) (a1 a2 : Int32) : Option (Int32 × xM) :=
  xb (f_X9_isOne M 1 a1) fun v33 =>
  if v33 = 0 then (
    some ((-1), M))
  else (
    xb (f_X9_in a2 1 100) fun v34 =>
    if v34 = 0 then (
      some ((-2), M))
    else (
      xl (0 : Int32) fun v35 =>
      xl (0 : Int32) fun v36 =>
      f_X9_fewestPasses_29 xFU M a1 a2 v35 v36))
set_option maxHeartbeats 1000000 in
theorem x_X9_fewestPasses {ξ : xX} {M : xM} {a1 a2 : Int32} {z : (Int32 × xM)} (h : f_X9_fewestPasses M a1 a2 = some z) : X ξ mX9_fewestPasses 0 [.ref 149, .int a1, .int a2] [] SH M 0 0 (xr (some (.int z.1)) SH z.2) := by
  rw [f_X9_fewestPasses] at h
  refine X_aload_n (x := 149) dX9_fewestPasses_0 rfl ?_
  refine X_iconst 1 dX9_fewestPasses_1 rfl ?_
  refine X_iload_n (x := a1) dX9_fewestPasses_2 rfl ?_
  refine X_vP (μ' := mX9_isOne) [.int 1, .int a1] [] kL_RX9_64 kM_X9_isOne rv_149 rfl rfl rfl dX9_fewestPasses_3 h (fun _ hv => x_X9_isOne hv) (fun v33 h => ?_)
  refine X_if_ne 11 dX9_fewestPasses_6 (by decide) h (fun h => ?_) (fun h => ?_)
  · refine X_iload_n (x := a2) dX9_fewestPasses_11 rfl ?_
    refine X_iconst 1 dX9_fewestPasses_12 rfl ?_
    refine X_bipush 100 dX9_fewestPasses_13 rfl ?_
    refine X_sP (μ' := mX9_in) [.int a2, .int 1, .int 100] [] kL_RX9_42 kM_X9_in rfl rfl rfl dX9_fewestPasses_15 h (fun _ hv => x_X9_in hv) (fun v34 h => ?_)
    refine X_if_ne 24 dX9_fewestPasses_18 (by decide) h (fun h => ?_) (fun h => ?_)
    · refine X_iconst 0 dX9_fewestPasses_24 rfl ?_
      refine X_istoreL_n (fun v35 => [.ref 149, .int a1, .int a2, .int v35]) dX9_fewestPasses_25 (Nat.le_of_ble_eq_true rfl) (Nat.le_of_ble_eq_true rfl) (xcat1_of rfl) h (fun _ => rfl) (fun v35 h => ?_)
      refine X_iconst 0 dX9_fewestPasses_26 rfl ?_
      refine X_istoreL (fun v36 => [.ref 149, .int a1, .int a2, .int v35, .int v36]) dX9_fewestPasses_27 (Nat.le_of_ble_eq_true rfl) (Nat.le_of_ble_eq_true rfl) (xcat1_of rfl) h (fun _ => rfl) (fun v36 h => ?_)
      exact x_X9_fewestPasses_29 _ _ _ _ _ _ _ h
    · refine X_bipush (-2) dX9_fewestPasses_21 rfl ?_
      exact X_retI dX9_fewestPasses_23 rfl (Nat.le_refl _) (Nat.le_refl _) h
  · refine X_iconst (-1) dX9_fewestPasses_9 rfl ?_
    exact X_retI dX9_fewestPasses_10 rfl (Nat.le_refl _) (Nat.le_refl _) h
